set_option maxHeartbeats 4000000 in
set_option maxRecDepth 100000 in
theorem xc_Way_behind {l : Launch} {D : va_G} {A : Nat → Prop} {cA : Nat → ClassId} {ad : Nat → Nat}  (a0 : Int32) (a1 : Int32) (h : XH) (q : Int32) (hf : xf_Way_behind a0 a1 = q) : CT l D vwCl (xtys cA) A ny_Way_behind (wsO ny_Way_behind prog_9_method_9_code 2 (some .int)) (rmO 2 42) [.int a0, .int a1] (xW cA ad h) (xW cA ad h) (some (.int q)) := by
  refine Met.ofW (cc := prog_9_method_9_code) (maxL := 2) (ret := (some .int)) (by decide +kernel) rfl ?_
  intro p e s m args below meth c s₁ B hml hv
  obtain ⟨hav, hP, hK, hN⟩ := hv
  have hx := B.exec
  have hb := B.bytes
  have hr := B.returns
  have hts : ∀ w ∈ lw_wd, w.before args s = true := fun w hw => atoms_spec (ws := (wsO ny_Way_behind prog_9_method_9_code 2 (some .int))) B.pre w (List.mem_cons_of_mem _ hw)
  have hown : s.vm.findClass "DrawnPaths$Way" = some m.cls := findClass_of_methodNamed B.named
  have hlocks := B.notSynchronized
  have hS : va_S A s.heap s.heap [] := va_S.rf
  have hl := lv_entry ([.int a0, .int a1]) (n := 2) (Nat.le_of_ble_eq_true rfl)
  have hE : entryFrame m args 2 = entryFrame m ([.int a0, .int a1] : List Value).toArray 2 := by rw [hav]
  rw [hE, lg_entry_eq]
  generalize (lg_sl ([.int a0, .int a1]) ++ List.replicate (2 - (lg_sl ([.int a0, .int a1])).length) Slot.unset).toArray = ls at hl ⊢
  have hl : lv_has ls 2 [(0, .int a0), (1, .int a1)] := hl
  unfold xf_Way_behind at hf
  refine lv_iload_n hx hb nd_Way_behind_0 rfl (lv_at hl 1 rfl) ?_
  refine lv_bipush (v := 34) hx hb nd_Way_behind_1 (by decide) ?_
  refine lv_icmp_ne (tgt := 13) hx hb nd_Way_behind_3 rfl (fun hc => ?_) (fun hc => ?_)
  · replace hf := (if_neg hc).symm.trans hf
    refine lv_iload_n hx hb nd_Way_behind_13 rfl (lv_at hl 0 rfl) ?_
    refine kc_S (As := [.int a0]) (rest := []) (st1 := [.int (xf_Way_quotes a0)]) ⟨hx, hb, hml, hown, hts⟩ (xc_Way_quotes a0 h _ rfl) (kb_Way_quotes hts (hts _ nw_320) ⟨Nat.le_of_ble_eq_true rfl, Nat.le_of_ble_eq_true rfl⟩) hK hN hP hS rfl hl.1 rfl rfl (Nat.le_of_ble_eq_true rfl) ⟨Nat.zero_le _, Nat.zero_le _⟩ nd_Way_behind_14 (fun H locs hP hS => ?_)
    refine lv_iconst (v := 1) hx hb nd_Way_behind_17 (by decide) ?_
    refine lv_icmp_ne (tgt := 26) hx hb nd_Way_behind_18 rfl (fun hc => ?_) (fun hc => ?_)
    · replace hf := (if_neg hc).symm.trans hf
      refine lv_iload_n hx hb nd_Way_behind_26 rfl (lv_at hl 1 rfl) ?_
      by_cases hc0 : a1 = 35
      · replace hf := (if_pos hc0).symm.trans hf
        refine lv_lookup (tgt := 156) hx hb nd_Way_behind_27 (by decide) (by rw [hc0]; try rfl) rfl ?_
        refine lv_iload_n hx hb nd_Way_behind_156 rfl (lv_at hl 0 rfl) ?_
        refine kc_S (As := [.int a0]) (rest := []) (st1 := [.int (xf_Way_ahead a0)]) ⟨hx, hb, hml, hown, hts⟩ (xc_Way_ahead a0 h _ rfl) (kb_Way_ahead hts (hts _ nw_319) ⟨Nat.le_of_ble_eq_true rfl, Nat.le_of_ble_eq_true rfl⟩) hK hN hP hS rfl hl.1 rfl rfl (Nat.le_of_ble_eq_true rfl) ⟨Nat.zero_le _, Nat.zero_le _⟩ nd_Way_behind_157 (fun H locs hP hS => ?_)
        refine kc_S (As := [.int (xf_Way_ahead a0)]) (rest := []) (st1 := [.int (xf_Way_ahead (xf_Way_ahead a0))]) ⟨hx, hb, hml, hown, hts⟩ (xc_Way_ahead (xf_Way_ahead a0) h _ rfl) (kb_Way_ahead hts (hts _ nw_319) ⟨Nat.le_of_ble_eq_true rfl, Nat.le_of_ble_eq_true rfl⟩) hK hN hP hS rfl hl.1 rfl rfl (Nat.le_of_ble_eq_true rfl) ⟨Nat.zero_le _, Nat.zero_le _⟩ nd_Way_behind_160 (fun H locs hP hS => ?_)
        obtain rfl := hf
        exact W.iret hx hb hr (fun t ht hW => ⟨rfl, by rw [ht]; exact hP, va_K.moved hW.alike hK, hS.F ht⟩) hS.2.2 nd_Way_behind_163
      replace hf := (if_neg hc0).symm.trans hf
      by_cases hc1 : a1 = 47
      · replace hf := (if_pos hc1).symm.trans hf
        refine lv_lookup (tgt := 128) hx hb nd_Way_behind_27 (by decide) (by rw [hc1]; try rfl) rfl ?_
        refine lv_iload_n hx hb nd_Way_behind_128 rfl (lv_at hl 0 rfl) ?_
        refine lv_iconst (v := 3) hx hb nd_Way_behind_129 (by decide) ?_
        refine lv_iload_n hx hb nd_Way_behind_130 rfl (lv_at hl 0 rfl) ?_
        refine kc_S (As := [.int a0]) (rest := [.int (3 : Int32), .int a0]) (st1 := [.int (xf_Way_direction a0), .int (3 : Int32), .int a0]) ⟨hx, hb, hml, hown, hts⟩ (xc_Way_direction a0 h _ rfl) (kb_Way_direction hts (hts _ nw_306) ⟨Nat.le_of_ble_eq_true rfl, Nat.le_of_ble_eq_true rfl⟩) hK hN hP hS rfl hl.1 rfl rfl (Nat.le_of_ble_eq_true rfl) ⟨Nat.zero_le _, Nat.zero_le _⟩ nd_Way_behind_131 (fun H locs hP hS => ?_)
        refine lv_isub hx hb nd_Way_behind_134 ?_
        refine kc_S (As := [.int a0, .int ((3 : Int32) - (xf_Way_direction a0))]) (rest := []) (st1 := [.int (xf_Way_directed a0 ((3 : Int32) - (xf_Way_direction a0)))]) ⟨hx, hb, hml, hown, hts⟩ (xc_Way_directed a0 ((3 : Int32) - (xf_Way_direction a0)) h _ rfl) (kb_Way_directed hts (hts _ nw_309) ⟨Nat.le_of_ble_eq_true rfl, Nat.le_of_ble_eq_true rfl⟩) hK hN hP hS rfl hl.1 rfl rfl (Nat.le_of_ble_eq_true rfl) ⟨Nat.zero_le _, Nat.zero_le _⟩ nd_Way_behind_135 (fun H locs hP hS => ?_)
        refine kc_S (As := [.int (xf_Way_directed a0 ((3 : Int32) - (xf_Way_direction a0)))]) (rest := []) (st1 := [.int (xf_Way_ahead (xf_Way_directed a0 ((3 : Int32) - (xf_Way_direction a0))))]) ⟨hx, hb, hml, hown, hts⟩ (xc_Way_ahead (xf_Way_directed a0 ((3 : Int32) - (xf_Way_direction a0))) h _ rfl) (kb_Way_ahead hts (hts _ nw_319) ⟨Nat.le_of_ble_eq_true rfl, Nat.le_of_ble_eq_true rfl⟩) hK hN hP hS rfl hl.1 rfl rfl (Nat.le_of_ble_eq_true rfl) ⟨Nat.zero_le _, Nat.zero_le _⟩ nd_Way_behind_138 (fun H locs hP hS => ?_)
        obtain rfl := hf
        exact W.iret hx hb hr (fun t ht hW => ⟨rfl, by rw [ht]; exact hP, va_K.moved hW.alike hK, hS.F ht⟩) hS.2.2 nd_Way_behind_141
      replace hf := (if_neg hc1).symm.trans hf
      by_cases hc2 : a1 = 60
      · replace hf := (if_pos hc2).symm.trans hf
        refine lv_lookup (tgt := 110) hx hb nd_Way_behind_27 (by decide) (by rw [hc2]; try rfl) rfl ?_
        refine lv_iload_n hx hb nd_Way_behind_110 rfl (lv_at hl 0 rfl) ?_
        refine lv_iconst (v := 2) hx hb nd_Way_behind_111 (by decide) ?_
        refine kc_S (As := [.int a0, .int (2 : Int32)]) (rest := []) (st1 := [.int (xf_Way_directed a0 (2 : Int32))]) ⟨hx, hb, hml, hown, hts⟩ (xc_Way_directed a0 (2 : Int32) h _ rfl) (kb_Way_directed hts (hts _ nw_309) ⟨Nat.le_of_ble_eq_true rfl, Nat.le_of_ble_eq_true rfl⟩) hK hN hP hS rfl hl.1 rfl rfl (Nat.le_of_ble_eq_true rfl) ⟨Nat.zero_le _, Nat.zero_le _⟩ nd_Way_behind_112 (fun H locs hP hS => ?_)
        refine kc_S (As := [.int (xf_Way_directed a0 (2 : Int32))]) (rest := []) (st1 := [.int (xf_Way_ahead (xf_Way_directed a0 (2 : Int32)))]) ⟨hx, hb, hml, hown, hts⟩ (xc_Way_ahead (xf_Way_directed a0 (2 : Int32)) h _ rfl) (kb_Way_ahead hts (hts _ nw_319) ⟨Nat.le_of_ble_eq_true rfl, Nat.le_of_ble_eq_true rfl⟩) hK hN hP hS rfl hl.1 rfl rfl (Nat.le_of_ble_eq_true rfl) ⟨Nat.zero_le _, Nat.zero_le _⟩ nd_Way_behind_115 (fun H locs hP hS => ?_)
        obtain rfl := hf
        exact W.iret hx hb hr (fun t ht hW => ⟨rfl, by rw [ht]; exact hP, va_K.moved hW.alike hK, hS.F ht⟩) hS.2.2 nd_Way_behind_118
      replace hf := (if_neg hc2).symm.trans hf
      by_cases hc3 : a1 = 62
      · replace hf := (if_pos hc3).symm.trans hf
        refine lv_lookup (tgt := 92) hx hb nd_Way_behind_27 (by decide) (by rw [hc3]; try rfl) rfl ?_
        refine lv_iload_n hx hb nd_Way_behind_92 rfl (lv_at hl 0 rfl) ?_
        refine lv_iconst (v := 0) hx hb nd_Way_behind_93 (by decide) ?_
        refine kc_S (As := [.int a0, .int (0 : Int32)]) (rest := []) (st1 := [.int (xf_Way_directed a0 (0 : Int32))]) ⟨hx, hb, hml, hown, hts⟩ (xc_Way_directed a0 (0 : Int32) h _ rfl) (kb_Way_directed hts (hts _ nw_309) ⟨Nat.le_of_ble_eq_true rfl, Nat.le_of_ble_eq_true rfl⟩) hK hN hP hS rfl hl.1 rfl rfl (Nat.le_of_ble_eq_true rfl) ⟨Nat.zero_le _, Nat.zero_le _⟩ nd_Way_behind_94 (fun H locs hP hS => ?_)
        refine kc_S (As := [.int (xf_Way_directed a0 (0 : Int32))]) (rest := []) (st1 := [.int (xf_Way_ahead (xf_Way_directed a0 (0 : Int32)))]) ⟨hx, hb, hml, hown, hts⟩ (xc_Way_ahead (xf_Way_directed a0 (0 : Int32)) h _ rfl) (kb_Way_ahead hts (hts _ nw_319) ⟨Nat.le_of_ble_eq_true rfl, Nat.le_of_ble_eq_true rfl⟩) hK hN hP hS rfl hl.1 rfl rfl (Nat.le_of_ble_eq_true rfl) ⟨Nat.zero_le _, Nat.zero_le _⟩ nd_Way_behind_97 (fun H locs hP hS => ?_)
        obtain rfl := hf
        exact W.iret hx hb hr (fun t ht hW => ⟨rfl, by rw [ht]; exact hP, va_K.moved hW.alike hK, hS.F ht⟩) hS.2.2 nd_Way_behind_100
      replace hf := (if_neg hc3).symm.trans hf
      by_cases hc4 : a1 = 92
      · replace hf := (if_pos hc4).symm.trans hf
        refine lv_lookup (tgt := 142) hx hb nd_Way_behind_27 (by decide) (by rw [hc4]; try rfl) rfl ?_
        refine lv_iload_n hx hb nd_Way_behind_142 rfl (lv_at hl 0 rfl) ?_
        refine lv_iload_n hx hb nd_Way_behind_143 rfl (lv_at hl 0 rfl) ?_
        refine kc_S (As := [.int a0]) (rest := [.int a0]) (st1 := [.int (xf_Way_direction a0), .int a0]) ⟨hx, hb, hml, hown, hts⟩ (xc_Way_direction a0 h _ rfl) (kb_Way_direction hts (hts _ nw_306) ⟨Nat.le_of_ble_eq_true rfl, Nat.le_of_ble_eq_true rfl⟩) hK hN hP hS rfl hl.1 rfl rfl (Nat.le_of_ble_eq_true rfl) ⟨Nat.zero_le _, Nat.zero_le _⟩ nd_Way_behind_144 (fun H locs hP hS => ?_)
        refine lv_iconst (v := 1) hx hb nd_Way_behind_147 (by decide) ?_
        refine lv_ixor hx hb nd_Way_behind_148 ?_
        refine kc_S (As := [.int a0, .int ((xf_Way_direction a0) ^^^ (1 : Int32))]) (rest := []) (st1 := [.int (xf_Way_directed a0 ((xf_Way_direction a0) ^^^ (1 : Int32)))]) ⟨hx, hb, hml, hown, hts⟩ (xc_Way_directed a0 ((xf_Way_direction a0) ^^^ (1 : Int32)) h _ rfl) (kb_Way_directed hts (hts _ nw_309) ⟨Nat.le_of_ble_eq_true rfl, Nat.le_of_ble_eq_true rfl⟩) hK hN hP hS rfl hl.1 rfl rfl (Nat.le_of_ble_eq_true rfl) ⟨Nat.zero_le _, Nat.zero_le _⟩ nd_Way_behind_149 (fun H locs hP hS => ?_)
        refine kc_S (As := [.int (xf_Way_directed a0 ((xf_Way_direction a0) ^^^ (1 : Int32)))]) (rest := []) (st1 := [.int (xf_Way_ahead (xf_Way_directed a0 ((xf_Way_direction a0) ^^^ (1 : Int32))))]) ⟨hx, hb, hml, hown, hts⟩ (xc_Way_ahead (xf_Way_directed a0 ((xf_Way_direction a0) ^^^ (1 : Int32))) h _ rfl) (kb_Way_ahead hts (hts _ nw_319) ⟨Nat.le_of_ble_eq_true rfl, Nat.le_of_ble_eq_true rfl⟩) hK hN hP hS rfl hl.1 rfl rfl (Nat.le_of_ble_eq_true rfl) ⟨Nat.zero_le _, Nat.zero_le _⟩ nd_Way_behind_152 (fun H locs hP hS => ?_)
        obtain rfl := hf
        exact W.iret hx hb hr (fun t ht hW => ⟨rfl, by rw [ht]; exact hP, va_K.moved hW.alike hK, hS.F ht⟩) hS.2.2 nd_Way_behind_155
      replace hf := (if_neg hc4).symm.trans hf
      by_cases hc5 : a1 = 94
      · replace hf := (if_pos hc5).symm.trans hf
        refine lv_lookup (tgt := 119) hx hb nd_Way_behind_27 (by decide) (by rw [hc5]; try rfl) rfl ?_
        refine lv_iload_n hx hb nd_Way_behind_119 rfl (lv_at hl 0 rfl) ?_
        refine lv_iconst (v := 3) hx hb nd_Way_behind_120 (by decide) ?_
        refine kc_S (As := [.int a0, .int (3 : Int32)]) (rest := []) (st1 := [.int (xf_Way_directed a0 (3 : Int32))]) ⟨hx, hb, hml, hown, hts⟩ (xc_Way_directed a0 (3 : Int32) h _ rfl) (kb_Way_directed hts (hts _ nw_309) ⟨Nat.le_of_ble_eq_true rfl, Nat.le_of_ble_eq_true rfl⟩) hK hN hP hS rfl hl.1 rfl rfl (Nat.le_of_ble_eq_true rfl) ⟨Nat.zero_le _, Nat.zero_le _⟩ nd_Way_behind_121 (fun H locs hP hS => ?_)
        refine kc_S (As := [.int (xf_Way_directed a0 (3 : Int32))]) (rest := []) (st1 := [.int (xf_Way_ahead (xf_Way_directed a0 (3 : Int32)))]) ⟨hx, hb, hml, hown, hts⟩ (xc_Way_ahead (xf_Way_directed a0 (3 : Int32)) h _ rfl) (kb_Way_ahead hts (hts _ nw_319) ⟨Nat.le_of_ble_eq_true rfl, Nat.le_of_ble_eq_true rfl⟩) hK hN hP hS rfl hl.1 rfl rfl (Nat.le_of_ble_eq_true rfl) ⟨Nat.zero_le _, Nat.zero_le _⟩ nd_Way_behind_124 (fun H locs hP hS => ?_)
        obtain rfl := hf
        exact W.iret hx hb hr (fun t ht hW => ⟨rfl, by rw [ht]; exact hP, va_K.moved hW.alike hK, hS.F ht⟩) hS.2.2 nd_Way_behind_127
      replace hf := (if_neg hc5).symm.trans hf
      by_cases hc6 : a1 = 118
      · replace hf := (if_pos hc6).symm.trans hf
        refine lv_lookup (tgt := 101) hx hb nd_Way_behind_27 (by decide) (by rw [hc6]; try rfl) rfl ?_
        refine lv_iload_n hx hb nd_Way_behind_101 rfl (lv_at hl 0 rfl) ?_
        refine lv_iconst (v := 1) hx hb nd_Way_behind_102 (by decide) ?_
        refine kc_S (As := [.int a0, .int (1 : Int32)]) (rest := []) (st1 := [.int (xf_Way_directed a0 (1 : Int32))]) ⟨hx, hb, hml, hown, hts⟩ (xc_Way_directed a0 (1 : Int32) h _ rfl) (kb_Way_directed hts (hts _ nw_309) ⟨Nat.le_of_ble_eq_true rfl, Nat.le_of_ble_eq_true rfl⟩) hK hN hP hS rfl hl.1 rfl rfl (Nat.le_of_ble_eq_true rfl) ⟨Nat.zero_le _, Nat.zero_le _⟩ nd_Way_behind_103 (fun H locs hP hS => ?_)
        refine kc_S (As := [.int (xf_Way_directed a0 (1 : Int32))]) (rest := []) (st1 := [.int (xf_Way_ahead (xf_Way_directed a0 (1 : Int32)))]) ⟨hx, hb, hml, hown, hts⟩ (xc_Way_ahead (xf_Way_directed a0 (1 : Int32)) h _ rfl) (kb_Way_ahead hts (hts _ nw_319) ⟨Nat.le_of_ble_eq_true rfl, Nat.le_of_ble_eq_true rfl⟩) hK hN hP hS rfl hl.1 rfl rfl (Nat.le_of_ble_eq_true rfl) ⟨Nat.zero_le _, Nat.zero_le _⟩ nd_Way_behind_106 (fun H locs hP hS => ?_)
        obtain rfl := hf
        exact W.iret hx hb hr (fun t ht hW => ⟨rfl, by rw [ht]; exact hP, va_K.moved hW.alike hK, hS.F ht⟩) hS.2.2 nd_Way_behind_109
      replace hf := (if_neg hc6).symm.trans hf
      refine lv_lookup (tgt := 164) hx hb nd_Way_behind_27 (by decide) ((lv_osw (a := 35) hc0 (by decide)).trans ((lv_osw (a := 47) hc1 (by decide)).trans ((lv_osw (a := 60) hc2 (by decide)).trans ((lv_osw (a := 62) hc3 (by decide)).trans ((lv_osw (a := 92) hc4 (by decide)).trans ((lv_osw (a := 94) hc5 (by decide)).trans ((lv_osw (a := 118) hc6 (by decide)).trans (rfl)))))))) rfl ?_
      refine lv_iload_n hx hb nd_Way_behind_164 rfl (lv_at hl 0 rfl) ?_
      refine kc_S (As := [.int a0]) (rest := []) (st1 := [.int (xf_Way_ahead a0)]) ⟨hx, hb, hml, hown, hts⟩ (xc_Way_ahead a0 h _ rfl) (kb_Way_ahead hts (hts _ nw_319) ⟨Nat.le_of_ble_eq_true rfl, Nat.le_of_ble_eq_true rfl⟩) hK hN hP hS rfl hl.1 rfl rfl (Nat.le_of_ble_eq_true rfl) ⟨Nat.zero_le _, Nat.zero_le _⟩ nd_Way_behind_165 (fun H locs hP hS => ?_)
      obtain rfl := hf
      exact W.iret hx hb hr (fun t ht hW => ⟨rfl, by rw [ht]; exact hP, va_K.moved hW.alike hK, hS.F ht⟩) hS.2.2 nd_Way_behind_168
    · replace hf := (if_pos hc).symm.trans hf
      refine lv_iload_n hx hb nd_Way_behind_21 rfl (lv_at hl 0 rfl) ?_
      refine kc_S (As := [.int a0]) (rest := []) (st1 := [.int (xf_Way_ahead a0)]) ⟨hx, hb, hml, hown, hts⟩ (xc_Way_ahead a0 h _ rfl) (kb_Way_ahead hts (hts _ nw_319) ⟨Nat.le_of_ble_eq_true rfl, Nat.le_of_ble_eq_true rfl⟩) hK hN hP hS rfl hl.1 rfl rfl (Nat.le_of_ble_eq_true rfl) ⟨Nat.zero_le _, Nat.zero_le _⟩ nd_Way_behind_22 (fun H locs hP hS => ?_)
      obtain rfl := hf
      exact W.iret hx hb hr (fun t ht hW => ⟨rfl, by rw [ht]; exact hP, va_K.moved hW.alike hK, hS.F ht⟩) hS.2.2 nd_Way_behind_25
  · replace hf := (if_pos hc).symm.trans hf
    refine lv_iload_n hx hb nd_Way_behind_6 rfl (lv_at hl 0 rfl) ?_
    refine lv_iconst (v := 1) hx hb nd_Way_behind_7 (by decide) ?_
    refine lv_ixor hx hb nd_Way_behind_8 ?_
    refine kc_S (As := [.int (a0 ^^^ (1 : Int32))]) (rest := []) (st1 := [.int (xf_Way_ahead (a0 ^^^ (1 : Int32)))]) ⟨hx, hb, hml, hown, hts⟩ (xc_Way_ahead (a0 ^^^ (1 : Int32)) h _ rfl) (kb_Way_ahead hts (hts _ nw_319) ⟨Nat.le_of_ble_eq_true rfl, Nat.le_of_ble_eq_true rfl⟩) hK hN hP hS rfl hl.1 rfl rfl (Nat.le_of_ble_eq_true rfl) ⟨Nat.zero_le _, Nat.zero_le _⟩ nd_Way_behind_9 (fun H locs hP hS => ?_)
    obtain rfl := hf
    exact W.iret hx hb hr (fun t ht hW => ⟨rfl, by rw [ht]; exact hP, va_K.moved hW.alike hK, hS.F ht⟩) hS.2.2 nd_Way_behind_12
set_option maxHeartbeats 4000000 in
set_option maxRecDepth 100000 in
theorem xc_Run_pass {l : Launch} {D : va_G} {A : Nat → Prop} {cA : Nat → ClassId} {ad : Nat → Nat} (hD : wdD 61 A ad) (k1 : Nat) (a2 : Int32) (h : XH) (q : Int32 × XH) (hk1 : k1 < 4) (hf : xf_Run_pass k1 a2 h = some q) : CT l D vwCl (xtys cA) A ny_Run_pass (wsO ny_Run_pass prog_7_method_9_code 3 (some .int)) (rmO 4 104) [.ref (ad 6), .ref (ad (k1 + 19)), .int a2] (xW cA ad h) (xW cA ad q.2) (some (.int q.1)) := by
  refine Met.ofW (cc := prog_7_method_9_code) (maxL := 3) (ret := (some .int)) (by decide +kernel) rfl ?_
  intro p e s m args below meth c s₁ B hml hv
  obtain ⟨hav, hP, hK, hN⟩ := hv
  have hx := B.exec
  have hb := B.bytes
  have hr := B.returns
  have hts : ∀ w ∈ lw_wd, w.before args s = true := fun w hw => atoms_spec (ws := (wsO ny_Run_pass prog_7_method_9_code 3 (some .int))) B.pre w (List.mem_cons_of_mem _ hw)
  have hown : s.vm.findClass "DrawnPaths$Run" = some m.cls := findClass_of_methodNamed B.named
  have hlocks := B.notSynchronized
  have hS : va_S A s.heap s.heap [] := va_S.rf
  have hl := lv_entry ([.ref (ad 6), .ref (ad (k1 + 19)), .int a2]) (n := 3) (Nat.le_of_ble_eq_true rfl)
  have hE : entryFrame m args 3 = entryFrame m ([.ref (ad 6), .ref (ad (k1 + 19)), .int a2] : List Value).toArray 3 := by rw [hav]
  rw [hE, lg_entry_eq]
  generalize (lg_sl ([.ref (ad 6), .ref (ad (k1 + 19)), .int a2]) ++ List.replicate (3 - (lg_sl ([.ref (ad 6), .ref (ad (k1 + 19)), .int a2])).length) Slot.unset).toArray = ls at hl ⊢
  have hl : lv_has ls 3 [(0, .ref (ad 6)), (1, .ref (ad (k1 + 19))), (2, .int a2)] := hl
  have J20 : ∀ (H : Heap) (locs : List Loc) (ls : Array Slot) (h : XH) (hP : va_P D vwCl (xW cA ad h) H) (v1 : Nat) (v2 : Int32) (hv1 : v1 < 4) (hS : va_S A s.heap H locs) (hl : lv_has ls 3 [(0, .ref (ad 6)), (1, .ref (ad (v1 + 19))), (2, .int v2)]) (hf : xf_Run_pass_J20 v1 v2 h = some q), W p l e (headSpec (wsO ny_Run_pass prog_7_method_9_code 3 (some .int)) (rmO 4 104)).room s m args below meth c H locs 0 0 (MQ below (RetQ D vwCl (xtys cA) A (some (.int q.1)) (xW cA ad q.2)) args s 0 0 A) (F0 m 20 ls []) := by
    intro H locs ls h hP v1 v2 hv1 hS hl hf
    unfold xf_Run_pass_J20 at hf
    refine lv_aload_n hx hb nd_Run_pass_20 rfl (lv_at hl 1 rfl) ?_
    refine xg_Ptr_way hx hb hts hown hK hP hv1 (hts _ nw_129) nd_Run_pass_21 ?_
    refine kc_S (As := [.int (xh_pway h v1)]) (rest := []) (st1 := [.int (xf_Way_quotes (xh_pway h v1))]) ⟨hx, hb, hml, hown, hts⟩ (xc_Way_quotes (xh_pway h v1) h _ rfl) (kb_Way_quotes hts (hts _ nw_606) ⟨Nat.le_of_ble_eq_true rfl, Nat.le_of_ble_eq_true rfl⟩) hK hN hP hS rfl hl.1 rfl rfl (Nat.le_of_ble_eq_true rfl) ⟨Nat.zero_le _, Nat.zero_le _⟩ nd_Run_pass_24 (fun H locs hP hS => ?_)
    refine lv_if_ne (tgt := 39) hx hb nd_Run_pass_27 rfl (fun hc => ?_) (fun hc => ?_)
    · replace hf := (if_neg hc).symm.trans hf
      refine lv_iload_n hx hb nd_Run_pass_39 rfl (lv_at hl 2 rfl) ?_
      refine lv_bipush (v := 34) hx hb nd_Run_pass_40 (by decide) ?_
      refine lv_icmp_eq (tgt := 51) hx hb nd_Run_pass_42 rfl (fun hc => ?_) (fun hc => ?_)
      · replace hf := (if_pos hc).symm.trans hf
        refine lv_aload_n hx hb nd_Run_pass_51 rfl (lv_at hl 1 rfl) ?_
        refine lv_aload_n hx hb nd_Run_pass_52 rfl (lv_at hl 1 rfl) ?_
        refine xg_Ptr_way hx hb hts hown hK hP hv1 (hts _ nw_129) nd_Run_pass_53 ?_
        refine lv_iload_n hx hb nd_Run_pass_56 rfl (lv_at hl 2 rfl) ?_
        refine kc_S (As := [.int (xh_pway h v1), .int v2]) (rest := [.ref (ad (v1 + 19))]) (st1 := [.int (xf_Way_behind (xh_pway h v1) v2), .ref (ad (v1 + 19))]) ⟨hx, hb, hml, hown, hts⟩ (xc_Way_behind (xh_pway h v1) v2 h _ rfl) (kb_Way_behind hts (hts _ nw_614) ⟨Nat.le_of_ble_eq_true rfl, Nat.le_of_ble_eq_true rfl⟩) hK hN hP hS rfl hl.1 rfl rfl (Nat.le_of_ble_eq_true rfl) ⟨Nat.zero_le _, Nat.zero_le _⟩ nd_Run_pass_57 (fun H locs hP hS => ?_)
        refine xp_Ptr_way hx hb hts hown hK hD hP hS hv1 (hts _ nw_129) nd_Run_pass_60 (fun H locs hP hS => ?_)
        obtain ⟨g1, hg1, hf⟩ := Option.bind_eq_some_iff.mp hf
        rw [Option.some.inj hg1] at hP
        refine lv_iconst (v := 0) hx hb nd_Run_pass_63 (by decide) ?_
        obtain rfl := (Option.some.inj hf)
        exact W.iret hx hb hr (fun t ht hW => ⟨rfl, by rw [ht]; exact hP, va_K.moved hW.alike hK, hS.F ht⟩) hS.2.2 nd_Run_pass_64
      · replace hf := (if_neg hc).symm.trans hf
        refine lv_aload_n hx hb nd_Run_pass_45 rfl (lv_at hl 1 rfl) ?_
        refine lv_iload_n hx hb nd_Run_pass_46 rfl (lv_at hl 2 rfl) ?_
        refine lv_i2l hx hb nd_Run_pass_47 rfl ?_
        obtain ⟨q2, hq2, hf⟩ := Option.bind_eq_some_iff.mp hf
        refine kc_V (As := [.long v2.toInt64]) (rest := []) (st1 := []) ⟨hx, hb, hml, hown, hts⟩ (xc_Ptr_push hD v1 v2.toInt64 h _ hv1 hq2) (kb_Ptr_push hts (hts _ nw_567) ⟨Nat.le_of_ble_eq_true rfl, Nat.le_of_ble_eq_true rfl⟩) (xr_Pointer hK hP hv1) hK hN hP hS rfl hl.1 rfl rfl (Nat.le_of_ble_eq_true rfl) ⟨Nat.zero_le _, Nat.zero_le _⟩ nd_Run_pass_48 (fun H locs hP hS => ?_)
        refine lv_aload_n hx hb nd_Run_pass_51 rfl (lv_at hl 1 rfl) ?_
        refine lv_aload_n hx hb nd_Run_pass_52 rfl (lv_at hl 1 rfl) ?_
        refine xg_Ptr_way hx hb hts hown hK hP hv1 (hts _ nw_129) nd_Run_pass_53 ?_
        refine lv_iload_n hx hb nd_Run_pass_56 rfl (lv_at hl 2 rfl) ?_
        refine kc_S (As := [.int (xh_pway q2 v1), .int v2]) (rest := [.ref (ad (v1 + 19))]) (st1 := [.int (xf_Way_behind (xh_pway q2 v1) v2), .ref (ad (v1 + 19))]) ⟨hx, hb, hml, hown, hts⟩ (xc_Way_behind (xh_pway q2 v1) v2 q2 _ rfl) (kb_Way_behind hts (hts _ nw_614) ⟨Nat.le_of_ble_eq_true rfl, Nat.le_of_ble_eq_true rfl⟩) hK hN hP hS rfl hl.1 rfl rfl (Nat.le_of_ble_eq_true rfl) ⟨Nat.zero_le _, Nat.zero_le _⟩ nd_Run_pass_57 (fun H locs hP hS => ?_)
        refine xp_Ptr_way hx hb hts hown hK hD hP hS hv1 (hts _ nw_129) nd_Run_pass_60 (fun H locs hP hS => ?_)
        obtain ⟨g3, hg3, hf⟩ := Option.bind_eq_some_iff.mp hf
        rw [Option.some.inj hg3] at hP
        refine lv_iconst (v := 0) hx hb nd_Run_pass_63 (by decide) ?_
        obtain rfl := (Option.some.inj hf)
        exact W.iret hx hb hr (fun t ht hW => ⟨rfl, by rw [ht]; exact hP, va_K.moved hW.alike hK, hS.F ht⟩) hS.2.2 nd_Run_pass_64
    · replace hf := (if_pos hc).symm.trans hf
      refine lv_aload_n hx hb nd_Run_pass_30 rfl (lv_at hl 0 rfl) ?_
      refine lv_aload_n hx hb nd_Run_pass_31 rfl (lv_at hl 1 rfl) ?_
      refine lv_iload_n hx hb nd_Run_pass_32 rfl (lv_at hl 2 rfl) ?_
      obtain ⟨q4, hq4, hf⟩ := Option.bind_eq_some_iff.mp hf
      refine kc_V (As := [.ref (ad (v1 + 19)), .int v2]) (rest := []) (st1 := []) ⟨hx, hb, hml, hown, hts⟩ (xc_Run_reckon hD v1 v2 h _ hv1 hq4) (kb_Run_reckon hts (hts _ nw_607) ⟨Nat.le_of_ble_eq_true rfl, Nat.le_of_ble_eq_true rfl⟩) (xr_Run hK hP) hK hN hP hS rfl hl.1 rfl rfl (Nat.le_of_ble_eq_true rfl) ⟨Nat.zero_le _, Nat.zero_le _⟩ nd_Run_pass_33 (fun H locs hP hS => ?_)
      refine lv_goto hx hb nd_Run_pass_36 (tgt := 51) rfl ?_
      refine lv_aload_n hx hb nd_Run_pass_51 rfl (lv_at hl 1 rfl) ?_
      refine lv_aload_n hx hb nd_Run_pass_52 rfl (lv_at hl 1 rfl) ?_
      refine xg_Ptr_way hx hb hts hown hK hP hv1 (hts _ nw_129) nd_Run_pass_53 ?_
      refine lv_iload_n hx hb nd_Run_pass_56 rfl (lv_at hl 2 rfl) ?_
      refine kc_S (As := [.int (xh_pway q4 v1), .int v2]) (rest := [.ref (ad (v1 + 19))]) (st1 := [.int (xf_Way_behind (xh_pway q4 v1) v2), .ref (ad (v1 + 19))]) ⟨hx, hb, hml, hown, hts⟩ (xc_Way_behind (xh_pway q4 v1) v2 q4 _ rfl) (kb_Way_behind hts (hts _ nw_614) ⟨Nat.le_of_ble_eq_true rfl, Nat.le_of_ble_eq_true rfl⟩) hK hN hP hS rfl hl.1 rfl rfl (Nat.le_of_ble_eq_true rfl) ⟨Nat.zero_le _, Nat.zero_le _⟩ nd_Run_pass_57 (fun H locs hP hS => ?_)
      refine xp_Ptr_way hx hb hts hown hK hD hP hS hv1 (hts _ nw_129) nd_Run_pass_60 (fun H locs hP hS => ?_)
      obtain ⟨g5, hg5, hf⟩ := Option.bind_eq_some_iff.mp hf
      rw [Option.some.inj hg5] at hP
      refine lv_iconst (v := 0) hx hb nd_Run_pass_63 (by decide) ?_
      obtain rfl := (Option.some.inj hf)
      exact W.iret hx hb hr (fun t ht hW => ⟨rfl, by rw [ht]; exact hP, va_K.moved hW.alike hK, hS.F ht⟩) hS.2.2 nd_Run_pass_64
  unfold xf_Run_pass at hf
  refine lv_aload_n hx hb nd_Run_pass_0 rfl (lv_at hl 1 rfl) ?_
  refine xg_Ptr_way hx hb hts hown hK hP hk1 (hts _ nw_129) nd_Run_pass_1 ?_
  refine lv_iload_n hx hb nd_Run_pass_4 rfl (lv_at hl 2 rfl) ?_
  refine kc_S (As := [.int (xh_pway h k1), .int a2]) (rest := []) (st1 := [.int (xf_Run_pushesMore (xh_pway h k1) a2)]) ⟨hx, hb, hml, hown, hts⟩ (xc_Run_pushesMore (xh_pway h k1) a2 h _ rfl) (kb_Run_pushesMore hts (hts _ nw_603) ⟨Nat.le_of_ble_eq_true rfl, Nat.le_of_ble_eq_true rfl⟩) hK hN hP hS rfl hl.1 rfl rfl (Nat.le_of_ble_eq_true rfl) ⟨Nat.zero_le _, Nat.zero_le _⟩ nd_Run_pass_5 (fun H locs hP hS => ?_)
  refine lv_if_eq (tgt := 20) hx hb nd_Run_pass_8 rfl (fun hc => ?_) (fun hc => ?_)
  · replace hf := (if_pos hc).symm.trans hf
    exact J20 _ _ _ h hP k1 a2 hk1 hS (lv_sub hl [0, 1, 2] rfl) hf
  · replace hf := (if_neg hc).symm.trans hf
    refine lv_aload_n hx hb nd_Run_pass_11 rfl (lv_at hl 1 rfl) ?_
    refine kc_V (As := []) (rest := []) (st1 := [.int (xf_Ptr_isFull k1 h)]) ⟨hx, hb, hml, hown, hts⟩ (xc_Ptr_isFull k1 h _ hk1 rfl) (kb_Ptr_isFull hts (hts _ nw_563) ⟨Nat.le_of_ble_eq_true rfl, Nat.le_of_ble_eq_true rfl⟩) (xr_Pointer hK hP hk1) hK hN hP hS rfl hl.1 rfl rfl (Nat.le_of_ble_eq_true rfl) ⟨Nat.zero_le _, Nat.zero_le _⟩ nd_Run_pass_12 (fun H locs hP hS => ?_)
    refine lv_if_eq (tgt := 20) hx hb nd_Run_pass_15 rfl (fun hc => ?_) (fun hc => ?_)
    · replace hf := (if_pos hc).symm.trans hf
      exact J20 _ _ _ h hP k1 a2 hk1 hS (lv_sub hl [0, 1, 2] rfl) hf
    · replace hf := (if_neg hc).symm.trans hf
      refine lv_iconst (v := 2) hx hb nd_Run_pass_18 (by decide) ?_
      obtain rfl := (Option.some.inj hf)
      exact W.iret hx hb hr (fun t ht hW => ⟨rfl, by rw [ht]; exact hP, va_K.moved hW.alike hK, hS.F ht⟩) hS.2.2 nd_Run_pass_19
set_option maxHeartbeats 4000000 in
set_option maxRecDepth 100000 in
theorem xc_Run_remove {l : Launch} {D : va_G} {A : Nat → Prop} {cA : Nat → ClassId} {ad : Nat → Nat} (hD : wdD 61 A ad) (fuel : Nat) (a1 : Int32) (h : XH) (q : XH) (hf : xf_Run_remove fuel a1 h = some q) : CT l D vwCl (xtys cA) A ny_Run_remove (wsO ny_Run_remove prog_7_method_8_code 4 none) (rmO 0 0) [.ref (ad 6), .int a1] (xW cA ad h) (xW cA ad q) none := by
  refine Met.ofW (cc := prog_7_method_8_code) (maxL := 4) (ret := none) (by decide +kernel) rfl ?_
  intro p e s m args below meth c s₁ B hml hv
  obtain ⟨hav, hP, hK, hN⟩ := hv
  have hx := B.exec
  have hb := B.bytes
  have hr := B.returns
  have hts : ∀ w ∈ lw_wd, w.before args s = true := fun w hw => atoms_spec (ws := (wsO ny_Run_remove prog_7_method_8_code 4 none)) B.pre w (List.mem_cons_of_mem _ hw)
  have hown : s.vm.findClass "DrawnPaths$Run" = some m.cls := findClass_of_methodNamed B.named
  have hlocks := B.notSynchronized
  have hS : va_S A s.heap s.heap [] := va_S.rf
  have hl := lv_entry ([.ref (ad 6), .int a1]) (n := 4) (Nat.le_of_ble_eq_true rfl)
  have hE : entryFrame m args 4 = entryFrame m ([.ref (ad 6), .int a1] : List Value).toArray 4 := by rw [hav]
  rw [hE, lg_entry_eq]
  generalize (lg_sl ([.ref (ad 6), .int a1]) ++ List.replicate (4 - (lg_sl ([.ref (ad 6), .int a1])).length) Slot.unset).toArray = ls at hl ⊢
  have hl : lv_has ls 4 [(0, .ref (ad 6)), (1, .int a1)] := hl
  have L11 : ∀ (n : Nat) (H : Heap) (locs : List Loc) (ls : Array Slot) (h : XH) (hP : va_P D vwCl (xW cA ad h) H) (v2 : Nat) (v3 : Int32) (hv2 : v2 < 4) (hS : va_S A s.heap H locs) (hl : lv_has ls 4 [(0, .ref (ad 6)), (2, .ref (ad (v2 + 19))), (3, .int v3)]) (hf : xf_Run_remove_L11 fuel n v2 v3 h = some q), W p l e (headSpec (wsO ny_Run_remove prog_7_method_8_code 4 none) (rmO 0 0)).room s m args below meth c H locs 0 0 (MQ below (RetQ D vwCl (xtys cA) A none (xW cA ad q)) args s 0 0 A) (F0 m 11 ls []) := by
    intro n
    induction n with
    | zero =>
      intro H locs ls h hP v2 v3 hv2 hS hl hf
      rw [xf_Run_remove_L11] at hf
      cases hf
    | succ nL11 ihL11 =>
      intro H locs ls h hP v2 v3 hv2 hS hl hf
      rw [xf_Run_remove_L11] at hf
      refine lv_iload_n hx hb nd_Run_remove_11 rfl (lv_at hl 2 rfl) ?_
      refine lv_aload_n hx hb nd_Run_remove_12 rfl (lv_at hl 0 rfl) ?_
      refine xg_Run_living hx hb hts hown hK hP (hts _ nw_155) nd_Run_remove_13 ?_
      refine lv_icmp_ge (tgt := 39) hx hb nd_Run_remove_16 rfl (fun hc => ?_) (fun hc => ?_)
      · replace hf := (if_pos hc).symm.trans hf
        refine lv_aload_n hx hb nd_Run_remove_39 rfl (lv_at hl 0 rfl) ?_
        refine lv_dup hx hb nd_Run_remove_40 rfl ?_
        refine xg_Run_living hx hb hts hown hK hP (hts _ nw_155) nd_Run_remove_41 ?_
        refine lv_iconst (v := 1) hx hb nd_Run_remove_44 (by decide) ?_
        refine lv_isub hx hb nd_Run_remove_45 ?_
        refine xp_Run_living hx hb hts hown hK hD hP hS (hts _ nw_155) nd_Run_remove_46 (fun H locs hP hS => ?_)
        obtain ⟨g3, hg3, hf⟩ := Option.bind_eq_some_iff.mp hf
        rw [Option.some.inj hg3] at hP
        refine lv_aload_n hx hb nd_Run_remove_49 rfl (lv_at hl 0 rfl) ?_
        refine xg_Run_pointers hx hb hts hown hK hP (hts _ nw_149) nd_Run_remove_50 ?_
        refine lv_aload_n hx hb nd_Run_remove_53 rfl (lv_at hl 0 rfl) ?_
        refine xg_Run_living hx hb hts hown hK hP (hts _ nw_155) nd_Run_remove_54 ?_
        refine lv_aload_n hx hb nd_Run_remove_57 rfl (lv_at hl 1 rfl) ?_
        obtain ⟨j4, hj4, hf⟩ := Option.bind_eq_some_iff.mp hf
        refine xas_ptrs hx hb hK hD hP hS hj4 hv2 nd_Run_remove_58 (fun H locs hP hS => ?_)
        obtain ⟨g5, hg5, hf⟩ := Option.bind_eq_some_iff.mp hf
        rw [Option.some.inj hg5] at hP
        obtain rfl := (Option.some.inj hf)
        exact W.vret hx hb hr (fun t ht hW => ⟨rfl, by rw [ht]; exact hP, va_K.moved hW.alike hK, hS.F ht⟩) hS.2.2 nd_Run_remove_59
      · replace hf := (if_neg hc).symm.trans hf
        refine lv_aload_n hx hb nd_Run_remove_19 rfl (lv_at hl 0 rfl) ?_
        refine xg_Run_pointers hx hb hts hown hK hP (hts _ nw_149) nd_Run_remove_20 ?_
        refine lv_iload_n hx hb nd_Run_remove_23 rfl (lv_at hl 2 rfl) ?_
        refine lv_iconst (v := 1) hx hb nd_Run_remove_24 (by decide) ?_
        refine lv_isub hx hb nd_Run_remove_25 ?_
        refine lv_aload_n hx hb nd_Run_remove_26 rfl (lv_at hl 0 rfl) ?_
        refine xg_Run_pointers hx hb hts hown hK hP (hts _ nw_149) nd_Run_remove_27 ?_
        refine lv_iload_n hx hb nd_Run_remove_30 rfl (lv_at hl 2 rfl) ?_
        obtain ⟨j6, hj6, hf⟩ := Option.bind_eq_some_iff.mp hf
        obtain ⟨k7, hk7, hf⟩ := Option.bind_eq_some_iff.mp hf
        obtain ⟨ek7, hk7⟩ := gn_eq hk7
        refine xal_ptrs hx hb hK hP hj6 ek7 nd_Run_remove_31 ?_
        obtain ⟨j8, hj8, hf⟩ := Option.bind_eq_some_iff.mp hf
        refine xas_ptrs hx hb hK hD hP hS hj8 hk7 nd_Run_remove_32 (fun H locs hP hS => ?_)
        obtain ⟨g9, hg9, hf⟩ := Option.bind_eq_some_iff.mp hf
        rw [Option.some.inj hg9] at hP
        refine lv_iinc (v := (v3 + (1 : Int32))) (lv' := [(3, .int (v3 + (1 : Int32))), (0, .ref (ad 6)), (2, .ref (ad (v2 + 19)))]) hx hb nd_Run_remove_33 hl (k := 2) rfl rfl (by decide) rfl (fun ls hl => ?_)
        refine lv_goto hx hb nd_Run_remove_36 (tgt := 11) rfl ?_
        exact ihL11 _ _ _ g9 hP v2 (v3 + (1 : Int32)) hv2 hS (lv_sub hl [1, 2, 0] rfl) hf
  unfold xf_Run_remove at hf
  refine lv_aload_n hx hb nd_Run_remove_0 rfl (lv_at hl 0 rfl) ?_
  refine xg_Run_pointers hx hb hts hown hK hP (hts _ nw_149) nd_Run_remove_1 ?_
  refine lv_iload_n hx hb nd_Run_remove_4 rfl (lv_at hl 1 rfl) ?_
  obtain ⟨j1, hj1, hf⟩ := Option.bind_eq_some_iff.mp hf
  obtain ⟨k2, hk2, hf⟩ := Option.bind_eq_some_iff.mp hf
  obtain ⟨ek2, hk2⟩ := gn_eq hk2
  refine xal_ptrs hx hb hK hP hj1 ek2 nd_Run_remove_5 ?_
  refine lv_astore_n (lv' := [(2, .ref (ad (k2 + 19))), (0, .ref (ad 6)), (1, .int a1)]) hx hb nd_Run_remove_6 rfl hl (by decide) rfl (fun ls hl => ?_)
  refine lv_iload_n hx hb nd_Run_remove_7 rfl (lv_at hl 2 rfl) ?_
  refine lv_iconst (v := 1) hx hb nd_Run_remove_8 (by decide) ?_
  refine lv_iadd hx hb nd_Run_remove_9 ?_
  refine lv_istore_n (lv' := [(3, .int (a1 + (1 : Int32))), (2, .ref (ad (k2 + 19))), (0, .ref (ad 6)), (1, .int a1)]) hx hb nd_Run_remove_10 rfl hl (by decide) rfl (fun ls hl => ?_)
  exact L11 fuel _ _ _ h hP k2 (a1 + (1 : Int32)) hk2 hS (lv_sub hl [2, 1, 0] rfl) hf
set_option maxHeartbeats 4000000 in
set_option maxRecDepth 100000 in
theorem xc_Run_advance {l : Launch} {D : va_G} {A : Nat → Prop} {cA : Nat → ClassId} {ad : Nat → Nat} (hD : wdD 61 A ad) (fuel : Nat) (h : XH) (q : XH) (hf : xf_Run_advance fuel h = some q) : CT l D vwCl (xtys cA) A ny_Run_advance (wsO ny_Run_advance prog_7_method_7_code 7 none) (rmO 5 126) [.ref (ad 6)] (xW cA ad h) (xW cA ad q) none := by
  refine Met.ofW (cc := prog_7_method_7_code) (maxL := 7) (ret := none) (by decide +kernel) rfl ?_
  intro p e s m args below meth c s₁ B hml hv
  obtain ⟨hav, hP, hK, hN⟩ := hv
  have hx := B.exec
  have hb := B.bytes
  have hr := B.returns
  have hts : ∀ w ∈ lw_wd, w.before args s = true := fun w hw => atoms_spec (ws := (wsO ny_Run_advance prog_7_method_7_code 7 none)) B.pre w (List.mem_cons_of_mem _ hw)
  have hown : s.vm.findClass "DrawnPaths$Run" = some m.cls := findClass_of_methodNamed B.named
  have hlocks := B.notSynchronized
  have hS : va_S A s.heap s.heap [] := va_S.rf
  have hl := lv_entry ([.ref (ad 6)]) (n := 7) (Nat.le_of_ble_eq_true rfl)
  have hE : entryFrame m args 7 = entryFrame m ([.ref (ad 6)] : List Value).toArray 7 := by rw [hav]
  rw [hE, lg_entry_eq]
  generalize (lg_sl ([.ref (ad 6)]) ++ List.replicate (7 - (lg_sl ([.ref (ad 6)])).length) Slot.unset).toArray = ls at hl ⊢
  have hl : lv_has ls 7 [(0, .ref (ad 6))] := hl
  have L9 : ∀ (n : Nat) (H : Heap) (locs : List Loc) (ls : Array Slot) (h : XH) (hP : va_P D vwCl (xW cA ad h) H) (v1 : Int32) (v2 : Int32) (v3 : Int32) (hS : va_S A s.heap H locs) (hl : lv_has ls 7 [(0, .ref (ad 6)), (1, .int v1), (2, .int v2), (3, .int v3)]) (hf : xf_Run_advance_L9 fuel n v1 v2 v3 h = some q), W p l e (headSpec (wsO ny_Run_advance prog_7_method_7_code 7 none) (rmO 5 126)).room s m args below meth c H locs 0 0 (MQ below (RetQ D vwCl (xtys cA) A none (xW cA ad q)) args s 0 0 A) (F0 m 9 ls []) := by
    intro n
    induction n with
    | zero =>
      intro H locs ls h hP v1 v2 v3 hS hl hf
      rw [xf_Run_advance_L9] at hf
      cases hf
    | succ nL9 ihL9 =>
      have J106 : ∀ (H : Heap) (locs : List Loc) (ls : Array Slot) (h : XH) (hP : va_P D vwCl (xW cA ad h) H) (v1 : Int32) (v2 : Int32) (v3 : Int32) (hS : va_S A s.heap H locs) (hl : lv_has ls 7 [(0, .ref (ad 6)), (1, .int v1), (2, .int v2), (3, .int v3)]) (hf : xf_Run_advance_J106 fuel (xf_Run_advance_L9 fuel nL9) v1 v2 v3 h = some q), W p l e (headSpec (wsO ny_Run_advance prog_7_method_7_code 7 none) (rmO 5 126)).room s m args below meth c H locs 0 0 (MQ below (RetQ D vwCl (xtys cA) A none (xW cA ad q)) args s 0 0 A) (F0 m 106 ls []) := by
        intro H locs ls h hP v1 v2 v3 hS hl hf
        unfold xf_Run_advance_J106 at hf
        refine lv_iinc (v := (v3 + (1 : Int32))) (lv' := [(3, .int (v3 + (1 : Int32))), (0, .ref (ad 6)), (1, .int v1), (2, .int v2)]) hx hb nd_Run_advance_106 hl (k := 3) rfl rfl (by decide) rfl (fun ls hl => ?_)
        refine lv_goto hx hb nd_Run_advance_109 (tgt := 9) rfl ?_
        exact ihL9 _ _ _ h hP v1 v2 (v3 + (1 : Int32)) hS (lv_sub hl [1, 2, 3, 0] rfl) hf
      have J72 : ∀ (H : Heap) (locs : List Loc) (ls : Array Slot) (h : XH) (hP : va_P D vwCl (xW cA ad h) H) (v1 : Int32) (v2 : Int32) (v3 : Int32) (w0 : Int32) (hS : va_S A s.heap H locs) (hl : lv_has ls 7 [(0, .ref (ad 6)), (1, .int v1), (2, .int v2), (3, .int v3)]) (hf : xf_Run_advance_J72 fuel (xf_Run_advance_L9 fuel nL9) v1 v2 v3 w0 h = some q), W p l e (headSpec (wsO ny_Run_advance prog_7_method_7_code 7 none) (rmO 5 126)).room s m args below meth c H locs 0 0 (MQ below (RetQ D vwCl (xtys cA) A none (xW cA ad q)) args s 0 0 A) (F0 m 72 ls [.int w0]) := by
        intro H locs ls h hP v1 v2 v3 w0 hS hl hf
        unfold xf_Run_advance_J72 at hf
        refine lv_istore (lv' := [(6, .int w0), (0, .ref (ad 6)), (1, .int v1), (2, .int v2), (3, .int v3)]) hx hb nd_Run_advance_72 hl (by decide) rfl (fun ls hl => ?_)
        refine lv_iload hx hb nd_Run_advance_74 (lv_at hl 0 rfl) ?_
        refine lv_if_ne (tgt := 85) hx hb nd_Run_advance_76 rfl (fun hc => ?_) (fun hc => ?_)
        · replace hf := (if_neg hc).symm.trans hf
          refine lv_iload hx hb nd_Run_advance_85 (lv_at hl 0 rfl) ?_
          refine lv_iconst (v := 1) hx hb nd_Run_advance_87 (by decide) ?_
          refine lv_icmp_ne (tgt := 99) hx hb nd_Run_advance_88 rfl (fun hc => ?_) (fun hc => ?_)
          · replace hf := (if_neg hc).symm.trans hf
            refine lv_aload_n hx hb nd_Run_advance_99 rfl (lv_at hl 1 rfl) ?_
            refine lv_iload hx hb nd_Run_advance_100 (lv_at hl 0 rfl) ?_
            refine xp_Run_stopped hx hb hts hown hK hD hP hS (hts _ nw_163) nd_Run_advance_102 (fun H locs hP hS => ?_)
            obtain ⟨g6, hg6, hf⟩ := Option.bind_eq_some_iff.mp hf
            rw [Option.some.inj hg6] at hP
            obtain rfl := (Option.some.inj hf)
            exact W.vret hx hb hr (fun t ht hW => ⟨rfl, by rw [ht]; exact hP, va_K.moved hW.alike hK, hS.F ht⟩) hS.2.2 nd_Run_advance_105
          · replace hf := (if_pos hc).symm.trans hf
            refine lv_aload_n hx hb nd_Run_advance_91 rfl (lv_at hl 1 rfl) ?_
            refine lv_iload_n hx hb nd_Run_advance_92 rfl (lv_at hl 3 rfl) ?_
            obtain ⟨q7, hq7, hf⟩ := Option.bind_eq_some_iff.mp hf
            refine kc_V (As := [.int v2]) (rest := []) (st1 := []) ⟨hx, hb, hml, hown, hts⟩ (xc_Run_remove hD fuel v2 h _ hq7) (kb_Run_remove hts (hts _ nw_615) ⟨Nat.le_of_ble_eq_true rfl, Nat.le_of_ble_eq_true rfl⟩) (xr_Run hK hP) hK hN hP hS rfl hl.1 rfl rfl (Nat.le_of_ble_eq_true rfl) ⟨Nat.zero_le _, Nat.zero_le _⟩ nd_Run_advance_93 (fun H locs hP hS => ?_)
            refine lv_goto hx hb nd_Run_advance_96 (tgt := 106) rfl ?_
            exact J106 _ _ _ q7 hP v1 v2 v3 hS (lv_sub hl [1, 2, 3, 4] rfl) hf
        · replace hf := (if_pos hc).symm.trans hf
          refine lv_iinc (v := (v2 + (1 : Int32))) (lv' := [(2, .int (v2 + (1 : Int32))), (6, .int w0), (0, .ref (ad 6)), (1, .int v1), (3, .int v3)]) hx hb nd_Run_advance_79 hl (k := 3) rfl rfl (by decide) rfl (fun ls hl => ?_)
          refine lv_goto hx hb nd_Run_advance_82 (tgt := 106) rfl ?_
          exact J106 _ _ _ h hP v1 (v2 + (1 : Int32)) v3 hS (lv_sub hl [2, 3, 0, 4] rfl) hf
      intro H locs ls h hP v1 v2 v3 hS hl hf
      rw [xf_Run_advance_L9] at hf
      refine lv_iload_n hx hb nd_Run_advance_9 rfl (lv_at hl 3 rfl) ?_
      refine lv_iload_n hx hb nd_Run_advance_10 rfl (lv_at hl 1 rfl) ?_
      refine lv_icmp_ge (tgt := 112) hx hb nd_Run_advance_11 rfl (fun hc => ?_) (fun hc => ?_)
      · replace hf := (if_pos hc).symm.trans hf
        refine lv_aload_n hx hb nd_Run_advance_112 rfl (lv_at hl 0 rfl) ?_
        refine lv_dup hx hb nd_Run_advance_113 rfl ?_
        refine xg_Run_steps hx hb hts hown hK hP (hts _ nw_161) nd_Run_advance_114 ?_
        refine lv_iconst (v := 1) hx hb nd_Run_advance_117 (by decide) ?_
        refine lv_iadd hx hb nd_Run_advance_118 ?_
        refine xp_Run_steps hx hb hts hown hK hD hP hS (hts _ nw_161) nd_Run_advance_119 (fun H locs hP hS => ?_)
        obtain ⟨g1, hg1, hf⟩ := Option.bind_eq_some_iff.mp hf
        rw [Option.some.inj hg1] at hP
        obtain rfl := (Option.some.inj hf)
        exact W.vret hx hb hr (fun t ht hW => ⟨rfl, by rw [ht]; exact hP, va_K.moved hW.alike hK, hS.F ht⟩) hS.2.2 nd_Run_advance_122
      · replace hf := (if_neg hc).symm.trans hf
        refine lv_aload_n hx hb nd_Run_advance_14 rfl (lv_at hl 0 rfl) ?_
        refine xg_Run_pointers hx hb hts hown hK hP (hts _ nw_149) nd_Run_advance_15 ?_
        refine lv_iload_n hx hb nd_Run_advance_18 rfl (lv_at hl 2 rfl) ?_
        obtain ⟨j2, hj2, hf⟩ := Option.bind_eq_some_iff.mp hf
        obtain ⟨k3, hk3, hf⟩ := Option.bind_eq_some_iff.mp hf
        obtain ⟨ek3, hk3⟩ := gn_eq hk3
        refine xal_ptrs hx hb hK hP hj2 ek3 nd_Run_advance_19 ?_
        refine lv_astore (lv' := [(4, .ref (ad (k3 + 19))), (0, .ref (ad 6)), (1, .int v1), (2, .int v2), (3, .int v3)]) hx hb nd_Run_advance_20 hl (by decide) rfl (fun ls hl => ?_)
        refine lv_aload_n hx hb nd_Run_advance_22 rfl (lv_at hl 1 rfl) ?_
        refine xg_Run_field hx hb hts hown hK hP (hts _ nw_148) nd_Run_advance_23 ?_
        refine xg_Field_signs hx hb hts hown hK hP (hts _ nw_88) nd_Run_advance_26 ?_
        refine lv_aload hx hb nd_Run_advance_29 (lv_at hl 0 rfl) ?_
        refine xg_Ptr_way hx hb hts hown hK hP hk3 (hts _ nw_129) nd_Run_advance_31 ?_
        refine kc_S (As := [.int (xh_pway h k3)]) (rest := [.ref (ad 5)]) (st1 := [.int (xf_Way_place (xh_pway h k3)), .ref (ad 5)]) ⟨hx, hb, hml, hown, hts⟩ (xc_Way_place (xh_pway h k3) h _ rfl) (kb_Way_place hts (hts _ nw_517) ⟨Nat.le_of_ble_eq_true rfl, Nat.le_of_ble_eq_true rfl⟩) hK hN hP hS rfl hl.1 rfl rfl (Nat.le_of_ble_eq_true rfl) ⟨Nat.zero_le _, Nat.zero_le _⟩ nd_Run_advance_34 (fun H locs hP hS => ?_)
        obtain ⟨j4, hj4, hf⟩ := Option.bind_eq_some_iff.mp hf
        refine xal_signs hx hb hK hP hj4 nd_Run_advance_37 ?_
        refine lv_istore (lv' := [(5, .int (xh_signs h j4)), (4, .ref (ad (k3 + 19))), (0, .ref (ad 6)), (1, .int v1), (2, .int v2), (3, .int v3)]) hx hb nd_Run_advance_38 hl (by decide) rfl (fun ls hl => ?_)
        refine lv_aload hx hb nd_Run_advance_40 (lv_at hl 1 rfl) ?_
        refine xg_Ptr_way hx hb hts hown hK hP hk3 (hts _ nw_129) nd_Run_advance_42 ?_
        refine lv_iload hx hb nd_Run_advance_45 (lv_at hl 0 rfl) ?_
        refine kc_SN (As := [.int (xh_pway h k3), .int (xh_signs h j4)]) (rest := []) (st1 := [.int (xf_P_isAct (xh_pway h k3) (xh_signs h j4))]) ⟨hx, hb, hml, hown, hts⟩ (xc_P_isAct (xh_pway h k3) (xh_signs h j4) h _ rfl) (kb_P_isActN hts (hN.1 _ nw_518) ⟨Nat.le_of_ble_eq_true rfl, Nat.le_of_ble_eq_true rfl⟩) hK hN hP hS rfl hl.1 rfl rfl (Nat.le_of_ble_eq_true rfl) ⟨Nat.zero_le _, Nat.zero_le _⟩ nd_Run_advance_47 (fun H locs hP hS => ?_)
        refine lv_if_eq (tgt := 64) hx hb nd_Run_advance_50 rfl (fun hc => ?_) (fun hc => ?_)
        · replace hf := (if_pos hc).symm.trans hf
          refine lv_aload_n hx hb nd_Run_advance_64 rfl (lv_at hl 2 rfl) ?_
          refine lv_aload hx hb nd_Run_advance_65 (lv_at hl 1 rfl) ?_
          refine lv_iload hx hb nd_Run_advance_67 (lv_at hl 0 rfl) ?_
          obtain ⟨q5, hq5, hf⟩ := Option.bind_eq_some_iff.mp hf
          refine kc_V (As := [.ref (ad (k3 + 19)), .int (xh_signs h j4)]) (rest := []) (st1 := [.int q5.1]) ⟨hx, hb, hml, hown, hts⟩ (xc_Run_pass hD k3 (xh_signs h j4) h _ hk3 hq5) (kb_Run_pass hts (hts _ nw_599) ⟨Nat.le_of_ble_eq_true rfl, Nat.le_of_ble_eq_true rfl⟩) (xr_Run hK hP) hK hN hP hS rfl hl.1 rfl rfl (Nat.le_of_ble_eq_true rfl) ⟨Nat.zero_le _, Nat.zero_le _⟩ nd_Run_advance_69 (fun H locs hP hS => ?_)
          exact J72 _ _ _ q5.2 hP v1 v2 v3 q5.1 hS (lv_sub hl [2, 3, 4, 5] rfl) hf
        · replace hf := (if_neg hc).symm.trans hf
          refine lv_aload_n hx hb nd_Run_advance_53 rfl (lv_at hl 2 rfl) ?_
          refine lv_aload hx hb nd_Run_advance_54 (lv_at hl 1 rfl) ?_
          refine lv_iload hx hb nd_Run_advance_56 (lv_at hl 0 rfl) ?_
          obtain ⟨q8, hq8, hf⟩ := Option.bind_eq_some_iff.mp hf
          refine kc_V (As := [.ref (ad (k3 + 19)), .int (xh_signs h j4)]) (rest := []) (st1 := [.int q8.1]) ⟨hx, hb, hml, hown, hts⟩ (xc_Run_act hD fuel k3 (xh_signs h j4) h _ hk3 hq8) (kb_Run_act hts (hts _ nw_519) ⟨Nat.le_of_ble_eq_true rfl, Nat.le_of_ble_eq_true rfl⟩) (xr_Run hK hP) hK hN hP hS rfl hl.1 rfl rfl (Nat.le_of_ble_eq_true rfl) ⟨Nat.zero_le _, Nat.zero_le _⟩ nd_Run_advance_58 (fun H locs hP hS => ?_)
          refine lv_goto hx hb nd_Run_advance_61 (tgt := 72) rfl ?_
          exact J72 _ _ _ q8.2 hP v1 v2 v3 q8.1 hS (lv_sub hl [2, 3, 4, 5] rfl) hf
  unfold xf_Run_advance at hf
  refine lv_aload_n hx hb nd_Run_advance_0 rfl (lv_at hl 0 rfl) ?_
  refine xg_Run_living hx hb hts hown hK hP (hts _ nw_155) nd_Run_advance_1 ?_
  refine lv_istore_n (lv' := [(1, .int (xh_living h)), (0, .ref (ad 6))]) hx hb nd_Run_advance_4 rfl hl (by decide) rfl (fun ls hl => ?_)
  refine lv_iconst (v := 0) hx hb nd_Run_advance_5 (by decide) ?_
  refine lv_istore_n (lv' := [(2, .int (0 : Int32)), (1, .int (xh_living h)), (0, .ref (ad 6))]) hx hb nd_Run_advance_6 rfl hl (by decide) rfl (fun ls hl => ?_)
  refine lv_iconst (v := 0) hx hb nd_Run_advance_7 (by decide) ?_
  refine lv_istore_n (lv' := [(3, .int (0 : Int32)), (2, .int (0 : Int32)), (1, .int (xh_living h)), (0, .ref (ad 6))]) hx hb nd_Run_advance_8 rfl hl (by decide) rfl (fun ls hl => ?_)
  exact L9 fuel _ _ _ h hP (xh_living h) (0 : Int32) (0 : Int32) hS (lv_sub hl [3, 2, 1, 0] rfl) hf
set_option maxHeartbeats 4000000 in
set_option maxRecDepth 100000 in
theorem xc_P_step {l : Launch} {D : va_G} {A : Nat → Prop} {cA : Nat → ClassId} {ad : Nat → Nat} (hD : wdD 61 A ad) (fuel : Nat) (a1 : Int32) (h : XH) (q : Int32 × XH) (hf : xf_P_step fuel a1 h = some (Sum.inr q)) : CT l D vwCl (xtys cA) A ny_P_step (wsO ny_P_step prog_1_method_9_code 3 (some .int)) (rmO 7 152) [.ref (ad 0), .int a1] (xW cA ad h) (xW cA ad q.2) (some (.int q.1)) := by
  refine Met.ofW (cc := prog_1_method_9_code) (maxL := 3) (ret := (some .int)) (by decide +kernel) rfl ?_
  intro p e s m args below meth c s₁ B hml hv
  obtain ⟨hav, hP, hK, hN⟩ := hv
  have hx := B.exec
  have hb := B.bytes
  have hr := B.returns
  have hts : ∀ w ∈ lw_wd, w.before args s = true := fun w hw => atoms_spec (ws := (wsO ny_P_step prog_1_method_9_code 3 (some .int))) B.pre w (List.mem_cons_of_mem _ hw)
  have hown : s.vm.findClass "DrawnPaths" = some m.cls := findClass_of_methodNamed B.named
  have hlocks := B.notSynchronized
  have hS : va_S A s.heap s.heap [] := va_S.rf
  have hl := lv_entry ([.ref (ad 0), .int a1]) (n := 3) (Nat.le_of_ble_eq_true rfl)
  have hE : entryFrame m args 3 = entryFrame m ([.ref (ad 0), .int a1] : List Value).toArray 3 := by rw [hav]
  rw [hE, lg_entry_eq]
  generalize (lg_sl ([.ref (ad 0), .int a1]) ++ List.replicate (3 - (lg_sl ([.ref (ad 0), .int a1])).length) Slot.unset).toArray = ls at hl ⊢
  have hl : lv_has ls 3 [(0, .ref (ad 0)), (1, .int a1)] := hl
  have L6 : ∀ (n : Nat) (H : Heap) (locs : List Loc) (ls : Array Slot) (h : XH) (hP : va_P D vwCl (xW cA ad h) H) (v1 : Int32) (v2 : Int32) (hS : va_S A s.heap H locs) (hl : lv_has ls 3 [(0, .ref (ad 0)), (1, .int v1), (2, .int v2)]) (hf : xf_P_step_L6 fuel n v1 v2 h = some q), W p l e (headSpec (wsO ny_P_step prog_1_method_9_code 3 (some .int)) (rmO 7 152)).room s m args below meth c H locs 0 0 (MQ below (RetQ D vwCl (xtys cA) A (some (.int q.1)) (xW cA ad q.2)) args s 0 0 A) (F0 m 6 ls []) := by
    intro n
    induction n with
    | zero =>
      intro H locs ls h hP v1 v2 hS hl hf
      rw [xf_P_step_L6] at hf
      cases hf
    | succ nL6 ihL6 =>
      intro H locs ls h hP v1 v2 hS hl hf
      rw [xf_P_step_L6] at hf
      refine lv_iload_n hx hb nd_P_step_6 rfl (lv_at hl 2 rfl) ?_
      refine lv_iload_n hx hb nd_P_step_7 rfl (lv_at hl 1 rfl) ?_
      refine lv_icmp_ge (tgt := 34) hx hb nd_P_step_8 rfl (fun hc => ?_) (fun hc => ?_)
      · replace hf := (if_pos hc).symm.trans hf
        refine lv_aload_n hx hb nd_P_step_34 rfl (lv_at hl 0 rfl) ?_
        refine xg_P_run hx hb hts hown hK hP (hts _ nw_205) nd_P_step_35 ?_
        refine kc_V (As := []) (rest := []) (st1 := [.int (xf_Run_state h)]) ⟨hx, hb, hml, hown, hts⟩ (xc_Run_state h _ rfl) (kb_Run_state hts (hts _ nw_273) ⟨Nat.le_of_ble_eq_true rfl, Nat.le_of_ble_eq_true rfl⟩) (xr_Run hK hP) hK hN hP hS rfl hl.1 rfl rfl (Nat.le_of_ble_eq_true rfl) ⟨Nat.zero_le _, Nat.zero_le _⟩ nd_P_step_38 (fun H locs hP hS => ?_)
        obtain rfl := (Option.some.inj hf)
        exact W.iret hx hb hr (fun t ht hW => ⟨rfl, by rw [ht]; exact hP, va_K.moved hW.alike hK, hS.F ht⟩) hS.2.2 nd_P_step_41
      · replace hf := (if_neg hc).symm.trans hf
        refine lv_aload_n hx hb nd_P_step_11 rfl (lv_at hl 0 rfl) ?_
        refine xg_P_run hx hb hts hown hK hP (hts _ nw_205) nd_P_step_12 ?_
        refine kc_V (As := []) (rest := []) (st1 := [.int (xf_Run_state h)]) ⟨hx, hb, hml, hown, hts⟩ (xc_Run_state h _ rfl) (kb_Run_state hts (hts _ nw_273) ⟨Nat.le_of_ble_eq_true rfl, Nat.le_of_ble_eq_true rfl⟩) (xr_Run hK hP) hK hN hP hS rfl hl.1 rfl rfl (Nat.le_of_ble_eq_true rfl) ⟨Nat.zero_le _, Nat.zero_le _⟩ nd_P_step_15 (fun H locs hP hS => ?_)
        refine lv_if_ne (tgt := 34) hx hb nd_P_step_18 rfl (fun hc => ?_) (fun hc => ?_)
        · replace hf := (if_neg hc).symm.trans hf
          refine lv_aload_n hx hb nd_P_step_34 rfl (lv_at hl 0 rfl) ?_
          refine xg_P_run hx hb hts hown hK hP (hts _ nw_205) nd_P_step_35 ?_
          refine kc_V (As := []) (rest := []) (st1 := [.int (xf_Run_state h)]) ⟨hx, hb, hml, hown, hts⟩ (xc_Run_state h _ rfl) (kb_Run_state hts (hts _ nw_273) ⟨Nat.le_of_ble_eq_true rfl, Nat.le_of_ble_eq_true rfl⟩) (xr_Run hK hP) hK hN hP hS rfl hl.1 rfl rfl (Nat.le_of_ble_eq_true rfl) ⟨Nat.zero_le _, Nat.zero_le _⟩ nd_P_step_38 (fun H locs hP hS => ?_)
          obtain rfl := (Option.some.inj hf)
          exact W.iret hx hb hr (fun t ht hW => ⟨rfl, by rw [ht]; exact hP, va_K.moved hW.alike hK, hS.F ht⟩) hS.2.2 nd_P_step_41
        · replace hf := (if_pos hc).symm.trans hf
          refine lv_aload_n hx hb nd_P_step_21 rfl (lv_at hl 0 rfl) ?_
          refine xg_P_run hx hb hts hown hK hP (hts _ nw_205) nd_P_step_22 ?_
          obtain ⟨q2, hq2, hf⟩ := Option.bind_eq_some_iff.mp hf
          refine kc_V (As := []) (rest := []) (st1 := []) ⟨hx, hb, hml, hown, hts⟩ (xc_Run_advance hD fuel h _ hq2) (kb_Run_advance hts (hts _ nw_513) ⟨Nat.le_of_ble_eq_true rfl, Nat.le_of_ble_eq_true rfl⟩) (xr_Run hK hP) hK hN hP hS rfl hl.1 rfl rfl (Nat.le_of_ble_eq_true rfl) ⟨Nat.zero_le _, Nat.zero_le _⟩ nd_P_step_25 (fun H locs hP hS => ?_)
          refine lv_iinc (v := (v2 + (1 : Int32))) (lv' := [(2, .int (v2 + (1 : Int32))), (0, .ref (ad 0)), (1, .int v1)]) hx hb nd_P_step_28 hl (k := 2) rfl rfl (by decide) rfl (fun ls hl => ?_)
          refine lv_goto hx hb nd_P_step_31 (tgt := 6) rfl ?_
          exact ihL6 _ _ _ q2 hP v1 (v2 + (1 : Int32)) hS (lv_sub hl [1, 2, 0] rfl) hf
  unfold xf_P_step at hf
  refine lv_iload_n hx hb nd_P_step_0 rfl (lv_at hl 1 rfl) ?_
  obtain ⟨q1, hq1, hf⟩ := sbd_inr hf
  refine kc_S (As := [.int a1]) (rest := []) (st1 := []) ⟨hx, hb, hml, hown, hts⟩ (xc_P_checkSteps a1 h _ hq1) (kb_P_checkSteps hts (hts _ nw_509) ⟨Nat.le_of_ble_eq_true rfl, Nat.le_of_ble_eq_true rfl⟩) hK hN hP hS rfl hl.1 rfl rfl (Nat.le_of_ble_eq_true rfl) ⟨Nat.zero_le _, Nat.zero_le _⟩ nd_P_step_1 (fun H locs hP hS => ?_)
  replace hf := map_inr hf
  refine lv_iconst (v := 0) hx hb nd_P_step_4 (by decide) ?_
  refine lv_istore_n (lv' := [(2, .int (0 : Int32)), (0, .ref (ad 0)), (1, .int a1)]) hx hb nd_P_step_5 rfl hl (by decide) rfl (fun ls hl => ?_)
  exact L6 fuel _ _ _ h hP a1 (0 : Int32) hS (lv_sub hl [1, 2, 0] rfl) hf
