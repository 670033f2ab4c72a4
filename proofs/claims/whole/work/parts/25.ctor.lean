theorem ki_Block_initN {R : Room} {s : State} {args : Array Value} (hts : ∀ w ∈ lw_wd, w.before args s = true) {own : String} {index : Nat} {host : String} (hl : va_Nw (.methodLinkNest own index ny_Block_init host) s) (hR : 1 + 1 ≤ R.frames ∧ 8 + (1 + 11) + 20 ≤ R.locals) : va_CN R s args own index ny_Block_init host prog_2_method_1_code 1 none (wsO ny_Block_init prog_2_method_1_code 1 none) (rmI 1 20 0 0) 0 0 0 ∧ ny_Block_init.name = "<init>" ∧ (Cond.instanceMethod ny_Block_init).before args s = true := ⟨va_cnB 0 hts (wsO_good nw_38) rfl rfl rfl hl (hts _ nw_3) (by decide +kernel) hR, rfl, hts _ nw_37⟩
set_option maxHeartbeats 4000000 in
set_option maxRecDepth 100000 in
theorem xi_Block {l : Launch} {D : va_G} {A : Nat → Prop} {cA : Nat → ClassId} {b : Nat} (hA : ∀ q, b ≤ q → A q) {n : Nat} {ct : Nat → va_E} (x : Nat) : IT l D vwCl (xtys cA) A b ny_Block_init (wsO ny_Block_init prog_2_method_1_code 1 none) (rmI 1 20 0 0) 0 0 [.ref x] n ct n ct := by
  refine Met.ofW (cc := prog_2_method_1_code) (maxL := 1) (ret := none) (by decide +kernel) rfl ?_
  intro p e s m args below meth c s₁ B hml hv
  obtain ⟨hav, hsz, hP, hK, hN, hO⟩ := hv
  have hx := B.exec
  have hb := B.bytes
  have hr := B.returns
  have hts : ∀ w ∈ lw_wd, w.before args s = true := fun w hw => atoms_spec (ws := (wsO ny_Block_init prog_2_method_1_code 1 none)) B.pre w (List.mem_cons_of_mem _ hw)
  have hown : s.vm.findClass "DrawnPaths$Block" = some m.cls := findClass_of_methodNamed B.named
  have hlocks := B.notSynchronized
  have hin : meth.name = "<init>" := (name_of_methodNamed B.named B.method).1
  have hS : va_S A s.heap s.heap [] := va_S.rf
  have hRc : (headSpec (wsO ny_Block_init prog_2_method_1_code 1 none) (rmI 1 20 0 0)).room.cells = 0 := rfl
  have hRs : (headSpec (wsO ny_Block_init prog_2_method_1_code 1 none) (rmI 1 20 0 0)).room.slots = 0 := rfl
  have hl := lv_entry ([.ref x]) (n := 1) (Nat.le_of_ble_eq_true rfl)
  have hE : entryFrame m args 1 = entryFrame m ([.ref x] : List Value).toArray 1 := by rw [hav]
  rw [hE, lg_entry_eq]
  generalize (lg_sl ([.ref x]) ++ List.replicate (1 - (lg_sl ([.ref x])).length) Slot.unset).toArray = ls at hl ⊢
  have hl : lv_has ls 1 [(0, .ref x)] := hl
  refine lv_aload_n hx hb nd_Block_init_0 rfl (lv_at hl 0 rfl) ?_
  refine W.objInit hx hb hown (hts _ nw_39) (hts _ nw_25) (hts _ nw_26) rfl (by rw [hml]; exact hl.1) rfl nd_Block_init_1 (Nat.le_of_ble_eq_true rfl) (Nat.le_of_ble_eq_true rfl) ?_
  refine W.eq (g2 := F0 m 4 ls []) rfl ?_
  exact W.vret hx hb hr (fun t ht hW => ⟨rfl, by rw [ht]; exact hP, hS.F ht⟩) hS.2.2 nd_Block_init_4
theorem ki_Line_init {K : Nat} {R : Room} {s : State} {args : Array Value} (hts : ∀ w ∈ lw_wd, w.before args s = true) {own : String} {index : Nat} (hl : (Cond.methodLink own index ny_Line_init).before args s = true) (hR : 1 + 1 ≤ R.frames ∧ 8 + (2 + 11) + 20 ≤ R.locals) : CallB R s args own index ny_Line_init prog_5_method_1_code 2 none (wsO ny_Line_init prog_5_method_1_code 2 none) (rmI 1 20 1 K) 1 K 1 ∧ ny_Line_init.name = "<init>" ∧ (Cond.instanceMethod ny_Line_init).before args s = true := ⟨callB_of 1 hts (wsO_good nw_109) rfl rfl rfl (hts _ nw_6) hl (by decide +kernel) hR, rfl, hts _ nw_108⟩
set_option maxHeartbeats 4000000 in
set_option maxRecDepth 100000 in
theorem xi_Line {l : Launch} {D : va_G} {A : Nat → Prop} {cA : Nat → ClassId} {b : Nat} (hA : ∀ q, b ≤ q → A q) {n : Nat} {ct : Nat → va_E} (k : Int32) (K : Nat) (hk0 : ¬ k < 0) (hkN : k.toNatClampNeg = K) (hkb : K ≤ 1000) (h0 : ct n = .inr (4, [.null, .int 0])) : IT l D vwCl (xtys cA) A b ny_Line_init (wsO ny_Line_init prog_5_method_1_code 2 none) (rmI 1 20 1 K) 1 K [.ref (b + n), .int k] (n + 1) ct (n + 2) (va_up (va_up ct (n + 1) (.inl (cA 1, K, .inl (fun _ => 0)))) n (.inr (4, [.ref (b + (n + 1)), .int 0]))) := by
  refine Met.ofW (cc := prog_5_method_1_code) (maxL := 2) (ret := none) (by decide +kernel) rfl ?_
  intro p e s m args below meth c s₁ B hml hv
  obtain ⟨hav, hsz, hP, hK, hN, hO⟩ := hv
  have hx := B.exec
  have hb := B.bytes
  have hr := B.returns
  have hts : ∀ w ∈ lw_wd, w.before args s = true := fun w hw => atoms_spec (ws := (wsO ny_Line_init prog_5_method_1_code 2 none)) B.pre w (List.mem_cons_of_mem _ hw)
  have hown : s.vm.findClass "DrawnPaths$Line" = some m.cls := findClass_of_methodNamed B.named
  have hlocks := B.notSynchronized
  have hin : meth.name = "<init>" := (name_of_methodNamed B.named B.method).1
  have hS : va_S A s.heap s.heap [] := va_S.rf
  have hRc : (headSpec (wsO ny_Line_init prog_5_method_1_code 2 none) (rmI 1 20 1 K)).room.cells = 1 := rfl
  have hRs : (headSpec (wsO ny_Line_init prog_5_method_1_code 2 none) (rmI 1 20 1 K)).room.slots = K := rfl
  have hl := lv_entry ([.ref (b + n), .int k]) (n := 2) (Nat.le_of_ble_eq_true rfl)
  have hE : entryFrame m args 2 = entryFrame m ([.ref (b + n), .int k] : List Value).toArray 2 := by rw [hav]
  rw [hE, lg_entry_eq]
  generalize (lg_sl ([.ref (b + n), .int k]) ++ List.replicate (2 - (lg_sl ([.ref (b + n), .int k])).length) Slot.unset).toArray = ls at hl ⊢
  have hl : lv_has ls 2 [(0, .ref (b + n)), (1, .int k)] := hl
  refine lv_aload_n hx hb nd_Line_init_0 rfl (lv_at hl 0 rfl) ?_
  refine W.objInit hx hb hown (hts _ nw_110) (hts _ nw_25) (hts _ nw_26) rfl (by rw [hml]; exact hl.1) rfl nd_Line_init_1 (Nat.le_of_ble_eq_true rfl) (Nat.le_of_ble_eq_true rfl) ?_
  refine W.eq (g2 := F0 m 4 ls []) rfl ?_
  refine lv_aload_n hx hb nd_Line_init_4 rfl (lv_at hl 0 rfl) ?_
  refine lv_iload_n hx hb nd_Line_init_5 rfl (lv_at hl 1 rfl) ?_
  refine gw_size (wdG_lo hP (by omega)) (by omega) (fun hH => ?_)
  refine gw_newa (atype := .char) (ty := .char) hx hb (hts _ nw_96) rfl hK hP hS hH 1 rfl (K, .inl (fun _ => 0)) (fun _ => rfl) hk0 hkN (by show K * 2 ≤ 536870912; omega) (by rw [hRc]; omega) (by rw [hRs]; omega) nd_Line_init_6 (fun H hP hS hH => ?_)
  refine gw_putF (ty := .array (.char)) hx hb hts nu_Line nY_Line nY_Line_ok nN_Line hown hK hA hP hS n (by omega) [.null, .int 0] (by rw [up_ne (by omega)]; exact h0) rfl 0 (by decide) (hts _ nw_111) rfl hin rfl (by decide +kernel) rfl rfl (Nat.le_of_ble_eq_true rfl) nd_Line_init_8 (fun H locs hP hS => ?_)
  refine W.widen (k := 1) (n := K) (by omega) (by omega) ?_
  exact W.vret hx hb hr (fun t ht hW => ⟨rfl, by rw [ht]; exact hP, hS.F ht⟩) hS.2.2 nd_Line_init_11
theorem ki_Ptr_initN {R : Room} {s : State} {args : Array Value} (hts : ∀ w ∈ lw_wd, w.before args s = true) {own : String} {index : Nat} {host : String} (hl : va_Nw (.methodLinkNest own index ny_Ptr_init host) s) (hR : 1 + 1 ≤ R.frames ∧ 8 + (1 + 11) + 20 ≤ R.locals) : va_CN R s args own index ny_Ptr_init host prog_6_method_1_code 1 none (wsO ny_Ptr_init prog_6_method_1_code 1 none) (rmI 1 20 2 32) 2 32 0 ∧ ny_Ptr_init.name = "<init>" ∧ (Cond.instanceMethod ny_Ptr_init).before args s = true := ⟨va_cnB 0 hts (wsO_good nw_123) rfl rfl rfl hl (hts _ nw_7) (by decide +kernel) hR, rfl, hts _ nw_122⟩
set_option maxHeartbeats 4000000 in
set_option maxRecDepth 100000 in
theorem xi_Pointer {l : Launch} {D : va_G} {A : Nat → Prop} {cA : Nat → ClassId} {b : Nat} (hA : ∀ q, b ≤ q → A q) {n : Nat} {ct : Nat → va_E} (h0 : ct n = .inr (5, [.null, .null, .int 0, .int 0, .int 0])) : IT l D vwCl (xtys cA) A b ny_Ptr_init (wsO ny_Ptr_init prog_6_method_1_code 1 none) (rmI 1 20 2 32) 2 32 [.ref (b + n)] (n + 1) ct (n + 3) (va_up (va_up (va_up (va_up ct (n + 1) (.inl (cA 2, 24, .inr (.inl (fun _ => 0))))) n (.inr (5, [.ref (b + (n + 1)), .null, .int 0, .int 0, .int 0]))) (n + 2) (.inl (cA 0, 8, .inl (fun _ => 0)))) n (.inr (5, [.ref (b + (n + 1)), .ref (b + (n + 2)), .int 0, .int 0, .int 0]))) := by
  refine Met.ofW (cc := prog_6_method_1_code) (maxL := 1) (ret := none) (by decide +kernel) rfl ?_
  intro p e s m args below meth c s₁ B hml hv
  obtain ⟨hav, hsz, hP, hK, hN, hO⟩ := hv
  have hx := B.exec
  have hb := B.bytes
  have hr := B.returns
  have hts : ∀ w ∈ lw_wd, w.before args s = true := fun w hw => atoms_spec (ws := (wsO ny_Ptr_init prog_6_method_1_code 1 none)) B.pre w (List.mem_cons_of_mem _ hw)
  have hown : s.vm.findClass "DrawnPaths$Pointer" = some m.cls := findClass_of_methodNamed B.named
  have hlocks := B.notSynchronized
  have hin : meth.name = "<init>" := (name_of_methodNamed B.named B.method).1
  have hS : va_S A s.heap s.heap [] := va_S.rf
  have hRc : (headSpec (wsO ny_Ptr_init prog_6_method_1_code 1 none) (rmI 1 20 2 32)).room.cells = 2 := rfl
  have hRs : (headSpec (wsO ny_Ptr_init prog_6_method_1_code 1 none) (rmI 1 20 2 32)).room.slots = 32 := rfl
  have hl := lv_entry ([.ref (b + n)]) (n := 1) (Nat.le_of_ble_eq_true rfl)
  have hE : entryFrame m args 1 = entryFrame m ([.ref (b + n)] : List Value).toArray 1 := by rw [hav]
  rw [hE, lg_entry_eq]
  generalize (lg_sl ([.ref (b + n)]) ++ List.replicate (1 - (lg_sl ([.ref (b + n)])).length) Slot.unset).toArray = ls at hl ⊢
  have hl : lv_has ls 1 [(0, .ref (b + n))] := hl
  refine lv_aload_n hx hb nd_Ptr_init_0 rfl (lv_at hl 0 rfl) ?_
  refine W.objInit hx hb hown (hts _ nw_124) (hts _ nw_25) (hts _ nw_26) rfl (by rw [hml]; exact hl.1) rfl nd_Ptr_init_1 (Nat.le_of_ble_eq_true rfl) (Nat.le_of_ble_eq_true rfl) ?_
  refine W.eq (g2 := F0 m 4 ls []) rfl ?_
  refine lv_aload_n hx hb nd_Ptr_init_4 rfl (lv_at hl 0 rfl) ?_
  refine lv_bipush (v := 24) hx hb nd_Ptr_init_5 (by decide) ?_
  refine gw_size (wdG_lo hP (by omega)) (by omega) (fun hH => ?_)
  refine gw_newa (atype := .long) (ty := .long) hx hb (hts _ nw_119) rfl hK hP hS hH 2 rfl (24, .inr (.inl (fun _ => 0))) (fun _ => rfl) (by decide) (by decide) (by show 24 * 8 ≤ 536870912; omega) (by rw [hRc]; omega) (by rw [hRs]; omega) nd_Ptr_init_7 (fun H hP hS hH => ?_)
  refine gw_putF (ty := .array (.long)) hx hb hts nu_Ptr nY_Ptr nY_Ptr_ok nN_Ptr hown hK hA hP hS n (by omega) [.null, .null, .int 0, .int 0, .int 0] (by rw [up_ne (by omega)]; exact h0) rfl 0 (by decide) (hts _ nw_125) rfl hin rfl (by decide +kernel) rfl rfl (Nat.le_of_ble_eq_true rfl) nd_Ptr_init_9 (fun H locs hP hS => ?_)
  refine lv_aload_n hx hb nd_Ptr_init_12 rfl (lv_at hl 0 rfl) ?_
  refine lv_bipush (v := 8) hx hb nd_Ptr_init_13 (by decide) ?_
  refine gw_size (wdG_lo hP (by omega)) (by omega) (fun hH => ?_)
  refine gw_newa (atype := .int) (ty := .int) hx hb (hts _ nw_60) rfl hK hP hS hH 0 rfl (8, .inl (fun _ => 0)) (fun _ => rfl) (by decide) (by decide) (by show 8 * 4 ≤ 536870912; omega) (by rw [hRc]; omega) (by rw [hRs]; omega) nd_Ptr_init_15 (fun H hP hS hH => ?_)
  refine gw_putF (ty := .array (.int)) hx hb hts nu_Ptr nY_Ptr nY_Ptr_ok nN_Ptr hown hK hA hP hS n (by omega) [.ref (b + (n + 1)), .null, .int 0, .int 0, .int 0] (by rw [up_ne (by omega), up_eq]; rfl) rfl 1 (by decide) (hts _ nw_126) rfl hin rfl (by decide +kernel) rfl rfl (Nat.le_of_ble_eq_true rfl) nd_Ptr_init_17 (fun H locs hP hS => ?_)
  exact W.vret hx hb hr (fun t ht hW => ⟨rfl, by rw [ht]; exact hP, hS.F ht⟩) hS.2.2 nd_Ptr_init_20
theorem ki_Search_initN {R : Room} {s : State} {args : Array Value} (hts : ∀ w ∈ lw_wd, w.before args s = true) {own : String} {index : Nat} {host : String} (hl : va_Nw (.methodLinkNest own index ny_Search_init host) s) (hR : 1 + 1 ≤ R.frames ∧ 8 + (1 + 11) + 20 ≤ R.locals) : va_CN R s args own index ny_Search_init host prog_8_method_1_code 1 none (wsO ny_Search_init prog_8_method_1_code 1 none) (rmI 1 20 2 864) 2 864 0 ∧ ny_Search_init.name = "<init>" ∧ (Cond.instanceMethod ny_Search_init).before args s = true := ⟨va_cnB 0 hts (wsO_good nw_189) rfl rfl rfl hl (hts _ nw_8) (by decide +kernel) hR, rfl, hts _ nw_188⟩
set_option maxHeartbeats 4000000 in
set_option maxRecDepth 100000 in
theorem xi_Search {l : Launch} {D : va_G} {A : Nat → Prop} {cA : Nat → ClassId} {b : Nat} (hA : ∀ q, b ≤ q → A q) {n : Nat} {ct : Nat → va_E} (h0 : ct n = .inr (7, [.null, .null, .int 0])) : IT l D vwCl (xtys cA) A b ny_Search_init (wsO ny_Search_init prog_8_method_1_code 1 none) (rmI 1 20 2 864) 2 864 [.ref (b + n)] (n + 1) ct (n + 3) (va_up (va_up (va_up (va_up ct (n + 1) (.inl (cA 0, 96, .inl (fun _ => 0)))) n (.inr (7, [.ref (b + (n + 1)), .null, .int 0]))) (n + 2) (.inl (cA 0, 768, .inl (fun _ => 0)))) n (.inr (7, [.ref (b + (n + 1)), .ref (b + (n + 2)), .int 0]))) := by
  refine Met.ofW (cc := prog_8_method_1_code) (maxL := 1) (ret := none) (by decide +kernel) rfl ?_
  intro p e s m args below meth c s₁ B hml hv
  obtain ⟨hav, hsz, hP, hK, hN, hO⟩ := hv
  have hx := B.exec
  have hb := B.bytes
  have hr := B.returns
  have hts : ∀ w ∈ lw_wd, w.before args s = true := fun w hw => atoms_spec (ws := (wsO ny_Search_init prog_8_method_1_code 1 none)) B.pre w (List.mem_cons_of_mem _ hw)
  have hown : s.vm.findClass "DrawnPaths$Search" = some m.cls := findClass_of_methodNamed B.named
  have hlocks := B.notSynchronized
  have hin : meth.name = "<init>" := (name_of_methodNamed B.named B.method).1
  have hS : va_S A s.heap s.heap [] := va_S.rf
  have hRc : (headSpec (wsO ny_Search_init prog_8_method_1_code 1 none) (rmI 1 20 2 864)).room.cells = 2 := rfl
  have hRs : (headSpec (wsO ny_Search_init prog_8_method_1_code 1 none) (rmI 1 20 2 864)).room.slots = 864 := rfl
  have hl := lv_entry ([.ref (b + n)]) (n := 1) (Nat.le_of_ble_eq_true rfl)
  have hE : entryFrame m args 1 = entryFrame m ([.ref (b + n)] : List Value).toArray 1 := by rw [hav]
  rw [hE, lg_entry_eq]
  generalize (lg_sl ([.ref (b + n)]) ++ List.replicate (1 - (lg_sl ([.ref (b + n)])).length) Slot.unset).toArray = ls at hl ⊢
  have hl : lv_has ls 1 [(0, .ref (b + n))] := hl
  refine lv_aload_n hx hb nd_Search_init_0 rfl (lv_at hl 0 rfl) ?_
  refine W.objInit hx hb hown (hts _ nw_190) (hts _ nw_25) (hts _ nw_26) rfl (by rw [hml]; exact hl.1) rfl nd_Search_init_1 (Nat.le_of_ble_eq_true rfl) (Nat.le_of_ble_eq_true rfl) ?_
  refine W.eq (g2 := F0 m 4 ls []) rfl ?_
  refine lv_aload_n hx hb nd_Search_init_4 rfl (lv_at hl 0 rfl) ?_
  refine lv_bipush (v := 96) hx hb nd_Search_init_5 (by decide) ?_
  refine gw_size (wdG_lo hP (by omega)) (by omega) (fun hH => ?_)
  refine gw_newa (atype := .int) (ty := .int) hx hb (hts _ nw_60) rfl hK hP hS hH 0 rfl (96, .inl (fun _ => 0)) (fun _ => rfl) (by decide) (by decide) (by show 96 * 4 ≤ 536870912; omega) (by rw [hRc]; omega) (by rw [hRs]; omega) nd_Search_init_7 (fun H hP hS hH => ?_)
  refine gw_putF (ty := .array (.int)) hx hb hts nu_Search nY_Search nY_Search_ok nN_Search hown hK hA hP hS n (by omega) [.null, .null, .int 0] (by rw [up_ne (by omega)]; exact h0) rfl 0 (by decide) (hts _ nw_191) rfl hin rfl (by decide +kernel) rfl rfl (Nat.le_of_ble_eq_true rfl) nd_Search_init_9 (fun H locs hP hS => ?_)
  refine lv_aload_n hx hb nd_Search_init_12 rfl (lv_at hl 0 rfl) ?_
  refine lv_sipush (v := 768) hx hb nd_Search_init_13 (by decide) ?_
  refine gw_size (wdG_lo hP (by omega)) (by omega) (fun hH => ?_)
  refine gw_newa (atype := .int) (ty := .int) hx hb (hts _ nw_60) rfl hK hP hS hH 0 rfl (768, .inl (fun _ => 0)) (fun _ => rfl) (by decide) (by decide) (by show 768 * 4 ≤ 536870912; omega) (by rw [hRc]; omega) (by rw [hRs]; omega) nd_Search_init_16 (fun H hP hS hH => ?_)
  refine gw_putF (ty := .array (.int)) hx hb hts nu_Search nY_Search nY_Search_ok nN_Search hown hK hA hP hS n (by omega) [.ref (b + (n + 1)), .null, .int 0] (by rw [up_ne (by omega), up_eq]; rfl) rfl 1 (by decide) (hts _ nw_192) rfl hin rfl (by decide +kernel) rfl rfl (Nat.le_of_ble_eq_true rfl) nd_Search_init_18 (fun H locs hP hS => ?_)
  exact W.vret hx hb hr (fun t ht hW => ⟨rfl, by rw [ht]; exact hP, hS.F ht⟩) hS.2.2 nd_Search_init_21
def rfs (g : Nat → Nat) (k : Nat) : Nat → Option Nat := fun i => if i < k then some (g i) else none
theorem rfs_0 (g : Nat → Nat) : (fun _ => none) = rfs g 0 := by
  funext i
  exact (if_neg (Nat.not_lt_zero i)).symm
theorem rfs_up (g : Nat → Nat) (k : Nat) : va_up (rfs g k) k (some (g k)) = rfs g (k + 1) := by
  funext j
  unfold va_up rfs
  by_cases h : j = k
  · subst h
    rw [if_pos rfl, if_pos (by omega)]
  · rw [if_neg h]
    by_cases h2 : j < k
    · rw [if_pos h2, if_pos (by omega)]
    · rw [if_neg h2, if_neg (by omega)]
def bkC (cA : Nat → ClassId) (b n : Nat) (ct : Nat → va_E) (k : Nat) : Nat → va_E := fun j =>
  if j = n then .inr (2, [.ref (b + (n + 1)), .ref (b + (n + 2)), .int 0, .int 0]) else
  if j = n + 1 then .inl (cA 3, 30, .inr (.inr (.inr (.inr (rfs (fun i => b + (n + 3 + i)) k))))) else
  if j = n + 2 then .inl (cA 0, 96, .inl (fun _ => 0)) else
  if n + 3 ≤ j then .inr (1, [.int 0, .int 0, .int 0, .long 0, .long 0]) else ct j
theorem ki_Blocks_init {R : Room} {s : State} {args : Array Value} (hts : ∀ w ∈ lw_wd, w.before args s = true) {own : String} {index : Nat} (hl : (Cond.methodLink own index ny_Blocks_init).before args s = true) (hR : 2 + 1 ≤ R.frames ∧ 8 + (2 + 11) + 41 ≤ R.locals) : CallB R s args own index ny_Blocks_init prog_3_method_1_code 2 none (wsO ny_Blocks_init prog_3_method_1_code 2 none) (rmI 2 41 32 276) 32 276 0 ∧ ny_Blocks_init.name = "<init>" ∧ (Cond.instanceMethod ny_Blocks_init).before args s = true := ⟨callB_of 0 hts (wsO_good nw_31) rfl rfl rfl (hts _ nw_2) hl (by decide +kernel) hR, rfl, hts _ nw_30⟩
set_option maxHeartbeats 4000000 in
set_option maxRecDepth 100000 in
theorem xi_Blocks {l : Launch} {D : va_G} {A : Nat → Prop} {cA : Nat → ClassId} {b : Nat} (hA : ∀ q, b ≤ q → A q) {n : Nat} {ct : Nat → va_E} (h0 : ct n = .inr (2, [.null, .null, .int 0, .int 0])) : IT l D vwCl (xtys cA) A b ny_Blocks_init (wsO ny_Blocks_init prog_3_method_1_code 2 none) (rmI 2 41 32 276) 32 276 [.ref (b + n)] (n + 1) ct (n + 33) (bkC cA b n ct 30) := by
  refine Met.ofW (cc := prog_3_method_1_code) (maxL := 2) (ret := none) (by decide +kernel) rfl ?_
  intro p e s m args below meth c s₁ B hml hv
  obtain ⟨hav, hsz, hP, hK, hN, hO⟩ := hv
  have hx := B.exec
  have hb := B.bytes
  have hr := B.returns
  have hts : ∀ w ∈ lw_wd, w.before args s = true := fun w hw => atoms_spec (ws := (wsO ny_Blocks_init prog_3_method_1_code 2 none)) B.pre w (List.mem_cons_of_mem _ hw)
  have hown : s.vm.findClass "DrawnPaths$Blocks" = some m.cls := findClass_of_methodNamed B.named
  have hlocks := B.notSynchronized
  have hin : meth.name = "<init>" := (name_of_methodNamed B.named B.method).1
  have hS : va_S A s.heap s.heap [] := va_S.rf
  have hRc : (headSpec (wsO ny_Blocks_init prog_3_method_1_code 2 none) (rmI 2 41 32 276)).room.cells = 32 := rfl
  have hRs : (headSpec (wsO ny_Blocks_init prog_3_method_1_code 2 none) (rmI 2 41 32 276)).room.slots = 276 := rfl
  have hl := lv_entry ([.ref (b + n)]) (n := 2) (Nat.le_of_ble_eq_true rfl)
  have hE : entryFrame m args 2 = entryFrame m ([.ref (b + n)] : List Value).toArray 2 := by rw [hav]
  rw [hE, lg_entry_eq]
  generalize (lg_sl ([.ref (b + n)]) ++ List.replicate (2 - (lg_sl ([.ref (b + n)])).length) Slot.unset).toArray = ls at hl ⊢
  have hl : lv_has ls 2 [(0, .ref (b + n))] := hl
  refine lv_aload_n hx hb nd_Blocks_init_0 rfl (lv_at hl 0 rfl) ?_
  refine W.objInit hx hb hown (hts _ nw_32) (hts _ nw_25) (hts _ nw_26) rfl (by rw [hml]; exact hl.1) rfl nd_Blocks_init_1 (Nat.le_of_ble_eq_true rfl) (Nat.le_of_ble_eq_true rfl) ?_
  refine W.eq (g2 := F0 m 4 ls []) rfl ?_
  refine lv_aload_n hx hb nd_Blocks_init_4 rfl (lv_at hl 0 rfl) ?_
  refine lv_bipush (v := 30) hx hb nd_Blocks_init_5 (by decide) ?_
  refine gw_size (wdG_lo hP (by omega)) (by omega) (fun hH => ?_)
  refine gw_newq hx hb hown (hts _ nw_33) hO.1 hK hP hS hH 3 rfl (N' := 30) (by decide) (by decide) (by omega) (by rw [hRc]; omega) (by rw [hRs]; omega) nd_Blocks_init_7 (fun H hP hS hH => ?_)
  refine gw_putF (ty := .array (.object "DrawnPaths$Block")) hx hb hts nu_Blocks nY_Blocks nY_Blocks_ok nN_Blocks hown hK hA hP hS n (by omega) [.null, .null, .int 0, .int 0] (by rw [up_ne (by omega)]; exact h0) rfl 0 (by decide) (hts _ nw_61) rfl hin rfl (by decide +kernel) rfl rfl (Nat.le_of_ble_eq_true rfl) nd_Blocks_init_10 (fun H locs hP hS => ?_)
  refine lv_aload_n hx hb nd_Blocks_init_13 rfl (lv_at hl 0 rfl) ?_
  refine lv_bipush (v := 96) hx hb nd_Blocks_init_14 (by decide) ?_
  refine gw_size (wdG_lo hP (by omega)) (by omega) (fun hH => ?_)
  refine gw_newa (atype := .int) (ty := .int) hx hb (hts _ nw_60) rfl hK hP hS hH 0 rfl (96, .inl (fun _ => 0)) (fun _ => rfl) (by decide) (by decide) (by show 96 * 4 ≤ 536870912; omega) (by rw [hRc]; omega) (by rw [hRs]; omega) nd_Blocks_init_16 (fun H hP hS hH => ?_)
  refine gw_putF (ty := .array (.int)) hx hb hts nu_Blocks nY_Blocks nY_Blocks_ok nN_Blocks hown hK hA hP hS n (by omega) [.ref (b + (n + 1)), .null, .int 0, .int 0] (by rw [up_ne (by omega), up_eq]; rfl) rfl 1 (by decide) (hts _ nw_62) rfl hin rfl (by decide +kernel) rfl rfl (Nat.le_of_ble_eq_true rfl) nd_Blocks_init_18 (fun H locs hP hS => ?_)
  refine lv_iconst (v := 0) hx hb nd_Blocks_init_21 (by decide) ?_
  refine lv_istore_n (lv' := [(1, .int 0), (0, .ref (b + n))]) hx hb nd_Blocks_init_22 rfl hl (by decide) rfl (fun ls hl => ?_)
  have loop : ∀ (r k : Nat) (hk : k + r = 30) (H : Heap) (locs : List Loc) (ls : Array Slot) (hP : va_P D vwCl (wdG (n + 3 + k) (gad b) (bkC cA b n ct k)) H) (hS : va_S A s.heap H locs) (hl : lv_has ls 2 [(1, .int (nI k)), (0, .ref (b + n))]), W p l e (headSpec (wsO ny_Blocks_init prog_3_method_1_code 2 none) (rmI 2 41 32 276)).room s m args below meth c H locs (2 + k) (126 + 5 * k) (MQ below (ItQ D vwCl A b (n + 33) (bkC cA b n ct 30)) args s 32 276 A) (F0 m 23 ls []) := by
    intro r
    induction r with
    | zero =>
      intro k hk H locs ls hP hS hl
      have hk : k = 30 := by omega
      subst hk
      refine lv_iload_n hx hb nd_Blocks_init_23 rfl (lv_at hl 0 rfl) ?_
      refine lv_bipush (v := 30) hx hb nd_Blocks_init_24 (by decide) ?_
      refine lv_icmp_ge (tgt := 48) hx hb nd_Blocks_init_26 rfl (fun hc => ?_) (fun hc => absurd (by decide) hc)
      exact W.vret hx hb hr (fun t ht hW => ⟨rfl, by rw [ht]; exact hP, hS.F ht⟩) hS.2.2 nd_Blocks_init_48
    | succ r ih =>
      intro k hk H locs ls hP hS hl
      refine lv_iload_n hx hb nd_Blocks_init_23 rfl (lv_at hl 0 rfl) ?_
      refine lv_bipush (v := 30) hx hb nd_Blocks_init_24 (by decide) ?_
      refine lv_icmp_ge (tgt := 48) hx hb nd_Blocks_init_26 rfl (fun hc => absurd (show nI 30 ≤ nI k from hc) (nI_ge (by omega) (by omega))) (fun hc => ?_)
      refine lv_aload_n hx hb nd_Blocks_init_29 rfl (lv_at hl 1 rfl) ?_
      refine gw_get (fs := [.ref (b + (n + 1)), .ref (b + (n + 2)), .int 0, .int 0]) hx hb hts nu_Blocks hown hK hP n (by omega) (by unfold bkC; rw [if_pos rfl]) rfl 0 (by decide) (hts _ nw_61) (.ref (b + (n + 1))) rfl nd_Blocks_init_30 ?_
      refine lv_iload_n hx hb nd_Blocks_init_33 rfl (lv_at hl 0 rfl) ?_
      refine gw_size (wdG_lo hP (by omega)) (by omega) (fun hH => ?_)
      refine gw_new (ci := 1) hx hb hts nu_Block nY_Block nY_Block_ok hown (hts _ nw_33) (hts _ nw_35) (hts _ nw_3) hK hP hS hH rfl [.int 0, .int 0, .int 0, .long 0, .long 0] (by decide) (by rw [hRc]; omega) (by rw [hRs]; omega) nd_Blocks_init_34 (fun H hP hS hH => ?_)
      refine lv_dup hx hb nd_Blocks_init_37 rfl ?_
      refine gw_size (wdG_lo hP (by omega)) (by omega) (fun hH => ?_)
      refine gw_IN (As := []) (rest := [.ref (b + (n + 3 + k)), .int (nI k), .ref (b + (n + 1))]) ⟨hx, hb, hml, hown, hts⟩ (xi_Block hA (b + (n + 3 + k))) (ki_Block_initN hts (hN.1 _ nw_36) ⟨Nat.le_of_ble_eq_true rfl, Nat.le_of_ble_eq_true rfl⟩) hK hN hO hP hS hH rfl hl.1 rfl (Nat.le_of_ble_eq_true rfl) ⟨by rw [hRc]; omega, by rw [hRs]; omega⟩ nd_Blocks_init_38 (fun H locs hP hS => ?_)
      refine gw_astq hx hb hK hA hP hS (n + 1) 3 1 (n + 3 + k) (by omega) (by omega) (by rw [up_ne (by omega)]; unfold bkC; rw [if_neg (by omega), if_pos rfl]) rfl up_eq rfl (gd_nI (by omega) (by omega)) nd_Blocks_init_41 (fun H locs hP hS => ?_)
      refine lv_iinc (v := nI k + 1) (lv' := [(1, .int (nI k + 1)), (0, .ref (b + n))]) hx hb nd_Blocks_init_42 hl (k := 0) rfl rfl (by decide) rfl (fun ls hl => ?_)
      refine lv_goto hx hb nd_Blocks_init_45 (tgt := 23) rfl ?_
      rw [nI_1] at hl
      refine W.widen (k := 2 + (k + 1)) (n := 126 + 5 * (k + 1)) (by omega) (by omega) ?_
      refine ih (k + 1) (by omega) H locs ls (va_P_eq (wdG_congr fun i hi => ?_) hP) hS hl
      rw [show (va_up (rfs (fun i => b + (n + 3 + i)) k) k (some (b + (n + 3 + k)))) = rfs (fun i => b + (n + 3 + i)) (k + 1) from rfs_up (fun i => b + (n + 3 + i)) k]
      unfold va_up bkC
      by_cases h1 : i = n + 1
      · simp only [if_pos h1, if_neg (show ¬ i = n by omega)]
      · simp only [if_neg h1]
        by_cases h2 : i = n + 3 + k
        · simp only [if_pos h2, if_neg (show ¬ i = n by omega), if_neg (show ¬ i = n + 2 by omega), if_pos (show n + 3 ≤ i by omega)]
        · simp only [if_neg h2]
  refine loop 30 0 rfl H locs ls (va_P_eq (wdG_congr fun i hi => ?_) hP) hS hl
  unfold va_up bkC
  by_cases h1 : i = n
  · simp only [if_pos h1]; rfl
  · simp only [if_neg h1]
    by_cases h2 : i = n + 1 + 1
    · simp only [if_pos h2, if_neg (show ¬ i = n + 1 by omega), if_pos (show i = n + 2 by omega)]
    · simp only [if_neg h2]
      by_cases h3 : i = n + 1
      · simp only [if_pos h3]; rw [← rfs_0]
      · simp only [if_neg h3, if_neg (show ¬ i = n + 2 by omega), if_neg (show ¬ n + 3 ≤ i by omega)]
def wpf (k : Nat) : Nat → Int32 := fun j => if j < k then 32 else 0
theorem wpf_up (k : Nat) : va_up (wpf k) k (vp_nar .char 32) = wpf (k + 1) := by
  funext j
  unfold va_up wpf
  by_cases h : j = k
  · rw [if_pos h, if_pos (by omega)]; rfl
  · rw [if_neg h]
    by_cases h2 : j < k
    · rw [if_pos h2, if_pos (by omega)]
    · rw [if_neg h2, if_neg (by omega)]
set_option maxHeartbeats 4000000 in
set_option maxRecDepth 100000 in
theorem xi_wipe {l : Launch} {D : va_G} {A : Nat → Prop} {cA : Nat → ClassId} {b : Nat} (hA : ∀ q, b ≤ q → A q) {n : Nat} {ct : Nat → va_E} (x : Nat) (h0 : ct n = .inr (3, [.ref (b + (n + 1)), .ref x])) (h1z : ct (n + 1) = .inl (cA 1, 96, .inl (fun _ => 0))) : IT l D vwCl (xtys cA) A b ny_Field_wipe (wsO ny_Field_wipe prog_4_method_3_code 2 none) (rmI 0 0 0 0) 0 0 [.ref (b + n)] (n + 2) ct (n + 2) (va_up ct (n + 1) (.inl (cA 1, 96, .inl (wpf 96)))) := by
  refine Met.ofW (cc := prog_4_method_3_code) (maxL := 2) (ret := none) (by decide +kernel) rfl ?_
  intro p e s m args below meth c s₁ B hml hv
  obtain ⟨hav, hsz, hP, hK, hN, hO⟩ := hv
  have hx := B.exec
  have hb := B.bytes
  have hr := B.returns
  have hts : ∀ w ∈ lw_wd, w.before args s = true := fun w hw => atoms_spec (ws := (wsO ny_Field_wipe prog_4_method_3_code 2 none)) B.pre w (List.mem_cons_of_mem _ hw)
  have hown : s.vm.findClass "DrawnPaths$Field" = some m.cls := findClass_of_methodNamed B.named
  have hlocks := B.notSynchronized
  have hin : meth.name = "wipe" := (name_of_methodNamed B.named B.method).1
  have hS : va_S A s.heap s.heap [] := va_S.rf
  have hRc : (headSpec (wsO ny_Field_wipe prog_4_method_3_code 2 none) (rmI 0 0 0 0)).room.cells = 0 := rfl
  have hRs : (headSpec (wsO ny_Field_wipe prog_4_method_3_code 2 none) (rmI 0 0 0 0)).room.slots = 0 := rfl
  have hl := lv_entry ([.ref (b + n)]) (n := 2) (Nat.le_of_ble_eq_true rfl)
  have hE : entryFrame m args 2 = entryFrame m ([.ref (b + n)] : List Value).toArray 2 := by rw [hav]
  rw [hE, lg_entry_eq]
  generalize (lg_sl ([.ref (b + n)]) ++ List.replicate (2 - (lg_sl ([.ref (b + n)])).length) Slot.unset).toArray = ls at hl ⊢
  have hl : lv_has ls 2 [(0, .ref (b + n))] := hl
  refine lv_iconst (v := 0) hx hb nd_Field_wipe_0 (by decide) ?_
  refine lv_istore_n (lv' := [(1, .int 0), (0, .ref (b + n))]) hx hb nd_Field_wipe_1 rfl hl (by decide) rfl (fun ls hl => ?_)
  have loop : ∀ (r k : Nat) (hk : k + r = 96) (H : Heap) (locs : List Loc) (ls : Array Slot) (hP : va_P D vwCl (wdG (n + 2) (gad b) (va_up ct (n + 1) (.inl (cA 1, 96, .inl (wpf k))))) H) (hS : va_S A s.heap H locs) (hl : lv_has ls 2 [(1, .int (nI k)), (0, .ref (b + n))]), W p l e (headSpec (wsO ny_Field_wipe prog_4_method_3_code 2 none) (rmI 0 0 0 0)).room s m args below meth c H locs 0 0 (MQ below (ItQ D vwCl A b (n + 2) (va_up ct (n + 1) (.inl (cA 1, 96, .inl (wpf 96))))) args s 0 0 A) (F0 m 2 ls []) := by
    intro r
    induction r with
    | zero =>
      intro k hk H locs ls hP hS hl
      have hk : k = 96 := by omega
      subst hk
      refine lv_iload_n hx hb nd_Field_wipe_2 rfl (lv_at hl 0 rfl) ?_
      refine lv_bipush (v := 96) hx hb nd_Field_wipe_3 (by decide) ?_
      refine lv_icmp_ge (tgt := 22) hx hb nd_Field_wipe_5 rfl (fun hc => ?_) (fun hc => absurd (by decide) hc)
      exact W.vret hx hb hr (fun t ht hW => ⟨rfl, by rw [ht]; exact hP, hS.F ht⟩) hS.2.2 nd_Field_wipe_22
    | succ r ih =>
      intro k hk H locs ls hP hS hl
      refine lv_iload_n hx hb nd_Field_wipe_2 rfl (lv_at hl 0 rfl) ?_
      refine lv_bipush (v := 96) hx hb nd_Field_wipe_3 (by decide) ?_
      refine lv_icmp_ge (tgt := 22) hx hb nd_Field_wipe_5 rfl (fun hc => absurd (show nI 96 ≤ nI k from hc) (nI_ge (by omega) (by omega))) (fun hc => ?_)
      refine lv_aload_n hx hb nd_Field_wipe_8 rfl (lv_at hl 1 rfl) ?_
      refine gw_get (fs := [.ref (b + (n + 1)), .ref x]) hx hb hts nu_Field hown hK hP n (by omega) (by rw [up_ne (by omega)]; exact h0) rfl 0 (by decide) (hts _ nw_86) (.ref (b + (n + 1))) rfl nd_Field_wipe_9 ?_
      refine lv_iload_n hx hb nd_Field_wipe_12 rfl (lv_at hl 0 rfl) ?_
      refine lv_bipush (v := 32) hx hb nd_Field_wipe_13 (by decide) ?_
      refine gw_cast hx hb hK hA hP hS (n + 1) 1 (by omega) up_eq rfl (gd_nI (by omega) (by omega)) nd_Field_wipe_15 (fun H locs hP hS => ?_)
      refine lv_iinc (v := nI k + 1) (lv' := [(1, .int (nI k + 1)), (0, .ref (b + n))]) hx hb nd_Field_wipe_16 hl (k := 0) rfl rfl (by decide) rfl (fun ls hl => ?_)
      refine lv_goto hx hb nd_Field_wipe_19 (tgt := 2) rfl ?_
      rw [nI_1] at hl
      rw [bx_uu, wpf_up] at hP
      exact ih (k + 1) (by omega) H locs ls hP hS hl
  refine loop 96 0 rfl _ _ ls (va_P_eq (wdG_congr fun i hi => ?_) hP) hS hl
  by_cases h1 : i = n + 1
  · rw [h1, up_eq, h1z]
    rfl
  · rw [up_ne h1]
theorem ki_wipe {R : Room} {s : State} {args : Array Value} (hts : ∀ w ∈ lw_wd, w.before args s = true) {own : String} {index : Nat} (hl : (Cond.methodLink own index ny_Field_wipe).before args s = true) (hR : 0 + 1 ≤ R.frames ∧ 8 + (2 + 11) + 0 ≤ R.locals) : CallW R s args own "DrawnPaths$Field" index ny_Field_wipe prog_4_method_3_code 2 none (wsO ny_Field_wipe prog_4_method_3_code 2 none) (rmI 0 0 0 0) 0 0 0 := ⟨callB_of 0 hts (wsO_good nw_85) rfl rfl rfl (hts _ nw_4) hl (by decide +kernel) hR, hts _ nw_83, hts _ nw_84⟩
theorem ki_Field_init {R : Room} {s : State} {args : Array Value} (hts : ∀ w ∈ lw_wd, w.before args s = true) {own : String} {index : Nat} (hl : (Cond.methodLink own index ny_Field_init).before args s = true) (hR : 1 + 1 ≤ R.frames ∧ 8 + (2 + 11) + 30 ≤ R.locals) : CallB R s args own index ny_Field_init prog_4_method_1_code 2 none (wsO ny_Field_init prog_4_method_1_code 2 none) (rmI 1 30 1 96) 1 96 1 ∧ ny_Field_init.name = "<init>" ∧ (Cond.instanceMethod ny_Field_init).before args s = true := ⟨callB_of 1 hts (wsO_good nw_80) rfl rfl rfl (hts _ nw_4) hl (by decide +kernel) hR, rfl, hts _ nw_79⟩
set_option maxHeartbeats 4000000 in
set_option maxRecDepth 100000 in
theorem xi_Field {l : Launch} {D : va_G} {A : Nat → Prop} {cA : Nat → ClassId} {b : Nat} (hA : ∀ q, b ≤ q → A q) {n : Nat} {ct : Nat → va_E} (x : Nat) (h0 : ct n = .inr (3, [.null, .null])) : IT l D vwCl (xtys cA) A b ny_Field_init (wsO ny_Field_init prog_4_method_1_code 2 none) (rmI 1 30 1 96) 1 96 [.ref (b + n), .ref x] (n + 1) ct (n + 2) (va_up (va_up (va_up (va_up ct (n + 1) (.inl (cA 1, 96, .inl (fun _ => 0)))) n (.inr (3, [.ref (b + (n + 1)), .null]))) n (.inr (3, [.ref (b + (n + 1)), .ref x]))) (n + 1) (.inl (cA 1, 96, .inl (wpf 96)))) := by
  refine Met.ofW (cc := prog_4_method_1_code) (maxL := 2) (ret := none) (by decide +kernel) rfl ?_
  intro p e s m args below meth c s₁ B hml hv
  obtain ⟨hav, hsz, hP, hK, hN, hO⟩ := hv
  have hx := B.exec
  have hb := B.bytes
  have hr := B.returns
  have hts : ∀ w ∈ lw_wd, w.before args s = true := fun w hw => atoms_spec (ws := (wsO ny_Field_init prog_4_method_1_code 2 none)) B.pre w (List.mem_cons_of_mem _ hw)
  have hown : s.vm.findClass "DrawnPaths$Field" = some m.cls := findClass_of_methodNamed B.named
  have hlocks := B.notSynchronized
  have hin : meth.name = "<init>" := (name_of_methodNamed B.named B.method).1
  have hS : va_S A s.heap s.heap [] := va_S.rf
  have hRc : (headSpec (wsO ny_Field_init prog_4_method_1_code 2 none) (rmI 1 30 1 96)).room.cells = 1 := rfl
  have hRs : (headSpec (wsO ny_Field_init prog_4_method_1_code 2 none) (rmI 1 30 1 96)).room.slots = 96 := rfl
  have hl := lv_entry ([.ref (b + n), .ref x]) (n := 2) (Nat.le_of_ble_eq_true rfl)
  have hE : entryFrame m args 2 = entryFrame m ([.ref (b + n), .ref x] : List Value).toArray 2 := by rw [hav]
  rw [hE, lg_entry_eq]
  generalize (lg_sl ([.ref (b + n), .ref x]) ++ List.replicate (2 - (lg_sl ([.ref (b + n), .ref x])).length) Slot.unset).toArray = ls at hl ⊢
  have hl : lv_has ls 2 [(0, .ref (b + n)), (1, .ref x)] := hl
  refine lv_aload_n hx hb nd_Field_init_0 rfl (lv_at hl 0 rfl) ?_
  refine W.objInit hx hb hown (hts _ nw_81) (hts _ nw_25) (hts _ nw_26) rfl (by rw [hml]; exact hl.1) rfl nd_Field_init_1 (Nat.le_of_ble_eq_true rfl) (Nat.le_of_ble_eq_true rfl) ?_
  refine W.eq (g2 := F0 m 4 ls []) rfl ?_
  refine lv_aload_n hx hb nd_Field_init_4 rfl (lv_at hl 0 rfl) ?_
  refine lv_bipush (v := 96) hx hb nd_Field_init_5 (by decide) ?_
  refine gw_size (wdG_lo hP (by omega)) (by omega) (fun hH => ?_)
  refine gw_newa (atype := .char) (ty := .char) hx hb (hts _ nw_96) rfl hK hP hS hH 1 rfl (96, .inl (fun _ => 0)) (fun _ => rfl) (by decide) (by decide) (by show 96 * 2 ≤ 536870912; omega) (by rw [hRc]; omega) (by rw [hRs]; omega) nd_Field_init_7 (fun H hP hS hH => ?_)
  refine gw_putF (ty := .array (.char)) hx hb hts nu_Field nY_Field nY_Field_ok nN_Field hown hK hA hP hS n (by omega) [.null, .null] (by rw [up_ne (by omega)]; exact h0) rfl 0 (by decide) (hts _ nw_86) rfl hin rfl (by decide +kernel) rfl rfl (Nat.le_of_ble_eq_true rfl) nd_Field_init_9 (fun H locs hP hS => ?_)
  refine lv_aload_n hx hb nd_Field_init_12 rfl (lv_at hl 0 rfl) ?_
  refine lv_aload_n hx hb nd_Field_init_13 rfl (lv_at hl 1 rfl) ?_
  refine gw_putF (ty := .object "DrawnPaths$Blocks") hx hb hts nu_Field nY_Field nY_Field_ok nN_Field hown hK hA hP hS n (by omega) [.ref (b + (n + 1)), .null] (by rw [up_eq]; rfl) rfl 1 (by decide) (hts _ nw_89) rfl hin rfl (by decide +kernel) rfl rfl (Nat.le_of_ble_eq_true rfl) nd_Field_init_14 (fun H locs hP hS => ?_)
  refine lv_aload_n hx hb nd_Field_init_17 rfl (lv_at hl 0 rfl) ?_
  refine gw_size (wdG_lo hP (by omega)) (by omega) (fun hH => ?_)
  refine gw_V (As := []) (rest := []) ⟨hx, hb, hml, hown, hts⟩ (xi_wipe hA x (by rw [up_eq]; rfl) (by rw [up_ne (by omega), up_ne (by omega), up_eq])) (ki_wipe hts (hts _ nw_82) ⟨Nat.le_of_ble_eq_true rfl, Nat.le_of_ble_eq_true rfl⟩) (va_recv (q := (nR_Field, nT_Field, 2)) hK hP rfl (wdG_at (ad := gad b) (i := n) (by omega) up_eq)) hK hN hO hP hS hH rfl hl.1 rfl (Nat.le_of_ble_eq_true rfl) ⟨by rw [hRc]; omega, by rw [hRs]; omega⟩ nd_Field_init_18 (fun H locs hP hS => ?_)
  exact W.vret hx hb hr (fun t ht hW => ⟨rfl, by rw [ht]; exact hP, hS.F ht⟩) hS.2.2 nd_Field_init_21
def ptC (cA : Nat → ClassId) (b n d : Nat) : va_E :=
  if d % 3 = 0 then .inr (5, [.ref (b + (n + 6 + d + 1)), .ref (b + (n + 6 + d + 2)), .int 0, .int 0, .int 0]) else
  if d % 3 = 1 then .inl (cA 2, 24, .inr (.inl (fun _ => 0))) else .inl (cA 0, 8, .inl (fun _ => 0))
def rnC (cA : Nat → ClassId) (b n x : Nat) (ct : Nat → va_E) (k : Nat) : Nat → va_E := fun j =>
  if j = n then .inr (6, [.ref x, .ref (b + (n + 1)), .ref (b + (n + 2)), .ref (b + (n + 3)), .ref (b + (n + 4)), .int 0, .int 0, .int 0, .int 0, .int 0]) else
  if j = n + 1 then .inl (cA 4, 4, .inr (.inr (.inr (.inr (rfs (fun i => b + (n + 6 + 3 * i)) k))))) else
  if j = n + 2 then .inl (cA 2, 40, .inr (.inl (fun _ => 0))) else
  if j = n + 3 then .inl (cA 1, 20, .inl (fun _ => 0)) else
  if j = n + 4 then .inr (4, [.ref (b + (n + 5)), .int 0]) else
  if j = n + 5 then .inl (cA 1, 80, .inl (fun _ => 0)) else
  if n + 6 ≤ j then ptC cA b n (j - (n + 6)) else ct j
theorem ki_Run_init {R : Room} {s : State} {args : Array Value} (hts : ∀ w ∈ lw_wd, w.before args s = true) {own : String} {index : Nat} (hl : (Cond.methodLink own index ny_Run_init).before args s = true) (hR : 2 + 1 ≤ R.frames ∧ 8 + (3 + 11) + 45 ≤ R.locals) : CallB R s args own index ny_Run_init prog_7_method_1_code 3 none (wsO ny_Run_init prog_7_method_1_code 3 none) (rmI 2 45 17 294) 17 294 1 ∧ ny_Run_init.name = "<init>" ∧ (Cond.instanceMethod ny_Run_init).before args s = true := ⟨callB_of 1 hts (wsO_good nw_101) rfl rfl rfl (hts _ nw_5) hl (by decide +kernel) hR, rfl, hts _ nw_100⟩
set_option maxHeartbeats 4000000 in
set_option maxRecDepth 100000 in
theorem xi_Run {l : Launch} {D : va_G} {A : Nat → Prop} {cA : Nat → ClassId} {b : Nat} (hA : ∀ q, b ≤ q → A q) {n : Nat} {ct : Nat → va_E} (x : Nat) (h0 : ct n = .inr (6, [.null, .null, .null, .null, .null, .int 0, .int 0, .int 0, .int 0, .int 0])) : IT l D vwCl (xtys cA) A b ny_Run_init (wsO ny_Run_init prog_7_method_1_code 3 none) (rmI 2 45 17 294) 17 294 [.ref (b + n), .ref x] (n + 1) ct (n + 18) (rnC cA b n x ct 4) := by
  refine Met.ofW (cc := prog_7_method_1_code) (maxL := 3) (ret := none) (by decide +kernel) rfl ?_
  intro p e s m args below meth c s₁ B hml hv
  obtain ⟨hav, hsz, hP, hK, hN, hO⟩ := hv
  have hx := B.exec
  have hb := B.bytes
  have hr := B.returns
  have hts : ∀ w ∈ lw_wd, w.before args s = true := fun w hw => atoms_spec (ws := (wsO ny_Run_init prog_7_method_1_code 3 none)) B.pre w (List.mem_cons_of_mem _ hw)
  have hown : s.vm.findClass "DrawnPaths$Run" = some m.cls := findClass_of_methodNamed B.named
  have hlocks := B.notSynchronized
  have hin : meth.name = "<init>" := (name_of_methodNamed B.named B.method).1
  have hS : va_S A s.heap s.heap [] := va_S.rf
  have hRc : (headSpec (wsO ny_Run_init prog_7_method_1_code 3 none) (rmI 2 45 17 294)).room.cells = 17 := rfl
  have hRs : (headSpec (wsO ny_Run_init prog_7_method_1_code 3 none) (rmI 2 45 17 294)).room.slots = 294 := rfl
  have hl := lv_entry ([.ref (b + n), .ref x]) (n := 3) (Nat.le_of_ble_eq_true rfl)
  have hE : entryFrame m args 3 = entryFrame m ([.ref (b + n), .ref x] : List Value).toArray 3 := by rw [hav]
  rw [hE, lg_entry_eq]
  generalize (lg_sl ([.ref (b + n), .ref x]) ++ List.replicate (3 - (lg_sl ([.ref (b + n), .ref x])).length) Slot.unset).toArray = ls at hl ⊢
  have hl : lv_has ls 3 [(0, .ref (b + n)), (1, .ref x)] := hl
  refine lv_aload_n hx hb nd_Run_init_0 rfl (lv_at hl 0 rfl) ?_
  refine W.objInit hx hb hown (hts _ nw_102) (hts _ nw_25) (hts _ nw_26) rfl (by rw [hml]; exact hl.1) rfl nd_Run_init_1 (Nat.le_of_ble_eq_true rfl) (Nat.le_of_ble_eq_true rfl) ?_
  refine W.eq (g2 := F0 m 4 ls []) rfl ?_
  refine lv_aload_n hx hb nd_Run_init_4 rfl (lv_at hl 0 rfl) ?_
  refine lv_iconst (v := 4) hx hb nd_Run_init_5 (by decide) ?_
  refine gw_size (wdG_lo hP (by omega)) (by omega) (fun hH => ?_)
  refine gw_newq hx hb hown (hts _ nw_103) hO.2 hK hP hS hH 4 rfl (N' := 4) (by decide) (by decide) (by omega) (by rw [hRc]; omega) (by rw [hRs]; omega) nd_Run_init_6 (fun H hP hS hH => ?_)
  refine gw_putF (ty := .array (.object "DrawnPaths$Pointer")) hx hb hts nu_Run nY_Run nY_Run_ok nN_Run hown hK hA hP hS n (by omega) [.null, .null, .null, .null, .null, .int 0, .int 0, .int 0, .int 0, .int 0] (by rw [up_ne (by omega)]; exact h0) rfl 1 (by decide) (hts _ nw_149) rfl hin rfl (by decide +kernel) rfl rfl (Nat.le_of_ble_eq_true rfl) nd_Run_init_9 (fun H locs hP hS => ?_)
  refine lv_aload_n hx hb nd_Run_init_12 rfl (lv_at hl 0 rfl) ?_
  refine lv_bipush (v := 40) hx hb nd_Run_init_13 (by decide) ?_
  refine gw_size (wdG_lo hP (by omega)) (by omega) (fun hH => ?_)
  refine gw_newa (atype := .long) (ty := .long) hx hb (hts _ nw_119) rfl hK hP hS hH 2 rfl (40, .inr (.inl (fun _ => 0))) (fun _ => rfl) (by decide) (by decide) (by show 40 * 8 ≤ 536870912; omega) (by rw [hRc]; omega) (by rw [hRs]; omega) nd_Run_init_15 (fun H hP hS hH => ?_)
  refine gw_putF (ty := .array (.long)) hx hb hts nu_Run nY_Run nY_Run_ok nN_Run hown hK hA hP hS n (by omega) [.null, .ref (b + (n + 1)), .null, .null, .null, .int 0, .int 0, .int 0, .int 0, .int 0] (by rw [up_ne (by omega), up_eq]; rfl) rfl 2 (by decide) (hts _ nw_151) rfl hin rfl (by decide +kernel) rfl rfl (Nat.le_of_ble_eq_true rfl) nd_Run_init_17 (fun H locs hP hS => ?_)
  refine lv_aload_n hx hb nd_Run_init_20 rfl (lv_at hl 0 rfl) ?_
  refine lv_bipush (v := 20) hx hb nd_Run_init_21 (by decide) ?_
  refine gw_size (wdG_lo hP (by omega)) (by omega) (fun hH => ?_)
  refine gw_newa (atype := .char) (ty := .char) hx hb (hts _ nw_96) rfl hK hP hS hH 1 rfl (20, .inl (fun _ => 0)) (fun _ => rfl) (by decide) (by decide) (by show 20 * 2 ≤ 536870912; omega) (by rw [hRc]; omega) (by rw [hRs]; omega) nd_Run_init_23 (fun H hP hS hH => ?_)
  refine gw_putF (ty := .array (.char)) hx hb hts nu_Run nY_Run nY_Run_ok nN_Run hown hK hA hP hS n (by omega) [.null, .ref (b + (n + 1)), .ref (b + (n + 2)), .null, .null, .int 0, .int 0, .int 0, .int 0, .int 0] (by rw [up_ne (by omega), up_eq]; rfl) rfl 3 (by decide) (hts _ nw_152) rfl hin rfl (by decide +kernel) rfl rfl (Nat.le_of_ble_eq_true rfl) nd_Run_init_25 (fun H locs hP hS => ?_)
  refine lv_aload_n hx hb nd_Run_init_28 rfl (lv_at hl 0 rfl) ?_
  refine gw_size (wdG_lo hP (by omega)) (by omega) (fun hH => ?_)
  refine gw_new (ci := 4) hx hb hts nu_Line nY_Line nY_Line_ok hown (hts _ nw_105) (hts _ nw_106) (hts _ nw_6) hK hP hS hH rfl [.null, .int 0] (by decide) (by rw [hRc]; omega) (by rw [hRs]; omega) nd_Run_init_29 (fun H hP hS hH => ?_)
  refine lv_dup hx hb nd_Run_init_32 rfl ?_
  refine lv_bipush (v := 80) hx hb nd_Run_init_33 (by decide) ?_
  refine gw_size (wdG_lo hP (by omega)) (by omega) (fun hH => ?_)
  refine gw_I (As := [.int 80]) (rest := [.ref (b + (n + 4)), .ref (b + n)]) ⟨hx, hb, hml, hown, hts⟩ (xi_Line hA 80 80 (by decide) (by decide) (by decide) up_eq) (ki_Line_init hts (hts _ nw_107) ⟨Nat.le_of_ble_eq_true rfl, Nat.le_of_ble_eq_true rfl⟩) hK hN hO hP hS hH rfl hl.1 rfl (Nat.le_of_ble_eq_true rfl) ⟨by rw [hRc]; omega, by rw [hRs]; omega⟩ nd_Run_init_35 (fun H locs hP hS => ?_)
  refine gw_putF (ty := .object "DrawnPaths$Line") hx hb hts nu_Run nY_Run nY_Run_ok nN_Run hown hK hA hP hS n (by omega) [.null, .ref (b + (n + 1)), .ref (b + (n + 2)), .ref (b + (n + 3)), .null, .int 0, .int 0, .int 0, .int 0, .int 0] (by rw [up_ne (by omega), up_ne (by omega), up_ne (by omega), up_eq]; rfl) rfl 4 (by decide) (hts _ nw_153) rfl hin rfl (by decide +kernel) rfl rfl (Nat.le_of_ble_eq_true rfl) nd_Run_init_38 (fun H locs hP hS => ?_)
  refine lv_aload_n hx hb nd_Run_init_41 rfl (lv_at hl 0 rfl) ?_
  refine lv_aload_n hx hb nd_Run_init_42 rfl (lv_at hl 1 rfl) ?_
  refine gw_putF (ty := .object "DrawnPaths$Field") hx hb hts nu_Run nY_Run nY_Run_ok nN_Run hown hK hA hP hS n (by omega) [.null, .ref (b + (n + 1)), .ref (b + (n + 2)), .ref (b + (n + 3)), .ref (b + (n + 4)), .int 0, .int 0, .int 0, .int 0, .int 0] (by rw [up_eq]; rfl) rfl 0 (by decide) (hts _ nw_148) rfl hin rfl (by decide +kernel) rfl rfl (Nat.le_of_ble_eq_true rfl) nd_Run_init_43 (fun H locs hP hS => ?_)
  refine lv_iconst (v := 0) hx hb nd_Run_init_46 (by decide) ?_
  refine lv_istore_n (lv' := [(2, .int 0), (0, .ref (b + n)), (1, .ref x)]) hx hb nd_Run_init_47 rfl hl (by decide) rfl (fun ls hl => ?_)
  refine W.widen (k := 5) (n := 4 + 40 + 20 + 2 + 80) (by omega) (by omega) ?_
  have loop : ∀ (r k : Nat) (hk : k + r = 4) (H : Heap) (locs : List Loc) (ls : Array Slot) (hP : va_P D vwCl (wdG (n + 6 + 3 * k) (gad b) (rnC cA b n x ct k)) H) (hS : va_S A s.heap H locs) (hl : lv_has ls 3 [(2, .int (nI k)), (0, .ref (b + n)), (1, .ref x)]), W p l e (headSpec (wsO ny_Run_init prog_7_method_1_code 3 none) (rmI 2 45 17 294)).room s m args below meth c H locs (5 + 3 * k) (146 + 37 * k) (MQ below (ItQ D vwCl A b (n + 18) (rnC cA b n x ct 4)) args s 17 294 A) (F0 m 48 ls []) := by
    intro r
    induction r with
    | zero =>
      intro k hk H locs ls hP hS hl
      have hk : k = 4 := by omega
      subst hk
      refine lv_iload_n hx hb nd_Run_init_48 rfl (lv_at hl 0 rfl) ?_
      refine lv_iconst (v := 4) hx hb nd_Run_init_49 (by decide) ?_
      refine lv_icmp_ge (tgt := 72) hx hb nd_Run_init_50 rfl (fun hc => ?_) (fun hc => absurd (by decide) hc)
      exact W.vret hx hb hr (fun t ht hW => ⟨rfl, by rw [ht]; exact hP, hS.F ht⟩) hS.2.2 nd_Run_init_72
    | succ r ih =>
      intro k hk H locs ls hP hS hl
      refine lv_iload_n hx hb nd_Run_init_48 rfl (lv_at hl 0 rfl) ?_
      refine lv_iconst (v := 4) hx hb nd_Run_init_49 (by decide) ?_
      refine lv_icmp_ge (tgt := 72) hx hb nd_Run_init_50 rfl (fun hc => absurd (show nI 4 ≤ nI k from hc) (nI_ge (by omega) (by omega))) (fun hc => ?_)
      refine lv_aload_n hx hb nd_Run_init_53 rfl (lv_at hl 1 rfl) ?_
      refine gw_get (fs := [.ref x, .ref (b + (n + 1)), .ref (b + (n + 2)), .ref (b + (n + 3)), .ref (b + (n + 4)), .int 0, .int 0, .int 0, .int 0, .int 0]) hx hb hts nu_Run hown hK hP n (by omega) (by unfold rnC; rw [if_pos rfl]) rfl 1 (by decide) (hts _ nw_149) (.ref (b + (n + 1))) rfl nd_Run_init_54 ?_
      refine lv_iload_n hx hb nd_Run_init_57 rfl (lv_at hl 0 rfl) ?_
      refine gw_size (wdG_lo hP (by omega)) (by omega) (fun hH => ?_)
      refine gw_new (ci := 5) hx hb hts nu_Ptr nY_Ptr nY_Ptr_ok hown (hts _ nw_103) (hts _ nw_120) (hts _ nw_7) hK hP hS hH rfl [.null, .null, .int 0, .int 0, .int 0] (by decide) (by rw [hRc]; omega) (by rw [hRs]; omega) nd_Run_init_58 (fun H hP hS hH => ?_)
      refine lv_dup hx hb nd_Run_init_61 rfl ?_
      refine gw_size (wdG_lo hP (by omega)) (by omega) (fun hH => ?_)
      refine gw_IN (As := []) (rest := [.ref (b + (n + 6 + 3 * k)), .int (nI k), .ref (b + (n + 1))]) ⟨hx, hb, hml, hown, hts⟩ (xi_Pointer (n := n + 6 + 3 * k) hA up_eq) (ki_Ptr_initN hts (hN.1 _ nw_121) ⟨Nat.le_of_ble_eq_true rfl, Nat.le_of_ble_eq_true rfl⟩) hK hN hO hP hS hH rfl hl.1 rfl (Nat.le_of_ble_eq_true rfl) ⟨by rw [hRc]; omega, by rw [hRs]; omega⟩ nd_Run_init_62 (fun H locs hP hS => ?_)
      refine gw_astq hx hb hK hA hP hS (n + 1) 4 5 (n + 6 + 3 * k) (by omega) (by omega) (by rw [up_ne (by omega), up_ne (by omega), up_ne (by omega), up_ne (by omega), up_ne (by omega)]; unfold rnC; rw [if_neg (by omega), if_pos rfl]) rfl up_eq rfl (gd_nI (by omega) (by omega)) nd_Run_init_65 (fun H locs hP hS => ?_)
      refine lv_iinc (v := nI k + 1) (lv' := [(2, .int (nI k + 1)), (0, .ref (b + n)), (1, .ref x)]) hx hb nd_Run_init_66 hl (k := 0) rfl rfl (by decide) rfl (fun ls hl => ?_)
      refine lv_goto hx hb nd_Run_init_69 (tgt := 48) rfl ?_
      rw [nI_1] at hl
      refine W.widen (k := 5 + 3 * (k + 1)) (n := 146 + 37 * (k + 1)) (by omega) (by omega) ?_
      refine ih (k + 1) (by omega) H locs ls (va_P_eq (wdG_congr fun i hi => ?_) hP) hS hl
      rw [show (va_up (rfs (fun i => b + (n + 6 + 3 * i)) k) k (some (b + (n + 6 + 3 * k)))) = rfs (fun i => b + (n + 6 + 3 * i)) (k + 1) from rfs_up (fun i => b + (n + 6 + 3 * i)) k]
      unfold va_up rnC
      by_cases h1 : i = n + 1
      · simp only [if_pos h1, if_neg (show ¬ i = n by omega)]
      · simp only [if_neg h1]
        by_cases h2 : n + 6 + 3 * k ≤ i
        · simp only [if_neg (show ¬ i = n by omega), if_neg (show ¬ i = n + 2 by omega), if_neg (show ¬ i = n + 3 by omega), if_neg (show ¬ i = n + 4 by omega), if_neg (show ¬ i = n + 5 by omega), if_pos (show n + 6 ≤ i by omega)]
          unfold ptC
          rcases (show i = n + 6 + 3 * k ∨ i = n + 6 + 3 * k + 1 ∨ i = n + 6 + 3 * k + 2 by omega) with h3 | h3 | h3
          · simp only [if_pos h3, if_pos (show (i - (n + 6)) % 3 = 0 by omega)]
            rw [show b + (n + 6 + (i - (n + 6)) + 1) = b + (n + 6 + 3 * k + 1) by omega, show b + (n + 6 + (i - (n + 6)) + 2) = b + (n + 6 + 3 * k + 2) by omega]
          · simp only [if_neg (show ¬ i = n + 6 + 3 * k by omega), if_neg (show ¬ i = n + 6 + 3 * k + 2 by omega), if_pos h3, if_neg (show ¬ (i - (n + 6)) % 3 = 0 by omega), if_pos (show (i - (n + 6)) % 3 = 1 by omega)]
          · simp only [if_neg (show ¬ i = n + 6 + 3 * k by omega), if_pos h3, if_neg (show ¬ (i - (n + 6)) % 3 = 0 by omega), if_neg (show ¬ (i - (n + 6)) % 3 = 1 by omega)]
        · simp only [if_neg (show ¬ i = n + 6 + 3 * k by omega), if_neg (show ¬ i = n + 6 + 3 * k + 1 by omega), if_neg (show ¬ i = n + 6 + 3 * k + 2 by omega)]
  refine loop 4 0 rfl _ _ ls (va_P_eq (wdG_congr fun i hi => ?_) hP) hS hl
  unfold va_up rnC
  by_cases g0 : i = n
  · simp only [if_pos g0]; rfl
  simp only [if_neg g0]
  by_cases g1 : i = n + 1
  · simp only [if_pos g1, if_neg (show ¬ i = n + 2 by omega), if_neg (show ¬ i = n + 1 + 1 by omega), if_neg (show ¬ i = n + 1 + 1 + 1 by omega), if_neg (show ¬ i = n + 1 + 1 + 1 + 1 by omega), if_neg (show ¬ i = n + 1 + 1 + 1 + 1 + 1 by omega)]
    rw [← rfs_0]
  simp only [if_neg g1]
  by_cases g2 : i = n + 2
  · simp only [if_pos g2, if_pos (show i = n + 1 + 1 by omega), if_neg (show ¬ i = n + 1 + 1 + 1 by omega), if_neg (show ¬ i = n + 3 by omega), if_neg (show ¬ i = n + 1 + 1 + 1 + 1 by omega), if_neg (show ¬ i = n + 4 by omega), if_neg (show ¬ i = n + 1 + 1 + 1 + 1 + 1 by omega), if_neg (show ¬ i = n + 5 by omega)]
  by_cases g3 : i = n + 3
  · simp only [if_pos g3, if_pos (show i = n + 1 + 1 + 1 by omega), if_neg (show ¬ i = n + 1 + 1 by omega), if_neg (show ¬ i = n + 2 by omega), if_neg (show ¬ i = n + 1 + 1 + 1 + 1 by omega), if_neg (show ¬ i = n + 4 by omega), if_neg (show ¬ i = n + 1 + 1 + 1 + 1 + 1 by omega), if_neg (show ¬ i = n + 5 by omega)]
  by_cases g4 : i = n + 4
  · simp only [if_pos g4, if_pos (show i = n + 1 + 1 + 1 + 1 by omega), if_neg (show ¬ i = n + 1 + 1 by omega), if_neg (show ¬ i = n + 2 by omega), if_neg (show ¬ i = n + 1 + 1 + 1 by omega), if_neg (show ¬ i = n + 3 by omega), if_neg (show ¬ i = n + 1 + 1 + 1 + 1 + 1 by omega), if_neg (show ¬ i = n + 5 by omega)]
  by_cases g5 : i = n + 5
  · simp only [if_pos g5, if_pos (show i = n + 1 + 1 + 1 + 1 + 1 by omega), if_neg (show ¬ i = n + 1 + 1 by omega), if_neg (show ¬ i = n + 2 by omega), if_neg (show ¬ i = n + 1 + 1 + 1 by omega), if_neg (show ¬ i = n + 3 by omega), if_neg (show ¬ i = n + 1 + 1 + 1 + 1 by omega), if_neg (show ¬ i = n + 4 by omega)]
  simp only [if_neg g2, if_neg g3, if_neg g4, if_neg g5, if_neg (show ¬ i = n + 1 + 1 by omega), if_neg (show ¬ i = n + 1 + 1 + 1 by omega), if_neg (show ¬ i = n + 1 + 1 + 1 + 1 by omega), if_neg (show ¬ i = n + 1 + 1 + 1 + 1 + 1 by omega), if_neg (show ¬ n + 6 ≤ i by omega)]
def dq1 (cA : Nat → ClassId) (b : Nat) (ct : Nat → va_E) : Nat → va_E := va_up ct 1 (.inr (2, [.null, .null, .int 0, .int 0]))
def dq2 (cA : Nat → ClassId) (b : Nat) (ct : Nat → va_E) : Nat → va_E := bkC cA b 1 (dq1 cA b ct) 30
def dq3 (cA : Nat → ClassId) (b : Nat) (ct : Nat → va_E) : Nat → va_E := va_up (dq2 cA b ct) 0 (.inr (0, [.ref (b + 1), .null, .null, .null, .null, .null]))
def dq4 (cA : Nat → ClassId) (b : Nat) (ct : Nat → va_E) : Nat → va_E := va_up (dq3 cA b ct) 34 (.inr (3, [.null, .null]))
def dq5 (cA : Nat → ClassId) (b : Nat) (ct : Nat → va_E) : Nat → va_E := (va_up (va_up (va_up (va_up (dq4 cA b ct) (34 + 1) (.inl (cA 1, 96, .inl (fun _ => 0)))) 34 (.inr (3, [.ref (b + (34 + 1)), .null]))) 34 (.inr (3, [.ref (b + (34 + 1)), .ref (b + 1)]))) (34 + 1) (.inl (cA 1, 96, .inl (wpf 96))))
def dq6 (cA : Nat → ClassId) (b : Nat) (ct : Nat → va_E) : Nat → va_E := va_up (dq5 cA b ct) 0 (.inr (0, [.ref (b + 1), .ref (b + 34), .null, .null, .null, .null]))
def dq7 (cA : Nat → ClassId) (b : Nat) (ct : Nat → va_E) : Nat → va_E := va_up (dq6 cA b ct) 36 (.inr (6, [.null, .null, .null, .null, .null, .int 0, .int 0, .int 0, .int 0, .int 0]))
def dq8 (cA : Nat → ClassId) (b : Nat) (ct : Nat → va_E) : Nat → va_E := rnC cA b 36 (b + 34) (dq7 cA b ct) 4
def dq9 (cA : Nat → ClassId) (b : Nat) (ct : Nat → va_E) : Nat → va_E := va_up (dq8 cA b ct) 0 (.inr (0, [.ref (b + 1), .ref (b + 34), .ref (b + 36), .null, .null, .null]))
def dq10 (cA : Nat → ClassId) (b : Nat) (ct : Nat → va_E) : Nat → va_E := va_up (dq9 cA b ct) 54 (.inr (7, [.null, .null, .int 0]))
def dq11 (cA : Nat → ClassId) (b : Nat) (ct : Nat → va_E) : Nat → va_E := (va_up (va_up (va_up (va_up (dq10 cA b ct) (54 + 1) (.inl (cA 0, 96, .inl (fun _ => 0)))) 54 (.inr (7, [.ref (b + (54 + 1)), .null, .int 0]))) (54 + 2) (.inl (cA 0, 768, .inl (fun _ => 0)))) 54 (.inr (7, [.ref (b + (54 + 1)), .ref (b + (54 + 2)), .int 0])))
def dq12 (cA : Nat → ClassId) (b : Nat) (ct : Nat → va_E) : Nat → va_E := va_up (dq11 cA b ct) 0 (.inr (0, [.ref (b + 1), .ref (b + 34), .ref (b + 36), .ref (b + 54), .null, .null]))
def dq13 (cA : Nat → ClassId) (b : Nat) (ct : Nat → va_E) : Nat → va_E := va_up (dq12 cA b ct) 57 (.inr (4, [.null, .int 0]))
def dq14 (cA : Nat → ClassId) (b : Nat) (ct : Nat → va_E) : Nat → va_E := (va_up (va_up (dq13 cA b ct) (57 + 1) (.inl (cA 1, 12, .inl (fun _ => 0)))) 57 (.inr (4, [.ref (b + (57 + 1)), .int 0])))
def dq15 (cA : Nat → ClassId) (b : Nat) (ct : Nat → va_E) : Nat → va_E := va_up (dq14 cA b ct) 0 (.inr (0, [.ref (b + 1), .ref (b + 34), .ref (b + 36), .ref (b + 54), .ref (b + 57), .null]))
def dq16 (cA : Nat → ClassId) (b : Nat) (ct : Nat → va_E) : Nat → va_E := va_up (dq15 cA b ct) 59 (.inr (4, [.null, .int 0]))
def dq17 (cA : Nat → ClassId) (b : Nat) (ct : Nat → va_E) : Nat → va_E := (va_up (va_up (dq16 cA b ct) (59 + 1) (.inl (cA 1, 80, .inl (fun _ => 0)))) 59 (.inr (4, [.ref (b + (59 + 1)), .int 0])))
def dq18 (cA : Nat → ClassId) (b : Nat) (ct : Nat → va_E) : Nat → va_E := va_up (dq17 cA b ct) 0 (.inr (0, [.ref (b + 1), .ref (b + 34), .ref (b + 36), .ref (b + 54), .ref (b + 57), .ref (b + 59)]))
theorem ki_P_init {R : Room} {s : State} {args : Array Value} (hts : ∀ w ∈ lw_wd, w.before args s = true) {own : String} {index : Nat} (hl : (Cond.methodLink own index ny_P_init).before args s = true) (hR : 3 + 1 ≤ R.frames ∧ 8 + (1 + 11) + 70 ≤ R.locals) : CallB R s args own index ny_P_init prog_1_method_1_code 1 none (wsO ny_P_init prog_1_method_1_code 1 none) (rmI 3 70 60 1645) 60 1645 0 ∧ ny_P_init.name = "<init>" ∧ (Cond.instanceMethod ny_P_init).before args s = true := ⟨callB_of 0 hts (wsO_good nw_23) rfl rfl rfl (hts _ nw_1) hl (by decide +kernel) hR, rfl, hts _ nw_22⟩
set_option maxHeartbeats 4000000 in
set_option maxRecDepth 100000 in
theorem xi_P {l : Launch} {D : va_G} {A : Nat → Prop} {cA : Nat → ClassId} {b : Nat} (hA : ∀ q, b ≤ q → A q) {ct : Nat → va_E} (h0 : ct 0 = .inr (0, [.null, .null, .null, .null, .null, .null])) : IT l D vwCl (xtys cA) A b ny_P_init (wsO ny_P_init prog_1_method_1_code 1 none) (rmI 3 70 60 1645) 60 1645 [.ref (b + 0)] 1 ct 61 (dq18 cA b ct) := by
  refine Met.ofW (cc := prog_1_method_1_code) (maxL := 1) (ret := none) (by decide +kernel) rfl ?_
  intro p e s m args below meth c s₁ B hml hv
  obtain ⟨hav, hsz, hP, hK, hN, hO⟩ := hv
  have hx := B.exec
  have hb := B.bytes
  have hr := B.returns
  have hts : ∀ w ∈ lw_wd, w.before args s = true := fun w hw => atoms_spec (ws := (wsO ny_P_init prog_1_method_1_code 1 none)) B.pre w (List.mem_cons_of_mem _ hw)
  have hown : s.vm.findClass "DrawnPaths" = some m.cls := findClass_of_methodNamed B.named
  have hlocks := B.notSynchronized
  have hin : meth.name = "<init>" := (name_of_methodNamed B.named B.method).1
  have hS : va_S A s.heap s.heap [] := va_S.rf
  have hRc : (headSpec (wsO ny_P_init prog_1_method_1_code 1 none) (rmI 3 70 60 1645)).room.cells = 60 := rfl
  have hRs : (headSpec (wsO ny_P_init prog_1_method_1_code 1 none) (rmI 3 70 60 1645)).room.slots = 1645 := rfl
  have hl := lv_entry ([.ref (b + 0)]) (n := 1) (Nat.le_of_ble_eq_true rfl)
  have hE : entryFrame m args 1 = entryFrame m ([.ref (b + 0)] : List Value).toArray 1 := by rw [hav]
  rw [hE, lg_entry_eq]
  generalize (lg_sl ([.ref (b + 0)]) ++ List.replicate (1 - (lg_sl ([.ref (b + 0)])).length) Slot.unset).toArray = ls at hl ⊢
  have hl : lv_has ls 1 [(0, .ref (b + 0))] := hl
  refine lv_aload_n hx hb nd_P_init_0 rfl (lv_at hl 0 rfl) ?_
  refine W.objInit hx hb hown (hts _ nw_24) (hts _ nw_25) (hts _ nw_26) rfl (by rw [hml]; exact hl.1) rfl nd_P_init_1 (Nat.le_of_ble_eq_true rfl) (Nat.le_of_ble_eq_true rfl) ?_
  refine W.eq (g2 := F0 m 4 ls []) rfl ?_
  refine lv_aload_n hx hb nd_P_init_4 rfl (lv_at hl 0 rfl) ?_
  refine gw_size (wdG_lo hP (by omega)) (by omega) (fun hH => ?_)
  refine gw_new (ci := 2) hx hb hts nu_Blocks nY_Blocks nY_Blocks_ok hown (hts _ nw_27) (hts _ nw_28) (hts _ nw_2) hK hP hS hH rfl [.null, .null, .int 0, .int 0] (by decide) (by rw [hRc]; omega) (by rw [hRs]; omega) nd_P_init_5 (fun H hP hS hH => ?_)
  have hP : va_P D vwCl (wdG 2 (gad b) (dq1 cA b ct)) H := hP
  refine lv_dup hx hb nd_P_init_8 rfl ?_
  refine gw_size (wdG_lo hP (by omega)) (by omega) (fun hH => ?_)
  refine gw_I (As := []) (rest := [.ref (b + 1), .ref (b + 0)]) ⟨hx, hb, hml, hown, hts⟩ (xi_Blocks (n := 1) hA (by rfl)) (ki_Blocks_init hts (hts _ nw_29) ⟨Nat.le_of_ble_eq_true rfl, Nat.le_of_ble_eq_true rfl⟩) hK hN hO hP hS hH rfl hl.1 rfl (Nat.le_of_ble_eq_true rfl) ⟨by rw [hRc]; omega, by rw [hRs]; omega⟩ nd_P_init_9 (fun H locs hP hS => ?_)
  have hP : va_P D vwCl (wdG 34 (gad b) (dq2 cA b ct)) H := hP
  refine gw_putF (ty := .object "DrawnPaths$Blocks") hx hb hts nu_P nY_P nY_P_ok nN_P hown hK hA hP hS 0 (by omega) [.null, .null, .null, .null, .null, .null] (by exact h0) rfl 0 (by decide) (hts _ nw_203) rfl hin rfl (by decide +kernel) rfl rfl (Nat.le_of_ble_eq_true rfl) nd_P_init_12 (fun H locs hP hS => ?_)
  have hP : va_P D vwCl (wdG 34 (gad b) (dq3 cA b ct)) H := hP
  refine lv_aload_n hx hb nd_P_init_15 rfl (lv_at hl 0 rfl) ?_
  refine gw_size (wdG_lo hP (by omega)) (by omega) (fun hH => ?_)
  refine gw_new (ci := 3) hx hb hts nu_Field nY_Field nY_Field_ok hown (hts _ nw_76) (hts _ nw_77) (hts _ nw_4) hK hP hS hH rfl [.null, .null] (by decide) (by rw [hRc]; omega) (by rw [hRs]; omega) nd_P_init_16 (fun H hP hS hH => ?_)
  have hP : va_P D vwCl (wdG 35 (gad b) (dq4 cA b ct)) H := hP
  refine lv_dup hx hb nd_P_init_19 rfl ?_
  refine lv_aload_n hx hb nd_P_init_20 rfl (lv_at hl 0 rfl) ?_
  refine gw_get (fs := [.ref (b + 1), .null, .null, .null, .null, .null]) hx hb hts nu_P hown hK hP 0 (by omega) (by rfl) rfl 0 (by decide) (hts _ nw_203) (.ref (b + 1)) rfl nd_P_init_21 ?_
  refine gw_size (wdG_lo hP (by omega)) (by omega) (fun hH => ?_)
  refine gw_I (As := [.ref (b + 1)]) (rest := [.ref (b + 34), .ref (b + 0)]) ⟨hx, hb, hml, hown, hts⟩ (xi_Field (n := 34) hA (b + 1) (by rfl)) (ki_Field_init hts (hts _ nw_78) ⟨Nat.le_of_ble_eq_true rfl, Nat.le_of_ble_eq_true rfl⟩) hK hN hO hP hS hH rfl hl.1 rfl (Nat.le_of_ble_eq_true rfl) ⟨by rw [hRc]; omega, by rw [hRs]; omega⟩ nd_P_init_24 (fun H locs hP hS => ?_)
  have hP : va_P D vwCl (wdG 36 (gad b) (dq5 cA b ct)) H := hP
  refine gw_putF (ty := .object "DrawnPaths$Field") hx hb hts nu_P nY_P nY_P_ok nN_P hown hK hA hP hS 0 (by omega) [.ref (b + 1), .null, .null, .null, .null, .null] (by rfl) rfl 1 (by decide) (hts _ nw_204) rfl hin rfl (by decide +kernel) rfl rfl (Nat.le_of_ble_eq_true rfl) nd_P_init_27 (fun H locs hP hS => ?_)
  have hP : va_P D vwCl (wdG 36 (gad b) (dq6 cA b ct)) H := hP
  refine lv_aload_n hx hb nd_P_init_30 rfl (lv_at hl 0 rfl) ?_
  refine gw_size (wdG_lo hP (by omega)) (by omega) (fun hH => ?_)
  refine gw_new (ci := 6) hx hb hts nu_Run nY_Run nY_Run_ok hown (hts _ nw_97) (hts _ nw_98) (hts _ nw_5) hK hP hS hH rfl [.null, .null, .null, .null, .null, .int 0, .int 0, .int 0, .int 0, .int 0] (by decide) (by rw [hRc]; omega) (by rw [hRs]; omega) nd_P_init_31 (fun H hP hS hH => ?_)
  have hP : va_P D vwCl (wdG 37 (gad b) (dq7 cA b ct)) H := hP
  refine lv_dup hx hb nd_P_init_34 rfl ?_
  refine lv_aload_n hx hb nd_P_init_35 rfl (lv_at hl 0 rfl) ?_
  refine gw_get (fs := [.ref (b + 1), .ref (b + 34), .null, .null, .null, .null]) hx hb hts nu_P hown hK hP 0 (by omega) (by rfl) rfl 1 (by decide) (hts _ nw_204) (.ref (b + 34)) rfl nd_P_init_36 ?_
  refine gw_size (wdG_lo hP (by omega)) (by omega) (fun hH => ?_)
  refine gw_I (As := [.ref (b + 34)]) (rest := [.ref (b + 36), .ref (b + 0)]) ⟨hx, hb, hml, hown, hts⟩ (xi_Run (n := 36) hA (b + 34) (by rfl)) (ki_Run_init hts (hts _ nw_99) ⟨Nat.le_of_ble_eq_true rfl, Nat.le_of_ble_eq_true rfl⟩) hK hN hO hP hS hH rfl hl.1 rfl (Nat.le_of_ble_eq_true rfl) ⟨by rw [hRc]; omega, by rw [hRs]; omega⟩ nd_P_init_39 (fun H locs hP hS => ?_)
  have hP : va_P D vwCl (wdG 54 (gad b) (dq8 cA b ct)) H := hP
  refine gw_putF (ty := .object "DrawnPaths$Run") hx hb hts nu_P nY_P nY_P_ok nN_P hown hK hA hP hS 0 (by omega) [.ref (b + 1), .ref (b + 34), .null, .null, .null, .null] (by rfl) rfl 2 (by decide) (hts _ nw_205) rfl hin rfl (by decide +kernel) rfl rfl (Nat.le_of_ble_eq_true rfl) nd_P_init_42 (fun H locs hP hS => ?_)
  have hP : va_P D vwCl (wdG 54 (gad b) (dq9 cA b ct)) H := hP
  refine lv_aload_n hx hb nd_P_init_45 rfl (lv_at hl 0 rfl) ?_
  refine gw_size (wdG_lo hP (by omega)) (by omega) (fun hH => ?_)
  refine gw_new (ci := 7) hx hb hts nu_Search nY_Search nY_Search_ok hown (hts _ nw_185) (hts _ nw_186) (hts _ nw_8) hK hP hS hH rfl [.null, .null, .int 0] (by decide) (by rw [hRc]; omega) (by rw [hRs]; omega) nd_P_init_46 (fun H hP hS hH => ?_)
  have hP : va_P D vwCl (wdG 55 (gad b) (dq10 cA b ct)) H := hP
  refine lv_dup hx hb nd_P_init_49 rfl ?_
  refine gw_size (wdG_lo hP (by omega)) (by omega) (fun hH => ?_)
  refine gw_IN (As := []) (rest := [.ref (b + 54), .ref (b + 0)]) ⟨hx, hb, hml, hown, hts⟩ (xi_Search (n := 54) hA (by rfl)) (ki_Search_initN hts (hN.1 _ nw_187) ⟨Nat.le_of_ble_eq_true rfl, Nat.le_of_ble_eq_true rfl⟩) hK hN hO hP hS hH rfl hl.1 rfl (Nat.le_of_ble_eq_true rfl) ⟨by rw [hRc]; omega, by rw [hRs]; omega⟩ nd_P_init_50 (fun H locs hP hS => ?_)
  have hP : va_P D vwCl (wdG 57 (gad b) (dq11 cA b ct)) H := hP
  refine gw_putF (ty := .object "DrawnPaths$Search") hx hb hts nu_P nY_P nY_P_ok nN_P hown hK hA hP hS 0 (by omega) [.ref (b + 1), .ref (b + 34), .ref (b + 36), .null, .null, .null] (by rfl) rfl 3 (by decide) (hts _ nw_206) rfl hin rfl (by decide +kernel) rfl rfl (Nat.le_of_ble_eq_true rfl) nd_P_init_53 (fun H locs hP hS => ?_)
  have hP : va_P D vwCl (wdG 57 (gad b) (dq12 cA b ct)) H := hP
  refine lv_aload_n hx hb nd_P_init_56 rfl (lv_at hl 0 rfl) ?_
  refine gw_size (wdG_lo hP (by omega)) (by omega) (fun hH => ?_)
  refine gw_new (ci := 4) hx hb hts nu_Line nY_Line nY_Line_ok hown (hts _ nw_201) (hts _ nw_106) (hts _ nw_6) hK hP hS hH rfl [.null, .int 0] (by decide) (by rw [hRc]; omega) (by rw [hRs]; omega) nd_P_init_57 (fun H hP hS hH => ?_)
  have hP : va_P D vwCl (wdG 58 (gad b) (dq13 cA b ct)) H := hP
  refine lv_dup hx hb nd_P_init_60 rfl ?_
  refine lv_bipush (v := 12) hx hb nd_P_init_61 (by decide) ?_
  refine gw_size (wdG_lo hP (by omega)) (by omega) (fun hH => ?_)
  refine gw_I (As := [.int 12]) (rest := [.ref (b + 57), .ref (b + 0)]) ⟨hx, hb, hml, hown, hts⟩ (xi_Line (n := 57) hA 12 12 (by decide) (by decide) (by decide) (by rfl)) (ki_Line_init hts (hts _ nw_202) ⟨Nat.le_of_ble_eq_true rfl, Nat.le_of_ble_eq_true rfl⟩) hK hN hO hP hS hH rfl hl.1 rfl (Nat.le_of_ble_eq_true rfl) ⟨by rw [hRc]; omega, by rw [hRs]; omega⟩ nd_P_init_63 (fun H locs hP hS => ?_)
  have hP : va_P D vwCl (wdG 59 (gad b) (dq14 cA b ct)) H := hP
  refine gw_putF (ty := .object "DrawnPaths$Line") hx hb hts nu_P nY_P nY_P_ok nN_P hown hK hA hP hS 0 (by omega) [.ref (b + 1), .ref (b + 34), .ref (b + 36), .ref (b + 54), .null, .null] (by rfl) rfl 4 (by decide) (hts _ nw_207) rfl hin rfl (by decide +kernel) rfl rfl (Nat.le_of_ble_eq_true rfl) nd_P_init_66 (fun H locs hP hS => ?_)
  have hP : va_P D vwCl (wdG 59 (gad b) (dq15 cA b ct)) H := hP
  refine lv_aload_n hx hb nd_P_init_69 rfl (lv_at hl 0 rfl) ?_
  refine gw_size (wdG_lo hP (by omega)) (by omega) (fun hH => ?_)
  refine gw_new (ci := 4) hx hb hts nu_Line nY_Line nY_Line_ok hown (hts _ nw_201) (hts _ nw_106) (hts _ nw_6) hK hP hS hH rfl [.null, .int 0] (by decide) (by rw [hRc]; omega) (by rw [hRs]; omega) nd_P_init_70 (fun H hP hS hH => ?_)
  have hP : va_P D vwCl (wdG 60 (gad b) (dq16 cA b ct)) H := hP
  refine lv_dup hx hb nd_P_init_73 rfl ?_
  refine lv_bipush (v := 80) hx hb nd_P_init_74 (by decide) ?_
  refine gw_size (wdG_lo hP (by omega)) (by omega) (fun hH => ?_)
  refine gw_I (As := [.int 80]) (rest := [.ref (b + 59), .ref (b + 0)]) ⟨hx, hb, hml, hown, hts⟩ (xi_Line (n := 59) hA 80 80 (by decide) (by decide) (by decide) (by rfl)) (ki_Line_init hts (hts _ nw_202) ⟨Nat.le_of_ble_eq_true rfl, Nat.le_of_ble_eq_true rfl⟩) hK hN hO hP hS hH rfl hl.1 rfl (Nat.le_of_ble_eq_true rfl) ⟨by rw [hRc]; omega, by rw [hRs]; omega⟩ nd_P_init_76 (fun H locs hP hS => ?_)
  have hP : va_P D vwCl (wdG 61 (gad b) (dq17 cA b ct)) H := hP
  refine gw_putF (ty := .object "DrawnPaths$Line") hx hb hts nu_P nY_P nY_P_ok nN_P hown hK hA hP hS 0 (by omega) [.ref (b + 1), .ref (b + 34), .ref (b + 36), .ref (b + 54), .ref (b + 57), .null] (by rfl) rfl 5 (by decide) (hts _ nw_208) rfl hin rfl (by decide +kernel) rfl rfl (Nat.le_of_ble_eq_true rfl) nd_P_init_79 (fun H locs hP hS => ?_)
  have hP : va_P D vwCl (wdG 61 (gad b) (dq18 cA b ct)) H := hP
  exact W.vret hx hb hr (fun t ht hW => ⟨rfl, by rw [ht]; exact hP, hS.F ht⟩) hS.2.2 nd_P_init_82
