def xh0 : XH := (0, 0, fun j => j, fun _ => 0, wpf 96, 0, 0, 0, 0, 0, fun j => j, fun _ => 0, fun _ => 0, 0, fun _ => 0, fun _ => 0, fun _ => 0, fun _ _ => 0, fun _ => 0, fun _ => 0, fun _ => 0, fun _ _ => 0, fun _ _ => 0, fun _ => 0, fun _ => 0, fun _ => 0, fun _ => 0, fun _ => 0)
def xpi (i : Nat) : Nat := match i with
  | 0 => 0
  | 1 => 1
  | 2 => 2
  | 3 => 3
  | 4 => 34
  | 5 => 35
  | 6 => 36
  | 7 => 37
  | 8 => 38
  | 9 => 39
  | 10 => 54
  | 11 => 55
  | 12 => 56
  | 13 => 40
  | 14 => 57
  | 15 => 59
  | 16 => 41
  | 17 => 58
  | 18 => 60
  | 19 => 42
  | 20 => 45
  | 21 => 48
  | 22 => 51
  | 23 => 43
  | 24 => 46
  | 25 => 49
  | 26 => 52
  | 27 => 44
  | 28 => 47
  | 29 => 50
  | 30 => 53
  | 31 => 4
  | 32 => 5
  | 33 => 6
  | 34 => 7
  | 35 => 8
  | 36 => 9
  | 37 => 10
  | 38 => 11
  | 39 => 12
  | 40 => 13
  | 41 => 14
  | 42 => 15
  | 43 => 16
  | 44 => 17
  | 45 => 18
  | 46 => 19
  | 47 => 20
  | 48 => 21
  | 49 => 22
  | 50 => 23
  | 51 => 24
  | 52 => 25
  | 53 => 26
  | 54 => 27
  | 55 => 28
  | 56 => 29
  | 57 => 30
  | 58 => 31
  | 59 => 32
  | 60 => 33
  | i => i
theorem xpi_lt : ∀ i, i < 61 → xpi i < 61 := by decide +kernel
theorem xpi_inj : ∀ i, i < 61 → ∀ j, j < 61 → xpi i = xpi j → i = j := by decide +kernel
def xad (b : Nat) : Nat → Nat := fun i => b + xpi i
theorem xad_D {b : Nat} {A : Nat → Prop} (hA : ∀ q, b ≤ q → A q) : wdD 61 A (xad b) := wdD_of (fun i j hi hj h => xpi_inj i hi j hj (by unfold xad at h; omega)) (fun i _ => hA _ (Nat.le_add_right _ _))
theorem arrV_cong {c : ClassId} {N : Nat} {f g : Nat → Value} (h : ∀ j, j < N → f j = g j) : arrV c N f = arrV c N g := by
  unfold arrV
  congr 1
  congr 1
  funext j
  exact h j.val j.isLt
theorem va_P_perm {D : va_G} {cl : List vw_C} {N : Nat} {ad ad' : Nat → Nat} {ct ct' : Nat → va_E} {H : Heap} {f : Nat → Nat} (h : va_P D cl (wdG N ad ct) H) (h1 : ∀ i, i < N → f i < N) (h2 : ∀ i, i < N → ad' i = ad (f i)) (h3 : ∀ i, i < N → va_at D cl (ad (f i), ct (f i)) H → va_at D cl (ad (f i), ct' i) H) : va_P D cl (wdG N ad' ct') H := by
  intro k q hq
  have hk : k < N := by have := (List.getElem?_eq_some_iff.mp hq).1; simpa [wdG] using this
  rw [wdG_get hk] at hq
  cases hq
  rw [h2 k hk]
  exact h3 k hk (h (f k) _ (wdG_get (h1 k hk)))
set_option maxRecDepth 100000 in
theorem xW0 {D : va_G} {cA : Nat → ClassId} {b : Nat} {ct : Nat → va_E} {H : Heap} (h : va_P D vwCl (wdG 61 (gad b) (dq18 cA b ct)) H) : va_P D vwCl (xW cA (xad b) xh0) H := va_P_perm (f := xpi) h xpi_lt (fun _ _ => rfl) (fun i hi => match i, hi with
  | 0, _ => fun h => h
  | 1, _ => fun h => h
  | 2, _ => fun h => by
    show H[xad b 2]? = some (vp_cell _ _)
    have h2 : H[xad b 2]? = some (vp_cell _ _) := h
    rw [h2]
    rw [vp_cell_q, vp_cell_q]
    exact congrArg some (arrV_cong fun j hj => by
      show va_rf (rfs _ 30 j) = _
      unfold rfs
      rw [if_pos hj]
      exact (by have hz : ∀ j, j < 30 → xpi (j + 31) = 4 + j := by decide +kernel
                show Value.ref _ = Value.ref (b + xpi (j + 31))
                rw [hz j hj]))
  | 3, _ => fun h => h
  | 4, _ => fun h => h
  | 5, _ => fun h => h
  | 6, _ => fun h => h
  | 7, _ => fun h => by
    show H[xad b 7]? = some (vp_cell _ _)
    have h2 : H[xad b 7]? = some (vp_cell _ _) := h
    rw [h2]
    rw [vp_cell_q, vp_cell_q]
    exact congrArg some (arrV_cong fun j hj => by
      show va_rf (rfs _ 4 j) = _
      unfold rfs
      rw [if_pos hj]
      exact (by have hz : ∀ j, j < 4 → xpi (j + 19) = 42 + 3 * j := by decide +kernel
                show Value.ref _ = Value.ref (b + xpi (j + 19))
                rw [hz j hj]))
  | 8, _ => fun h => h
  | 9, _ => fun h => h
  | 10, _ => fun h => h
  | 11, _ => fun h => h
  | 12, _ => fun h => h
  | 13, _ => fun h => h
  | 14, _ => fun h => h
  | 15, _ => fun h => h
  | 16, _ => fun h => h
  | 17, _ => fun h => h
  | 18, _ => fun h => h
  | 19, _ => fun h => h
  | 20, _ => fun h => h
  | 21, _ => fun h => h
  | 22, _ => fun h => h
  | 23, _ => fun h => h
  | 24, _ => fun h => h
  | 25, _ => fun h => h
  | 26, _ => fun h => h
  | 27, _ => fun h => h
  | 28, _ => fun h => h
  | 29, _ => fun h => h
  | 30, _ => fun h => h
  | 31, _ => fun h => h
  | 32, _ => fun h => h
  | 33, _ => fun h => h
  | 34, _ => fun h => h
  | 35, _ => fun h => h
  | 36, _ => fun h => h
  | 37, _ => fun h => h
  | 38, _ => fun h => h
  | 39, _ => fun h => h
  | 40, _ => fun h => h
  | 41, _ => fun h => h
  | 42, _ => fun h => h
  | 43, _ => fun h => h
  | 44, _ => fun h => h
  | 45, _ => fun h => h
  | 46, _ => fun h => h
  | 47, _ => fun h => h
  | 48, _ => fun h => h
  | 49, _ => fun h => h
  | 50, _ => fun h => h
  | 51, _ => fun h => h
  | 52, _ => fun h => h
  | 53, _ => fun h => h
  | 54, _ => fun h => h
  | 55, _ => fun h => h
  | 56, _ => fun h => h
  | 57, _ => fun h => h
  | 58, _ => fun h => h
  | 59, _ => fun h => h
  | 60, _ => fun h => h
  | i + 61, hi => absurd hi (by omega))
def mh0 : MH := (0, 0, 0, 0, 0, 0, 0, 0, 0, 0, 0, fun _ => 0, fun _ => 0, fun _ => 0, fun _ => 0, fun _ => 0, fun _ => 0, fun _ => 0, fun _ => 0, fun _ => 0, fun _ => 0, fun _ => 0, fun _ => 0, fun _ => 0, fun _ => 0, fun _ => 0, fun _ => 0, fun _ => 0, fun _ => 0, fun _ => 0, fun _ => 0)
theorem ki_M_init {R : Room} {s : State} {args : Array Value} (hts : ∀ w ∈ lw_wd, w.before args s = true) {own : String} {index : Nat} (hl : (Cond.methodLink own index ny_M_init).before args s = true) (hR : 1 + 1 ≤ R.frames ∧ 8 + (1 + 11) + 40 ≤ R.locals) : CallB R s args own index ny_M_init prog_11_method_1_code 1 none (wsO ny_M_init prog_11_method_1_code 1 none) (rmI 1 40 20 5138) 20 5138 0 ∧ ny_M_init.name = "<init>" ∧ (Cond.instanceMethod ny_M_init).before args s = true := ⟨callB_of 0 hts (wsO_good nw_705) rfl rfl rfl (hts _ nw_9) hl (by decide +kernel) hR, rfl, hts _ nw_704⟩
set_option maxHeartbeats 4000000 in
set_option maxRecDepth 100000 in
theorem mi_M {l : Launch} {D : va_G} {A : Nat → Prop} {cA : Nat → ClassId} {b : Nat} (hA : ∀ q, b ≤ q → A q) {ct : Nat → va_E} (h0 : ct 0 = .inr (0, [.int 0, .null, .int 0, .null, .int 0, .int 0, .null, .int 0, .null, .int 0, .null, .null, .int 0, .null, .null, .null, .null, .null, .null, .null, .null, .int 0, .int 0, .int 0, .int 0, .null, .null, .null, .null, .null, .null])) (fuel : Nat) (h1 : MH) (hf : mf_M_blank fuel mh0 = some h1) : IT l D mvCl (mtys cA) A b ny_M_init (wsO ny_M_init prog_11_method_1_code 1 none) (rmI 1 40 20 5138) 20 5138 [.ref (b + 0)] 1 ct 21 (mct cA (gad b) h1) := by
  refine Met.ofW (cc := prog_11_method_1_code) (maxL := 1) (ret := none) (by decide +kernel) rfl ?_
  intro p e s m args below meth c s₁ B hml hv
  obtain ⟨hav, hsz, hP, hK, hN, hO⟩ := hv
  have hx := B.exec
  have hb := B.bytes
  have hr := B.returns
  have hts : ∀ w ∈ lw_wd, w.before args s = true := fun w hw => atoms_spec (ws := (wsO ny_M_init prog_11_method_1_code 1 none)) B.pre w (List.mem_cons_of_mem _ hw)
  have hown : s.vm.findClass "DrawnPathsModel" = some m.cls := findClass_of_methodNamed B.named
  have hlocks := B.notSynchronized
  have hin : meth.name = "<init>" := (name_of_methodNamed B.named B.method).1
  have hS : va_S A s.heap s.heap [] := va_S.rf
  have hRc : (headSpec (wsO ny_M_init prog_11_method_1_code 1 none) (rmI 1 40 20 5138)).room.cells = 20 := rfl
  have hRs : (headSpec (wsO ny_M_init prog_11_method_1_code 1 none) (rmI 1 40 20 5138)).room.slots = 5138 := rfl
  have hl := lv_entry ([.ref (b + 0)]) (n := 1) (Nat.le_of_ble_eq_true rfl)
  have hE : entryFrame m args 1 = entryFrame m ([.ref (b + 0)] : List Value).toArray 1 := by rw [hav]
  rw [hE, lg_entry_eq]
  generalize (lg_sl ([.ref (b + 0)]) ++ List.replicate (1 - (lg_sl ([.ref (b + 0)])).length) Slot.unset).toArray = ls at hl ⊢
  have hl : lv_has ls 1 [(0, .ref (b + 0))] := hl
  refine lv_aload_n hx hb nd_M_init_0 rfl (lv_at hl 0 rfl) ?_
  refine W.objInit hx hb hown (hts _ nw_706) (hts _ nw_25) (hts _ nw_26) rfl (by rw [hml]; exact hl.1) rfl nd_M_init_1 (Nat.le_of_ble_eq_true rfl) (Nat.le_of_ble_eq_true rfl) ?_
  refine W.eq (g2 := F0 m 4 ls []) rfl ?_
  refine lv_aload_n hx hb nd_M_init_4 rfl (lv_at hl 0 rfl) ?_
  refine lv_bipush (v := 96) hx hb nd_M_init_5 (by decide) ?_
  refine gw_size (wdG_lo hP (by omega)) (by omega) (fun hH => ?_)
  refine gw_newa (atype := .int) (ty := .int) hx hb (hts _ nw_60) rfl hK hP hS hH 0 rfl (96, .inl (fun _ => 0)) (fun _ => rfl) (by decide) (by decide) (by show 96 * 4 ≤ 536870912; omega) (by rw [hRc]; omega) (by rw [hRs]; omega) nd_M_init_7 (fun H hP hS hH => ?_)
  refine gw_putF (ty := .array (.int)) hx hb hts nu_M nY_M nY_M_ok nN_M hown hK hA hP hS 0 (by omega) [.int 0, .null, .int 0, .null, .int 0, .int 0, .null, .int 0, .null, .int 0, .null, .null, .int 0, .null, .null, .null, .null, .null, .null, .null, .null, .int 0, .int 0, .int 0, .int 0, .null, .null, .null, .null, .null, .null] (by rw [up_ne (by omega)]; exact h0) rfl 1 (by decide) (hts _ nw_712) rfl hin rfl (by decide +kernel) rfl rfl (Nat.le_of_ble_eq_true rfl) nd_M_init_9 (fun H locs hP hS => ?_)
  refine lv_aload_n hx hb nd_M_init_12 rfl (lv_at hl 0 rfl) ?_
  refine lv_bipush (v := 12) hx hb nd_M_init_13 (by decide) ?_
  refine gw_size (wdG_lo hP (by omega)) (by omega) (fun hH => ?_)
  refine gw_newa (atype := .int) (ty := .int) hx hb (hts _ nw_60) rfl hK hP hS hH 0 rfl (12, .inl (fun _ => 0)) (fun _ => rfl) (by decide) (by decide) (by show 12 * 4 ≤ 536870912; omega) (by rw [hRc]; omega) (by rw [hRs]; omega) nd_M_init_15 (fun H hP hS hH => ?_)
  refine gw_putF (ty := .array (.int)) hx hb hts nu_M nY_M nY_M_ok nN_M hown hK hA hP hS 0 (by omega) [.int 0, .ref (b + 1), .int 0, .null, .int 0, .int 0, .null, .int 0, .null, .int 0, .null, .null, .int 0, .null, .null, .null, .null, .null, .null, .null, .null, .int 0, .int 0, .int 0, .int 0, .null, .null, .null, .null, .null, .null] (by rw [up_ne (by omega), up_eq]; rfl) rfl 3 (by decide) (hts _ nw_714) rfl hin rfl (by decide +kernel) rfl rfl (Nat.le_of_ble_eq_true rfl) nd_M_init_17 (fun H locs hP hS => ?_)
  refine lv_aload_n hx hb nd_M_init_20 rfl (lv_at hl 0 rfl) ?_
  refine lv_bipush (v := 40) hx hb nd_M_init_21 (by decide) ?_
  refine gw_size (wdG_lo hP (by omega)) (by omega) (fun hH => ?_)
  refine gw_newa (atype := .long) (ty := .long) hx hb (hts _ nw_119) rfl hK hP hS hH 1 rfl (40, .inr (.inl (fun _ => 0))) (fun _ => rfl) (by decide) (by decide) (by show 40 * 8 ≤ 536870912; omega) (by rw [hRc]; omega) (by rw [hRs]; omega) nd_M_init_23 (fun H hP hS hH => ?_)
  refine gw_putF (ty := .array (.long)) hx hb hts nu_M nY_M nY_M_ok nN_M hown hK hA hP hS 0 (by omega) [.int 0, .ref (b + 1), .int 0, .ref (b + 2), .int 0, .int 0, .null, .int 0, .null, .int 0, .null, .null, .int 0, .null, .null, .null, .null, .null, .null, .null, .null, .int 0, .int 0, .int 0, .int 0, .null, .null, .null, .null, .null, .null] (by rw [up_ne (by omega), up_eq]; rfl) rfl 6 (by decide) (hts _ nw_717) rfl hin rfl (by decide +kernel) rfl rfl (Nat.le_of_ble_eq_true rfl) nd_M_init_25 (fun H locs hP hS => ?_)
  refine lv_aload_n hx hb nd_M_init_28 rfl (lv_at hl 0 rfl) ?_
  refine lv_bipush (v := 80) hx hb nd_M_init_29 (by decide) ?_
  refine gw_size (wdG_lo hP (by omega)) (by omega) (fun hH => ?_)
  refine gw_newa (atype := .int) (ty := .int) hx hb (hts _ nw_60) rfl hK hP hS hH 0 rfl (80, .inl (fun _ => 0)) (fun _ => rfl) (by decide) (by decide) (by show 80 * 4 ≤ 536870912; omega) (by rw [hRc]; omega) (by rw [hRs]; omega) nd_M_init_31 (fun H hP hS hH => ?_)
  refine gw_putF (ty := .array (.int)) hx hb hts nu_M nY_M nY_M_ok nN_M hown hK hA hP hS 0 (by omega) [.int 0, .ref (b + 1), .int 0, .ref (b + 2), .int 0, .int 0, .ref (b + 3), .int 0, .null, .int 0, .null, .null, .int 0, .null, .null, .null, .null, .null, .null, .null, .null, .int 0, .int 0, .int 0, .int 0, .null, .null, .null, .null, .null, .null] (by rw [up_ne (by omega), up_eq]; rfl) rfl 8 (by decide) (hts _ nw_719) rfl hin rfl (by decide +kernel) rfl rfl (Nat.le_of_ble_eq_true rfl) nd_M_init_33 (fun H locs hP hS => ?_)
  refine lv_aload_n hx hb nd_M_init_36 rfl (lv_at hl 0 rfl) ?_
  refine lv_bipush (v := 80) hx hb nd_M_init_37 (by decide) ?_
  refine gw_size (wdG_lo hP (by omega)) (by omega) (fun hH => ?_)
  refine gw_newa (atype := .int) (ty := .int) hx hb (hts _ nw_60) rfl hK hP hS hH 0 rfl (80, .inl (fun _ => 0)) (fun _ => rfl) (by decide) (by decide) (by show 80 * 4 ≤ 536870912; omega) (by rw [hRc]; omega) (by rw [hRs]; omega) nd_M_init_39 (fun H hP hS hH => ?_)
  refine gw_putF (ty := .array (.int)) hx hb hts nu_M nY_M nY_M_ok nN_M hown hK hA hP hS 0 (by omega) [.int 0, .ref (b + 1), .int 0, .ref (b + 2), .int 0, .int 0, .ref (b + 3), .int 0, .ref (b + 4), .int 0, .null, .null, .int 0, .null, .null, .null, .null, .null, .null, .null, .null, .int 0, .int 0, .int 0, .int 0, .null, .null, .null, .null, .null, .null] (by rw [up_ne (by omega), up_eq]; rfl) rfl 10 (by decide) (hts _ nw_721) rfl hin rfl (by decide +kernel) rfl rfl (Nat.le_of_ble_eq_true rfl) nd_M_init_41 (fun H locs hP hS => ?_)
  refine lv_aload_n hx hb nd_M_init_44 rfl (lv_at hl 0 rfl) ?_
  refine lv_bipush (v := 20) hx hb nd_M_init_45 (by decide) ?_
  refine gw_size (wdG_lo hP (by omega)) (by omega) (fun hH => ?_)
  refine gw_newa (atype := .int) (ty := .int) hx hb (hts _ nw_60) rfl hK hP hS hH 0 rfl (20, .inl (fun _ => 0)) (fun _ => rfl) (by decide) (by decide) (by show 20 * 4 ≤ 536870912; omega) (by rw [hRc]; omega) (by rw [hRs]; omega) nd_M_init_47 (fun H hP hS hH => ?_)
  refine gw_putF (ty := .array (.int)) hx hb hts nu_M nY_M nY_M_ok nN_M hown hK hA hP hS 0 (by omega) [.int 0, .ref (b + 1), .int 0, .ref (b + 2), .int 0, .int 0, .ref (b + 3), .int 0, .ref (b + 4), .int 0, .ref (b + 5), .null, .int 0, .null, .null, .null, .null, .null, .null, .null, .null, .int 0, .int 0, .int 0, .int 0, .null, .null, .null, .null, .null, .null] (by rw [up_ne (by omega), up_eq]; rfl) rfl 11 (by decide) (hts _ nw_722) rfl hin rfl (by decide +kernel) rfl rfl (Nat.le_of_ble_eq_true rfl) nd_M_init_49 (fun H locs hP hS => ?_)
  refine lv_aload_n hx hb nd_M_init_52 rfl (lv_at hl 0 rfl) ?_
  refine lv_bipush (v := 8) hx hb nd_M_init_53 (by decide) ?_
  refine gw_size (wdG_lo hP (by omega)) (by omega) (fun hH => ?_)
  refine gw_newa (atype := .boolean) (ty := .boolean) hx hb (hts _ nw_805) rfl hK hP hS hH 2 rfl (8, .inl (fun _ => 0)) (fun _ => rfl) (by decide) (by decide) (by show 8 * 1 ≤ 536870912; omega) (by rw [hRc]; omega) (by rw [hRs]; omega) nd_M_init_55 (fun H hP hS hH => ?_)
  refine gw_putF (ty := .array (.boolean)) hx hb hts nu_M nY_M nY_M_ok nN_M hown hK hA hP hS 0 (by omega) [.int 0, .ref (b + 1), .int 0, .ref (b + 2), .int 0, .int 0, .ref (b + 3), .int 0, .ref (b + 4), .int 0, .ref (b + 5), .ref (b + 6), .int 0, .null, .null, .null, .null, .null, .null, .null, .null, .int 0, .int 0, .int 0, .int 0, .null, .null, .null, .null, .null, .null] (by rw [up_ne (by omega), up_eq]; rfl) rfl 13 (by decide) (hts _ nw_724) rfl hin rfl (by decide +kernel) rfl rfl (Nat.le_of_ble_eq_true rfl) nd_M_init_57 (fun H locs hP hS => ?_)
  refine lv_aload_n hx hb nd_M_init_60 rfl (lv_at hl 0 rfl) ?_
  refine lv_bipush (v := 8) hx hb nd_M_init_61 (by decide) ?_
  refine gw_size (wdG_lo hP (by omega)) (by omega) (fun hH => ?_)
  refine gw_newa (atype := .int) (ty := .int) hx hb (hts _ nw_60) rfl hK hP hS hH 0 rfl (8, .inl (fun _ => 0)) (fun _ => rfl) (by decide) (by decide) (by show 8 * 4 ≤ 536870912; omega) (by rw [hRc]; omega) (by rw [hRs]; omega) nd_M_init_63 (fun H hP hS hH => ?_)
  refine gw_putF (ty := .array (.int)) hx hb hts nu_M nY_M nY_M_ok nN_M hown hK hA hP hS 0 (by omega) [.int 0, .ref (b + 1), .int 0, .ref (b + 2), .int 0, .int 0, .ref (b + 3), .int 0, .ref (b + 4), .int 0, .ref (b + 5), .ref (b + 6), .int 0, .ref (b + 7), .null, .null, .null, .null, .null, .null, .null, .int 0, .int 0, .int 0, .int 0, .null, .null, .null, .null, .null, .null] (by rw [up_ne (by omega), up_eq]; rfl) rfl 14 (by decide) (hts _ nw_725) rfl hin rfl (by decide +kernel) rfl rfl (Nat.le_of_ble_eq_true rfl) nd_M_init_65 (fun H locs hP hS => ?_)
  refine lv_aload_n hx hb nd_M_init_68 rfl (lv_at hl 0 rfl) ?_
  refine lv_bipush (v := 8) hx hb nd_M_init_69 (by decide) ?_
  refine gw_size (wdG_lo hP (by omega)) (by omega) (fun hH => ?_)
  refine gw_newa (atype := .int) (ty := .int) hx hb (hts _ nw_60) rfl hK hP hS hH 0 rfl (8, .inl (fun _ => 0)) (fun _ => rfl) (by decide) (by decide) (by show 8 * 4 ≤ 536870912; omega) (by rw [hRc]; omega) (by rw [hRs]; omega) nd_M_init_71 (fun H hP hS hH => ?_)
  refine gw_putF (ty := .array (.int)) hx hb hts nu_M nY_M nY_M_ok nN_M hown hK hA hP hS 0 (by omega) [.int 0, .ref (b + 1), .int 0, .ref (b + 2), .int 0, .int 0, .ref (b + 3), .int 0, .ref (b + 4), .int 0, .ref (b + 5), .ref (b + 6), .int 0, .ref (b + 7), .ref (b + 8), .null, .null, .null, .null, .null, .null, .int 0, .int 0, .int 0, .int 0, .null, .null, .null, .null, .null, .null] (by rw [up_ne (by omega), up_eq]; rfl) rfl 15 (by decide) (hts _ nw_726) rfl hin rfl (by decide +kernel) rfl rfl (Nat.le_of_ble_eq_true rfl) nd_M_init_73 (fun H locs hP hS => ?_)
  refine lv_aload_n hx hb nd_M_init_76 rfl (lv_at hl 0 rfl) ?_
  refine lv_bipush (v := 8) hx hb nd_M_init_77 (by decide) ?_
  refine gw_size (wdG_lo hP (by omega)) (by omega) (fun hH => ?_)
  refine gw_newa (atype := .boolean) (ty := .boolean) hx hb (hts _ nw_805) rfl hK hP hS hH 2 rfl (8, .inl (fun _ => 0)) (fun _ => rfl) (by decide) (by decide) (by show 8 * 1 ≤ 536870912; omega) (by rw [hRc]; omega) (by rw [hRs]; omega) nd_M_init_79 (fun H hP hS hH => ?_)
  refine gw_putF (ty := .array (.boolean)) hx hb hts nu_M nY_M nY_M_ok nN_M hown hK hA hP hS 0 (by omega) [.int 0, .ref (b + 1), .int 0, .ref (b + 2), .int 0, .int 0, .ref (b + 3), .int 0, .ref (b + 4), .int 0, .ref (b + 5), .ref (b + 6), .int 0, .ref (b + 7), .ref (b + 8), .ref (b + 9), .null, .null, .null, .null, .null, .int 0, .int 0, .int 0, .int 0, .null, .null, .null, .null, .null, .null] (by rw [up_ne (by omega), up_eq]; rfl) rfl 16 (by decide) (hts _ nw_727) rfl hin rfl (by decide +kernel) rfl rfl (Nat.le_of_ble_eq_true rfl) nd_M_init_81 (fun H locs hP hS => ?_)
  refine lv_aload_n hx hb nd_M_init_84 rfl (lv_at hl 0 rfl) ?_
  refine lv_bipush (v := 8) hx hb nd_M_init_85 (by decide) ?_
  refine gw_size (wdG_lo hP (by omega)) (by omega) (fun hH => ?_)
  refine gw_newa (atype := .int) (ty := .int) hx hb (hts _ nw_60) rfl hK hP hS hH 0 rfl (8, .inl (fun _ => 0)) (fun _ => rfl) (by decide) (by decide) (by show 8 * 4 ≤ 536870912; omega) (by rw [hRc]; omega) (by rw [hRs]; omega) nd_M_init_87 (fun H hP hS hH => ?_)
  refine gw_putF (ty := .array (.int)) hx hb hts nu_M nY_M nY_M_ok nN_M hown hK hA hP hS 0 (by omega) [.int 0, .ref (b + 1), .int 0, .ref (b + 2), .int 0, .int 0, .ref (b + 3), .int 0, .ref (b + 4), .int 0, .ref (b + 5), .ref (b + 6), .int 0, .ref (b + 7), .ref (b + 8), .ref (b + 9), .ref (b + 10), .null, .null, .null, .null, .int 0, .int 0, .int 0, .int 0, .null, .null, .null, .null, .null, .null] (by rw [up_ne (by omega), up_eq]; rfl) rfl 17 (by decide) (hts _ nw_728) rfl hin rfl (by decide +kernel) rfl rfl (Nat.le_of_ble_eq_true rfl) nd_M_init_89 (fun H locs hP hS => ?_)
  refine lv_aload_n hx hb nd_M_init_92 rfl (lv_at hl 0 rfl) ?_
  refine lv_sipush (v := 192) hx hb nd_M_init_93 (by decide) ?_
  refine gw_size (wdG_lo hP (by omega)) (by omega) (fun hH => ?_)
  refine gw_newa (atype := .long) (ty := .long) hx hb (hts _ nw_119) rfl hK hP hS hH 1 rfl (192, .inr (.inl (fun _ => 0))) (fun _ => rfl) (by decide) (by decide) (by show 192 * 8 ≤ 536870912; omega) (by rw [hRc]; omega) (by rw [hRs]; omega) nd_M_init_96 (fun H hP hS hH => ?_)
  refine gw_putF (ty := .array (.long)) hx hb hts nu_M nY_M nY_M_ok nN_M hown hK hA hP hS 0 (by omega) [.int 0, .ref (b + 1), .int 0, .ref (b + 2), .int 0, .int 0, .ref (b + 3), .int 0, .ref (b + 4), .int 0, .ref (b + 5), .ref (b + 6), .int 0, .ref (b + 7), .ref (b + 8), .ref (b + 9), .ref (b + 10), .ref (b + 11), .null, .null, .null, .int 0, .int 0, .int 0, .int 0, .null, .null, .null, .null, .null, .null] (by rw [up_ne (by omega), up_eq]; rfl) rfl 18 (by decide) (hts _ nw_729) rfl hin rfl (by decide +kernel) rfl rfl (Nat.le_of_ble_eq_true rfl) nd_M_init_98 (fun H locs hP hS => ?_)
  refine lv_aload_n hx hb nd_M_init_101 rfl (lv_at hl 0 rfl) ?_
  refine lv_bipush (v := 8) hx hb nd_M_init_102 (by decide) ?_
  refine gw_size (wdG_lo hP (by omega)) (by omega) (fun hH => ?_)
  refine gw_newa (atype := .int) (ty := .int) hx hb (hts _ nw_60) rfl hK hP hS hH 0 rfl (8, .inl (fun _ => 0)) (fun _ => rfl) (by decide) (by decide) (by show 8 * 4 ≤ 536870912; omega) (by rw [hRc]; omega) (by rw [hRs]; omega) nd_M_init_104 (fun H hP hS hH => ?_)
  refine gw_putF (ty := .array (.int)) hx hb hts nu_M nY_M nY_M_ok nN_M hown hK hA hP hS 0 (by omega) [.int 0, .ref (b + 1), .int 0, .ref (b + 2), .int 0, .int 0, .ref (b + 3), .int 0, .ref (b + 4), .int 0, .ref (b + 5), .ref (b + 6), .int 0, .ref (b + 7), .ref (b + 8), .ref (b + 9), .ref (b + 10), .ref (b + 11), .ref (b + 12), .null, .null, .int 0, .int 0, .int 0, .int 0, .null, .null, .null, .null, .null, .null] (by rw [up_ne (by omega), up_eq]; rfl) rfl 19 (by decide) (hts _ nw_730) rfl hin rfl (by decide +kernel) rfl rfl (Nat.le_of_ble_eq_true rfl) nd_M_init_106 (fun H locs hP hS => ?_)
  refine lv_aload_n hx hb nd_M_init_109 rfl (lv_at hl 0 rfl) ?_
  refine lv_bipush (v := 64) hx hb nd_M_init_110 (by decide) ?_
  refine gw_size (wdG_lo hP (by omega)) (by omega) (fun hH => ?_)
  refine gw_newa (atype := .int) (ty := .int) hx hb (hts _ nw_60) rfl hK hP hS hH 0 rfl (64, .inl (fun _ => 0)) (fun _ => rfl) (by decide) (by decide) (by show 64 * 4 ≤ 536870912; omega) (by rw [hRc]; omega) (by rw [hRs]; omega) nd_M_init_112 (fun H hP hS hH => ?_)
  refine gw_putF (ty := .array (.int)) hx hb hts nu_M nY_M nY_M_ok nN_M hown hK hA hP hS 0 (by omega) [.int 0, .ref (b + 1), .int 0, .ref (b + 2), .int 0, .int 0, .ref (b + 3), .int 0, .ref (b + 4), .int 0, .ref (b + 5), .ref (b + 6), .int 0, .ref (b + 7), .ref (b + 8), .ref (b + 9), .ref (b + 10), .ref (b + 11), .ref (b + 12), .ref (b + 13), .null, .int 0, .int 0, .int 0, .int 0, .null, .null, .null, .null, .null, .null] (by rw [up_ne (by omega), up_eq]; rfl) rfl 20 (by decide) (hts _ nw_731) rfl hin rfl (by decide +kernel) rfl rfl (Nat.le_of_ble_eq_true rfl) nd_M_init_114 (fun H locs hP hS => ?_)
  refine lv_aload_n hx hb nd_M_init_117 rfl (lv_at hl 0 rfl) ?_
  refine lv_bipush (v := 30) hx hb nd_M_init_118 (by decide) ?_
  refine gw_size (wdG_lo hP (by omega)) (by omega) (fun hH => ?_)
  refine gw_newa (atype := .int) (ty := .int) hx hb (hts _ nw_60) rfl hK hP hS hH 0 rfl (30, .inl (fun _ => 0)) (fun _ => rfl) (by decide) (by decide) (by show 30 * 4 ≤ 536870912; omega) (by rw [hRc]; omega) (by rw [hRs]; omega) nd_M_init_120 (fun H hP hS hH => ?_)
  refine gw_putF (ty := .array (.int)) hx hb hts nu_M nY_M nY_M_ok nN_M hown hK hA hP hS 0 (by omega) [.int 0, .ref (b + 1), .int 0, .ref (b + 2), .int 0, .int 0, .ref (b + 3), .int 0, .ref (b + 4), .int 0, .ref (b + 5), .ref (b + 6), .int 0, .ref (b + 7), .ref (b + 8), .ref (b + 9), .ref (b + 10), .ref (b + 11), .ref (b + 12), .ref (b + 13), .ref (b + 14), .int 0, .int 0, .int 0, .int 0, .null, .null, .null, .null, .null, .null] (by rw [up_ne (by omega), up_eq]; rfl) rfl 25 (by decide) (hts _ nw_736) rfl hin rfl (by decide +kernel) rfl rfl (Nat.le_of_ble_eq_true rfl) nd_M_init_122 (fun H locs hP hS => ?_)
  refine lv_aload_n hx hb nd_M_init_125 rfl (lv_at hl 0 rfl) ?_
  refine lv_bipush (v := 30) hx hb nd_M_init_126 (by decide) ?_
  refine gw_size (wdG_lo hP (by omega)) (by omega) (fun hH => ?_)
  refine gw_newa (atype := .int) (ty := .int) hx hb (hts _ nw_60) rfl hK hP hS hH 0 rfl (30, .inl (fun _ => 0)) (fun _ => rfl) (by decide) (by decide) (by show 30 * 4 ≤ 536870912; omega) (by rw [hRc]; omega) (by rw [hRs]; omega) nd_M_init_128 (fun H hP hS hH => ?_)
  refine gw_putF (ty := .array (.int)) hx hb hts nu_M nY_M nY_M_ok nN_M hown hK hA hP hS 0 (by omega) [.int 0, .ref (b + 1), .int 0, .ref (b + 2), .int 0, .int 0, .ref (b + 3), .int 0, .ref (b + 4), .int 0, .ref (b + 5), .ref (b + 6), .int 0, .ref (b + 7), .ref (b + 8), .ref (b + 9), .ref (b + 10), .ref (b + 11), .ref (b + 12), .ref (b + 13), .ref (b + 14), .int 0, .int 0, .int 0, .int 0, .ref (b + 15), .null, .null, .null, .null, .null] (by rw [up_ne (by omega), up_eq]; rfl) rfl 26 (by decide) (hts _ nw_737) rfl hin rfl (by decide +kernel) rfl rfl (Nat.le_of_ble_eq_true rfl) nd_M_init_130 (fun H locs hP hS => ?_)
  refine lv_aload_n hx hb nd_M_init_133 rfl (lv_at hl 0 rfl) ?_
  refine lv_bipush (v := 30) hx hb nd_M_init_134 (by decide) ?_
  refine gw_size (wdG_lo hP (by omega)) (by omega) (fun hH => ?_)
  refine gw_newa (atype := .int) (ty := .int) hx hb (hts _ nw_60) rfl hK hP hS hH 0 rfl (30, .inl (fun _ => 0)) (fun _ => rfl) (by decide) (by decide) (by show 30 * 4 ≤ 536870912; omega) (by rw [hRc]; omega) (by rw [hRs]; omega) nd_M_init_136 (fun H hP hS hH => ?_)
  refine gw_putF (ty := .array (.int)) hx hb hts nu_M nY_M nY_M_ok nN_M hown hK hA hP hS 0 (by omega) [.int 0, .ref (b + 1), .int 0, .ref (b + 2), .int 0, .int 0, .ref (b + 3), .int 0, .ref (b + 4), .int 0, .ref (b + 5), .ref (b + 6), .int 0, .ref (b + 7), .ref (b + 8), .ref (b + 9), .ref (b + 10), .ref (b + 11), .ref (b + 12), .ref (b + 13), .ref (b + 14), .int 0, .int 0, .int 0, .int 0, .ref (b + 15), .ref (b + 16), .null, .null, .null, .null] (by rw [up_ne (by omega), up_eq]; rfl) rfl 27 (by decide) (hts _ nw_738) rfl hin rfl (by decide +kernel) rfl rfl (Nat.le_of_ble_eq_true rfl) nd_M_init_138 (fun H locs hP hS => ?_)
  refine lv_aload_n hx hb nd_M_init_141 rfl (lv_at hl 0 rfl) ?_
  refine lv_sipush (v := 2880) hx hb nd_M_init_142 (by decide) ?_
  refine gw_size (wdG_lo hP (by omega)) (by omega) (fun hH => ?_)
  refine gw_newa (atype := .boolean) (ty := .boolean) hx hb (hts _ nw_805) rfl hK hP hS hH 2 rfl (2880, .inl (fun _ => 0)) (fun _ => rfl) (by decide) (by decide) (by show 2880 * 1 ≤ 536870912; omega) (by rw [hRc]; omega) (by rw [hRs]; omega) nd_M_init_145 (fun H hP hS hH => ?_)
  refine gw_putF (ty := .array (.boolean)) hx hb hts nu_M nY_M nY_M_ok nN_M hown hK hA hP hS 0 (by omega) [.int 0, .ref (b + 1), .int 0, .ref (b + 2), .int 0, .int 0, .ref (b + 3), .int 0, .ref (b + 4), .int 0, .ref (b + 5), .ref (b + 6), .int 0, .ref (b + 7), .ref (b + 8), .ref (b + 9), .ref (b + 10), .ref (b + 11), .ref (b + 12), .ref (b + 13), .ref (b + 14), .int 0, .int 0, .int 0, .int 0, .ref (b + 15), .ref (b + 16), .ref (b + 17), .null, .null, .null] (by rw [up_ne (by omega), up_eq]; rfl) rfl 28 (by decide) (hts _ nw_739) rfl hin rfl (by decide +kernel) rfl rfl (Nat.le_of_ble_eq_true rfl) nd_M_init_147 (fun H locs hP hS => ?_)
  refine lv_aload_n hx hb nd_M_init_150 rfl (lv_at hl 0 rfl) ?_
  refine lv_sipush (v := 768) hx hb nd_M_init_151 (by decide) ?_
  refine gw_size (wdG_lo hP (by omega)) (by omega) (fun hH => ?_)
  refine gw_newa (atype := .boolean) (ty := .boolean) hx hb (hts _ nw_805) rfl hK hP hS hH 2 rfl (768, .inl (fun _ => 0)) (fun _ => rfl) (by decide) (by decide) (by show 768 * 1 ≤ 536870912; omega) (by rw [hRc]; omega) (by rw [hRs]; omega) nd_M_init_154 (fun H hP hS hH => ?_)
  refine gw_putF (ty := .array (.boolean)) hx hb hts nu_M nY_M nY_M_ok nN_M hown hK hA hP hS 0 (by omega) [.int 0, .ref (b + 1), .int 0, .ref (b + 2), .int 0, .int 0, .ref (b + 3), .int 0, .ref (b + 4), .int 0, .ref (b + 5), .ref (b + 6), .int 0, .ref (b + 7), .ref (b + 8), .ref (b + 9), .ref (b + 10), .ref (b + 11), .ref (b + 12), .ref (b + 13), .ref (b + 14), .int 0, .int 0, .int 0, .int 0, .ref (b + 15), .ref (b + 16), .ref (b + 17), .ref (b + 18), .null, .null] (by rw [up_ne (by omega), up_eq]; rfl) rfl 29 (by decide) (hts _ nw_740) rfl hin rfl (by decide +kernel) rfl rfl (Nat.le_of_ble_eq_true rfl) nd_M_init_156 (fun H locs hP hS => ?_)
  refine lv_aload_n hx hb nd_M_init_159 rfl (lv_at hl 0 rfl) ?_
  refine lv_sipush (v := 768) hx hb nd_M_init_160 (by decide) ?_
  refine gw_size (wdG_lo hP (by omega)) (by omega) (fun hH => ?_)
  refine gw_newa (atype := .boolean) (ty := .boolean) hx hb (hts _ nw_805) rfl hK hP hS hH 2 rfl (768, .inl (fun _ => 0)) (fun _ => rfl) (by decide) (by decide) (by show 768 * 1 ≤ 536870912; omega) (by rw [hRc]; omega) (by rw [hRs]; omega) nd_M_init_163 (fun H hP hS hH => ?_)
  refine gw_putF (ty := .array (.boolean)) hx hb hts nu_M nY_M nY_M_ok nN_M hown hK hA hP hS 0 (by omega) [.int 0, .ref (b + 1), .int 0, .ref (b + 2), .int 0, .int 0, .ref (b + 3), .int 0, .ref (b + 4), .int 0, .ref (b + 5), .ref (b + 6), .int 0, .ref (b + 7), .ref (b + 8), .ref (b + 9), .ref (b + 10), .ref (b + 11), .ref (b + 12), .ref (b + 13), .ref (b + 14), .int 0, .int 0, .int 0, .int 0, .ref (b + 15), .ref (b + 16), .ref (b + 17), .ref (b + 18), .ref (b + 19), .null] (by rw [up_ne (by omega), up_eq]; rfl) rfl 30 (by decide) (hts _ nw_741) rfl hin rfl (by decide +kernel) rfl rfl (Nat.le_of_ble_eq_true rfl) nd_M_init_165 (fun H locs hP hS => ?_)
  have hP : va_P D mvCl (mW cA (gad b) mh0) H := va_P_eq (wdG_congr (fun i hi => match i, hi with
    | 0, _ => rfl
    | 1, _ => rfl
    | 2, _ => rfl
    | 3, _ => rfl
    | 4, _ => rfl
    | 5, _ => rfl
    | 6, _ => rfl
    | 7, _ => rfl
    | 8, _ => rfl
    | 9, _ => rfl
    | 10, _ => rfl
    | 11, _ => rfl
    | 12, _ => rfl
    | 13, _ => rfl
    | 14, _ => rfl
    | 15, _ => rfl
    | 16, _ => rfl
    | 17, _ => rfl
    | 18, _ => rfl
    | 19, _ => rfl
    | 20, _ => rfl
    | i + 21, hi => absurd hi (by omega))) hP
  refine lv_aload_n hx hb nd_M_init_168 rfl (lv_at hl 0 rfl) ?_
  refine kc_V (As := []) (rest := []) (st1 := []) ⟨hx, hb, hml, hown, hts⟩ (mc_M_blank (gad_D hA) fuel mh0 _ hf) (kb_M_blank hts (hts _ nw_707) ⟨Nat.le_of_ble_eq_true rfl, Nat.le_of_ble_eq_true rfl⟩) (mr_M hK hP) hK hN hP hS rfl hl.1 rfl rfl (Nat.le_of_ble_eq_true rfl) ⟨by rw [hRc]; omega, by rw [hRs]; omega⟩ nd_M_init_169 (fun H locs hP hS => ?_)
  exact W.vret hx hb hr (fun t ht hW => ⟨rfl, by rw [ht]; exact hP, hS.F ht⟩) hS.2.2 nd_M_init_172
