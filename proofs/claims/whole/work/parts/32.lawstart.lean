theorem arr_of {s : State} {args : Array Value} {ty : FieldType} (h : (Cond.arrayClass ty).before args s = true) : ∃ cA, ArrOfT s cA ty ∧ s.vm.findClass ("[" ++ ty.toString) = some cA := by
  obtain ⟨c, k, comp, h1, h2, h3⟩ := Cond.arrayClass_spec h
  exact ⟨c, fun n z => ⟨(fun k h => by cases h), k, h2, comp, h3⟩, h1⟩
theorem arr_ofq {s : State} {C : String} (h : va_AO C s) : ∃ cA, ArrOfT s cA (.object C) ∧ va_RA s cA (.object C) := by
  obtain ⟨comp, c, k, h1, h2, h3, h4, h5⟩ := Cond.arrayOver_spec (show (Cond.arrayOver (.object C)).holds #[] s none s [] = true from h)
  exact ⟨c, fun n z => ⟨(fun k h => by cases h), k, h3, comp, h4⟩, k, comp, h3, h4, h1, h5⟩
set_option maxHeartbeats 4000000 in
set_option maxRecDepth 100000 in
theorem kx_known {s : State} {args : Array Value} (hts : ∀ w ∈ lw_wd, w.before args s = true) (hO : AO s) : ∃ (Dx : va_G) (cA : Nat → ClassId), va_K Dx vwCl (xtys cA) s := by
  obtain ⟨c0, i0, k0⟩ := u_known hts nu_P (hts (.instantiable "DrawnPaths" 6) (by decide +kernel))
  obtain ⟨c1, i1, k1⟩ := u_known hts nu_Block (hts (.instantiable "DrawnPaths$Block" 5) (by decide +kernel))
  obtain ⟨c2, i2, k2⟩ := u_known hts nu_Blocks (hts (.instantiable "DrawnPaths$Blocks" 4) (by decide +kernel))
  obtain ⟨c3, i3, k3⟩ := u_known hts nu_Field (hts (.instantiable "DrawnPaths$Field" 2) (by decide +kernel))
  obtain ⟨c4, i4, k4⟩ := u_known hts nu_Line (hts (.instantiable "DrawnPaths$Line" 2) (by decide +kernel))
  obtain ⟨c5, i5, k5⟩ := u_known hts nu_Ptr (hts (.instantiable "DrawnPaths$Pointer" 5) (by decide +kernel))
  obtain ⟨c6, i6, k6⟩ := u_known hts nu_Run (hts (.instantiable "DrawnPaths$Run" 10) (by decide +kernel))
  obtain ⟨c7, i7, k7⟩ := u_known hts nu_Search (hts (.instantiable "DrawnPaths$Search" 3) (by decide +kernel))
  obtain ⟨a0, u0, v0⟩ := arr_of (hts (.arrayClass .int) (by decide +kernel))
  obtain ⟨a1, u1, v1⟩ := arr_of (hts (.arrayClass .char) (by decide +kernel))
  obtain ⟨a2, u2, v2⟩ := arr_of (hts (.arrayClass .long) (by decide +kernel))
  obtain ⟨a3, u3, v3⟩ := arr_ofq hO.1
  obtain ⟨a4, u4, v4⟩ := arr_ofq hO.2
  refine ⟨((fun c => match c with | 0 => c0 | 1 => c1 | 2 => c2 | 3 => c3 | 4 => c4 | 5 => c5 | 6 => c6 | _ => c7), (fun c => match c with | 0 => i0 | 1 => i1 | 2 => i2 | 3 => i3 | 4 => i4 | 5 => i5 | 6 => i6 | _ => i7)), (fun c => match c with | 0 => a0 | 1 => a1 | 2 => a2 | 3 => a3 | _ => a4), fun c q hq => ?_, fun k q hq => ?_⟩
  · match c, hq with
    | 0, hq => cases hq; exact k0
    | 1, hq => cases hq; exact k1
    | 2, hq => cases hq; exact k2
    | 3, hq => cases hq; exact k3
    | 4, hq => cases hq; exact k4
    | 5, hq => cases hq; exact k5
    | 6, hq => cases hq; exact k6
    | 7, hq => cases hq; exact k7
    | c + 8, hq => cases hq
  · match k, hq with
    | 0, hq => cases hq; exact ⟨u0, v0⟩
    | 1, hq => cases hq; exact ⟨u1, v1⟩
    | 2, hq => cases hq; exact ⟨u2, v2⟩
    | 3, hq => cases hq; exact ⟨u3, v3⟩
    | 4, hq => cases hq; exact ⟨u4, v4⟩
    | k + 5, hq => cases hq
set_option maxHeartbeats 4000000 in
set_option maxRecDepth 100000 in
theorem km_known {s : State} {args : Array Value} (hts : ∀ w ∈ lw_wd, w.before args s = true) : ∃ (Dm : va_G) (cB : Nat → ClassId), va_K Dm mvCl (mtys cB) s := by
  obtain ⟨c0, i0, k0⟩ := u_known hts nu_M (hts (.instantiable "DrawnPathsModel" 31) (by decide +kernel))
  obtain ⟨a0, u0, v0⟩ := arr_of (hts (.arrayClass .int) (by decide +kernel))
  obtain ⟨a1, u1, v1⟩ := arr_of (hts (.arrayClass .long) (by decide +kernel))
  obtain ⟨a2, u2, v2⟩ := arr_of (hts (.arrayClass .boolean) (by decide +kernel))
  refine ⟨((fun _ => c0), (fun _ => i0)), (fun c => match c with | 0 => a0 | 1 => a1 | _ => a2), fun c q hq => ?_, fun k q hq => ?_⟩
  · match c, hq with
    | 0, hq => cases hq; exact k0
    | c + 1, hq => cases hq
  · match k, hq with
    | 0, hq => cases hq; exact ⟨u0, v0⟩
    | 1, hq => cases hq; exact ⟨u1, v1⟩
    | 2, hq => cases hq; exact ⟨u2, v2⟩
    | k + 3, hq => cases hq
theorem nw_start {s : State} {b : Addr} (hts0 : ∀ w ∈ lw_tbl, w.before #[Value.ref b] s = true) (hs : ∀ c ∈ flatC (Jvm.Cond.and given_1 narrow_1), c.before #[Value.ref b] s = true) : NW s := by
  refine ⟨fun w hw => ?_, fun q hq => ?_⟩
  · have h1 := hts0 w (List.mem_filter.mp hw).1
    have h2 := lw_oth_ok w hw
    cases w <;> first
      | exact va_Nw.of rfl h1
      | (simp [lw_okK] at h2; done)
  · have hE : ∀ q ∈ lw_strs, Cond.exactly (.string "DrawnPaths" q.1) "java/lang/String" ∈ flatC (Jvm.Cond.and given_1 narrow_1) := by decide +kernel
    have hF : ∀ q ∈ lw_strs, Cond.stringRef "DrawnPaths" q.1 q.2 ∈ lw_tbl := by decide +kernel
    obtain ⟨a, c, cell, k, h1, -⟩ := Cond.exactly_spec (hs _ (hE q hq))
    exact ⟨a, vk_R.of (hts0 _ (hF q hq)) h1⟩
theorem tw_start {s : State} {b : Addr} (hts0 : ∀ w ∈ lw_tbl, w.before #[Value.ref b] s = true) (hs : ∀ c ∈ flatC (Jvm.Cond.and given_1 narrow_1), c.before #[Value.ref b] s = true) : TW s :=
  ⟨⟨hts0 (.laysStatic "java/lang/Throwable" "UNASSIGNED_STACK" "[Ljava/lang/StackTraceElement;") (by decide +kernel), hs (.isRef (.static "java/lang/Throwable" "UNASSIGNED_STACK" "[Ljava/lang/StackTraceElement;")) (by decide +kernel)⟩,
   ⟨hts0 (.laysStatic "java/lang/Throwable" "SUPPRESSED_SENTINEL" "Ljava/util/List;") (by decide +kernel), hs (.isRef (.static "java/lang/Throwable" "SUPPRESSED_SENTINEL" "Ljava/util/List;")) (by decide +kernel)⟩⟩
theorem nc_start {s : State} {b : Addr} (hs : ∀ c ∈ flatC (Jvm.Cond.and given_1 narrow_1), c.before #[Value.ref b] s = true) : NC s := by
  intro c1 c0 h1 h0
  have h := hs (.not (.castable "java/lang/IllegalArgumentException" "java/lang/IndexOutOfBoundsException")) (by decide +kernel)
  simp only [Cond.before, Cond.holds, Cond.value, h1, h0] at h
  simpa using h
set_option maxHeartbeats 4000000 in
set_option maxRecDepth 100000 in
theorem whole_start {p : Program} {e : Env} {s : State} {m : MethodId} {below : List Frame} {meth : Method} {c : Code} (l : Launch) (hfl : l.flags = flags0) {Rel : XH → MH → Prop} (hOK : OKS Rel) {fuel : Nat} {g1 : MH} (hg1 : mf_M_blank fuel mh0 = some g1) (hRel0 : Rel xh0 g1) {b L : Nat} {xs : Nat → Int32} (hL : L ≤ 3072) (C0 : lw_At p s m meth c b L xs) : W p l e room_1 s m #[Value.ref b] below meth c s.heap [] 0 0 (lw_Z below #[Value.ref b] s) (entryFrame m ([Value.ref b] : List Value).toArray 8) := by
  obtain ⟨hx, hb, hr, hml, hown, hts0, hX, hbl, hlocks, hgv⟩ := C0
  have hs := flat_of_before _ hgv
  have hts : ∀ w ∈ lw_wd, w.before #[Value.ref b] s = true := fun w hw => hts0 w (List.mem_filter.mp hw).1
  have hN := nw_start hts0 hs
  have hTW := tw_start hts0 hs
  have hNC := nc_start hs
  have hO : AO s := ⟨hts0 (.arrayOver (.object "DrawnPaths$Block")) (by decide +kernel), hts0 (.arrayOver (.object "DrawnPaths$Pointer")) (by decide +kernel)⟩
  obtain ⟨Dx, cA, hKx⟩ := kx_known hts hO
  obtain ⟨Dm, cB, hKm⟩ := km_known hts
  have hown : s.vm.findClass "DrawnPathsLaw" = some m.cls := hown
  have hl := lv_entry ([Value.ref b]) (n := 8) (Nat.le_of_ble_eq_true rfl)
  rw [lg_entry_eq]
  generalize (lg_sl ([Value.ref b]) ++ List.replicate (8 - (lg_sl ([Value.ref b])).length) Slot.unset).toArray = ls at hl ⊢
  have hl : lv_has ls 8 [(0, .ref b)] := hl
  have hS : va_S (lA s) s.heap s.heap [] := va_S.rf
  have hPx : va_P Dx vwCl (wdG 0 (gad s.heap.size) (fun _ => .inr (0, []))) s.heap := fun k q hq => by cases hq
  have hA0 : ∀ q, s.heap.size ≤ q → lA s q := fun q h9 => h9
  have hRc := room_c
  have hRs := room_s
  refine gw_new (ci := 0) (b := s.heap.size) hx hb hts nu_P nY_P nY_P_ok hown (hts (Cond.classLink "DrawnPathsLaw" 8 "DrawnPaths") (by decide +kernel)) (hts (Cond.instantiable "DrawnPaths" 6) (by decide +kernel)) (hts (Cond.initialized "DrawnPaths") (by decide +kernel)) hKx hPx hS rfl rfl [.null, .null, .null, .null, .null, .null] (by decide) (by have := hRc; omega) (by have := hRs; omega) nd_Law_law_0 (fun H hPx hS hH => ?_)
  refine lv_dup hx hb nd_Law_law_3 rfl ?_
  refine gw_I (As := []) (rest := [.ref (s.heap.size + 0)]) ⟨hx, hb, hml, hown, hts⟩ (xi_P hA0 (by rfl)) (ki_P_init hts (hts (Cond.methodLink "DrawnPathsLaw" 56 ⟨"DrawnPaths", "<init>", "()V"⟩) (by decide +kernel)) ⟨Nat.le_of_ble_eq_true rfl, Nat.le_of_ble_eq_true rfl⟩) hKx hN hO hPx hS hH rfl hl.1 rfl (Nat.le_of_ble_eq_true rfl) ⟨by have := hRc; omega, by have := hRs; omega⟩ nd_Law_law_4 (fun H locs hPx hS => ?_)
  refine lv_astore_n (lv' := [(1, .ref (s.heap.size + 0)), (0, .ref b)]) hx hb nd_Law_law_7 rfl hl (by decide) rfl (fun ls hl => ?_)
  refine gw_size (b := s.heap.size) (n := 61) (wdG_lo hPx (by decide)) (by omega) (fun hH => ?_)
  have hPx := xW0 hPx
  refine va_forget (fun q hq => hS.2.2 q hq) ?_
  have hPm : va_P Dm mvCl (wdG 0 (gad (s.heap.size + 61)) (fun _ => .inr (0, []))) H := fun k q hq => by cases hq
  have hSm : va_S (fun q => s.heap.size + 61 ≤ q) H H [] := va_S.rf
  refine gw_new (ci := 0) (b := s.heap.size + 61) hx hb hts nu_M nY_M nY_M_ok hown (hts (Cond.classLink "DrawnPathsLaw" 57 "DrawnPathsModel") (by decide +kernel)) (hts (Cond.instantiable "DrawnPathsModel" 31) (by decide +kernel)) (hts (Cond.initialized "DrawnPathsModel") (by decide +kernel)) hKm hPm hSm (by omega) rfl [.int 0, .null, .int 0, .null, .int 0, .int 0, .null, .int 0, .null, .int 0, .null, .null, .int 0, .null, .null, .null, .null, .null, .null, .null, .null, .int 0, .int 0, .int 0, .int 0, .null, .null, .null, .null, .null, .null] (by decide) (by have := hRc; omega) (by have := hRs; omega) nd_Law_law_8 (fun H1 hPm hSm hH1 => ?_)
  refine lv_dup hx hb nd_Law_law_11 rfl ?_
  refine gw_I (As := []) (rest := [.ref (s.heap.size + 61 + 0)]) ⟨hx, hb, hml, hown, hts⟩ (mi_M (fun q h9 => h9) (by rfl) fuel g1 hg1) (ki_M_init hts (hts (Cond.methodLink "DrawnPathsLaw" 59 ⟨"DrawnPathsModel", "<init>", "()V"⟩) (by decide +kernel)) ⟨Nat.le_of_ble_eq_true rfl, Nat.le_of_ble_eq_true rfl⟩) hKm hN hO hPm hSm hH1 rfl hl.1 rfl (Nat.le_of_ble_eq_true rfl) ⟨by have := hRc; omega, by have := hRs; omega⟩ nd_Law_law_12 (fun H2 locs hPm hSm => ?_)
  refine lv_astore_n (lv' := [(2, .ref (s.heap.size + 61 + 0)), (1, .ref (s.heap.size + 0)), (0, .ref b)]) hx hb nd_Law_law_15 rfl hl (by decide) rfl (fun ls hl => ?_)
  refine gw_size (b := s.heap.size + 61) (n := 21) (wdG_lo hPm (by decide)) (by omega) (fun hH2 => ?_)
  have hPx := wdG_kept hPx (H1 := H2) (fun i hi hlt => hSm.2.1 _ hlt (fun h9 => by have := xpi_lt i hi; have h6 : s.heap.size + 61 ≤ s.heap.size + xpi i := h9; omega))
  refine va_forget (fun q hq => by have h9 := hSm.2.2 q hq; omega) ?_
  refine lv_iconst (v := 1) hx hb nd_Law_law_16 (by decide) ?_
  have hPo : va_P Dx vwCl (wdG 0 (gad (s.heap.size + 82)) (fun _ => .inr (0, []))) H2 := fun k q hq => by cases hq
  have hSo : va_S (fun q => s.heap.size + 82 ≤ q) H2 H2 [] := va_S.rf
  refine gw_newa (b := s.heap.size + 82) (atype := .long) (ty := .long) hx hb (hts (Cond.arrayClass FieldType.long) (by decide +kernel)) rfl hKx hPo hSo (by omega) 2 rfl (1, .inr (.inl (fun _ => 0))) (fun _ => rfl) (by decide) (by decide) (by decide) (by have := hRc; omega) (by have := hRs; omega) nd_Law_law_17 (fun H3 hPo hSo hH3 => ?_)
  have hPx := wdG_kept hPx (H1 := H3) (fun i hi hlt => hSo.2.1 _ hlt (fun h9 => by have := xpi_lt i hi; have h6 : s.heap.size + 82 ≤ s.heap.size + xpi i := h9; omega))
  have hPm := wdG_kept hPm (H1 := H3) (fun i hi hlt => hSo.2.1 _ hlt (fun h9 => by have h6 : s.heap.size + 82 ≤ s.heap.size + 61 + i := h9; omega))
  have hO1 : va_P Dx vwCl (oW cA (s.heap.size + 82) (fun _ => 0)) H3 := hPo
  have hSf : va_S (lA s) s.heap H3 [] := ⟨by omega, fun q h1 h2 => by rw [hSo.2.1 q (by omega) (by omega), hSm.2.1 q (by omega) (by omega)]; exact hS.2.1 q h1 h2, fun q hq => absurd hq List.not_mem_nil⟩
  refine lv_astore_n (lv' := [(3, .ref (s.heap.size + 82)), (2, .ref (s.heap.size + 61 + 0)), (1, .ref (s.heap.size + 0)), (0, .ref b)]) hx hb nd_Law_law_19 rfl hl (by decide) rfl (fun ls hl => ?_)
  refine lv_iconst (v := 0) hx hb nd_Law_law_20 (by decide) ?_
  refine lv_istore (lv' := [(4, .int 0), (3, .ref (s.heap.size + 82)), (2, .ref (s.heap.size + 61 + 0)), (1, .ref (s.heap.size + 0)), (0, .ref b)]) hx hb nd_Law_law_21 hl (by decide) rfl (fun ls hl => ?_)
  refine W.widen (k := 83 + 0) (n := 6821 + 6 * 0) (by omega) (by omega) ?_
  exact law_loop (bX := s.heap.size) (xs := xs) ⟨hx, hb, hml, hown, hts, hX, hbl, hKx, hKm, hN, hTW, hNC, hfl, Nat.le_refl _, hL⟩ hr hlocks hOK 512 0 (by decide) (by omega) H3 [] ls xh0 g1 (fun _ => 0) ⟨hPx, hPm, hO1, hSf⟩ hRel0 hl
