/-! THE CLAIM OUT OF ONE WALK OF THE LAW'S BODY. Your part is whole_start (and what it stands on); all else here is the same for every law, but numbers. -/
def R_law : String := "DrawnPathsLaw"
def lw_P (b : Addr) (xs : List Int32) (args : Array Value) (s : State) : Prop := args = #[.ref b] ∧ s.IntsAt b xs ∧ xs.length ≤ 3072 ∧ (Jvm.Cond.and given_1 narrow_1).before args s = true
def lw_Q (_ : Array Value) (s : State) (o : Outcome) (t : State) : Prop := o = .returned (some (.int 1)) ∧ Framed s o t [] room_1.cells room_1.slots
def lw_Z (below : List Frame) (a : Array Value) (s : State) : State → Prop := fun t => ∃ o, t.status = .running ∧ Ended t below o ∧ lw_Q a s o t
/-- the law's own end, with 1 on the stack, nothing written that was there before, its room as the claim has it -/
theorem lw_ret {p : Program} {l : Launch} {e : Env} {s : State} {m : MethodId} {below : List Frame} {meth : Method} {c : Code} {b : Nat} (hx : p.tables.exec = Jvm.exec) (hb : c.code = code) (hr : meth.sig.returnType = ret) (hlocks : meth.locks = false) {pc : Nat} {H : Heap} {ls : Array Slot} (hdg : decode code pc = .ok (.ireturn, 1)) : W p l e room_1 s m #[Value.ref b] below meth c H [] room_1.cells room_1.slots (lw_Z below #[Value.ref b] s) (F0 m pc ls [.int 1]) := by
  intro T hT X
  obtain ⟨fs, hret, hrun, hended, hW, hframe⟩ := X.leave (v := some (.int 1)) (hlocks := hlocks) (fun h => by rw [hr] at h; cases h)
  have hmeth' : T.vm.method? m = some meth := X.method'
  refine ⟨T.setFrames fs, ?_, .returned (some (.int 1)), hrun, hended, rfl, ⟨_, rfl⟩, hW, hframe⟩
  jvm_step X.here [X.here.top, hx, hb, hdg, hmeth', hr, ret, narrow_b1]
  (try refine ⟨rfl, ?_⟩); (try refine ⟨rfl, ?_⟩)
  first | (intro acts; rw [hret _ acts rfl rfl rfl]) | rw [hret _ _ rfl rfl rfl]
  exact Steps.refl _
/-- what holds at the law's entry: the machine, the code, the tables' words (any of lw_tbl by 'hts w (by decide +kernel)'), the script of L ints xs at the cell b, what the Statement gives of the start (any of its parts by flat_of_before) -/
def lw_At (p : Program) (s : State) (m : MethodId) (meth : Method) (c : Code) (b L : Nat) (xs : Nat → Int32) : Prop :=
  p.tables.exec = Jvm.exec ∧ c.code = code ∧ meth.sig.returnType = ret ∧ c.maxLocals = 8 ∧ s.vm.findClass R_law = some m.cls ∧ (∀ w ∈ lw_tbl, w.before #[Value.ref b] s = true) ∧ va_X b L xs s s.heap ∧ b < s.heap.size ∧ meth.locks = false ∧ (Jvm.Cond.and given_1 narrow_1).before #[Value.ref b] s = true
def OKS (Rel : XH → MH → Prop) : Prop := OK_put Rel ∧ OK_sign Rel ∧ OK_type Rel ∧ OK_lay Rel ∧ OK_input Rel ∧ OK_clear Rel ∧ OK_start Rel ∧ OK_step Rel ∧ OK_fast Rel ∧ OK_pointer Rel ∧ OK_value Rel ∧ OK_count Rel ∧ OK_covers Rel ∧ OK_block Rel ∧ OK_lost Rel ∧ OK_output Rel ∧ OK_length Rel ∧ OK_charAt Rel
set_option maxHeartbeats 4000000 in
set_option maxRecDepth 100000 in
theorem law_loop {p : Program} {l : Launch} {e : Env} {s : State} {m : MethodId} {below : List Frame} {meth : Method} {c : Code} {b L : Nat} {xs : Nat → Int32} {Dx Dm : va_G} {cA cB : Nat → ClassId} {bX : Nat} (X : LX p l s m c b L xs Dx Dm cA cB bX) (hr : meth.sig.returnType = ret) (hlocks : meth.locks = false) {Rel : XH → MH → Prop} (hOK : OKS Rel) : ∀ (n j : Nat) (hn : 512 ≤ n + j) (hjL : 6 * j ≤ L) (H : Heap) (locs : List Loc) (ls : Array Slot) (h : XH) (g : MH) (f : Nat → Int64) (Y : LY s Dx Dm cA cB bX h g f H locs) (hR : Rel h g) (hl : lv_has ls 8 [(4, .int (nI (6 * j))), (3, .ref (bX + 82)), (2, .ref (gad (bX + 61) 0)), (1, .ref (xad bX 0)), (0, .ref b)]), W p l e room_1 s m #[Value.ref b] below meth c H locs (83 + j) (6821 + 6 * j) (lw_Z below #[Value.ref b] s) (F0 m 23 ls []) := by
  obtain ⟨k_put, k_sign, k_type, k_lay, k_input, k_clear, k_start, k_step, k_fast, k_pointer, k_value, k_count, k_covers, k_block, k_lost, k_output, k_length, k_charAt⟩ := hOK
  have hrs := room_s
  have hrc := room_c
  have X0 := X
  obtain ⟨hx, hb, hml, hown, hts, hX, hbl, hKx, hKm, hN, hTW, hNC, hfl, hbX, hL⟩ := X0
  intro n
  induction n with
  | zero =>
    intro j hn hjL H locs ls h g f Y hR hl
    have hS := Y.2.2.2
    refine lv_iload hx hb nd_Law_law_23 (lv_at hl 0 rfl) ?_
    refine lv_aload_n hx hb nd_Law_law_25 rfl (lv_at hl 4 rfl) ?_
    refine va_slen (A := lA s) hx hb hX hbl (fun h9 => by unfold lA at h9; omega) hS nd_Law_law_26 ?_
    refine lv_bipush (v := 6) hx hb nd_Law_law_27 (by decide) ?_
    refine lv_isub hx hb nd_Law_law_29 ?_
    have hcmp : (Int32.ofNat L - 6 < nI (6 * j)) ↔ (L : Int) - 6 < (6 * j : Nat) := by
      rw [Int32.lt_iff_toInt_lt, nI_toInt (by omega), show (Int32.ofNat L - 6).toInt = (L : Int) - 6 from pk_sub_toInt (a := L) (b := 6) (by omega) (by omega)]
    refine lv_icmp_gt (tgt := 1063) hx hb nd_Law_law_30 rfl (fun hc => ?_) (fun hc => ?_)
    · refine lv_iconst (v := 1) hx hb nd_Law_law_1063 (by decide) ?_
      refine va_forget (fun q hq => hS.2.2 q hq) ?_
      refine W.widen (k := room_1.cells) (n := room_1.slots) (by omega) (by omega) ?_
      exact lw_ret hx hb hr hlocks nd_Law_law_1064
    · exact absurd (hcmp.mpr (by omega)) hc
  | succ n ih =>
    intro j hn hjL H locs ls h g f Y hR hl
    have hS := Y.2.2.2
    refine lv_iload hx hb nd_Law_law_23 (lv_at hl 0 rfl) ?_
    refine lv_aload_n hx hb nd_Law_law_25 rfl (lv_at hl 4 rfl) ?_
    refine va_slen (A := lA s) hx hb hX hbl (fun h9 => by unfold lA at h9; omega) hS nd_Law_law_26 ?_
    refine lv_bipush (v := 6) hx hb nd_Law_law_27 (by decide) ?_
    refine lv_isub hx hb nd_Law_law_29 ?_
    have hcmp : (Int32.ofNat L - 6 < nI (6 * j)) ↔ (L : Int) - 6 < (6 * j : Nat) := by
      rw [Int32.lt_iff_toInt_lt, nI_toInt (by omega), show (Int32.ofNat L - 6).toInt = (L : Int) - 6 from pk_sub_toInt (a := L) (b := 6) (by omega) (by omega)]
    refine lv_icmp_gt (tgt := 1063) hx hb nd_Law_law_30 rfl (fun hc => ?_) (fun hc => ?_)
    · refine lv_iconst (v := 1) hx hb nd_Law_law_1063 (by decide) ?_
      refine va_forget (fun q hq => hS.2.2 q hq) ?_
      refine W.widen (k := room_1.cells) (n := room_1.slots) (by omega) (by omega) ?_
      exact lw_ret hx hb hr hlocks nd_Law_law_1064
    · have hj6 : 6 * j + 6 ≤ L := by
        have h9 : ¬ ((L : Int) - 6 < (6 * j : Nat)) := fun h8 => hc (hcmp.mpr h8)
        omega
      refine lv_aload_n hx hb nd_Law_law_33 rfl (lv_at hl 4 rfl) ?_
      refine lv_iload hx hb nd_Law_law_34 (lv_at hl 0 rfl) ?_
      refine ks_ld X Y (n := 6 * j) rfl (by omega) nd_Law_law_36 ?_
      refine lv_bipush (v := 31) hx hb nd_Law_law_37 (by decide) ?_
      refine lv_iand hx hb nd_Law_law_39 ?_
      have kk : ∀ (H : Heap) (locs : List Loc) (ls : Array Slot) (h : XH) (g : MH) (f : Nat → Int64), LY s Dx Dm cA cB bX h g f H locs → Rel h g → lv_has ls 8 [(4, .int (nI (6 * j))), (3, .ref (bX + 82)), (2, .ref (gad (bX + 61) 0)), (1, .ref (xad bX 0)), (0, .ref b)] → W p l e room_1 s m #[Value.ref b] below meth c H locs (83 + j + 1) (6821 + 6 * j + 6) (lw_Z below #[Value.ref b] s) (F0 m 1057 ls []) := by
        intro H locs ls h g f Y hR hl
        refine lv_iinc (v := nI (6 * j) + 6) (lv' := [(4, .int (nI (6 * j) + 6)), (3, .ref (bX + 82)), (2, .ref (gad (bX + 61) 0)), (1, .ref (xad bX 0)), (0, .ref b)]) hx hb nd_Law_law_1057 hl (k := 0) rfl rfl (by decide) rfl (fun ls hl => ?_)
        refine lv_goto hx hb nd_Law_law_1060 (tgt := 23) rfl ?_
        rw [show (6 : Int32) = nI 6 from rfl, nI_add, show 6 * j + 6 = 6 * (j + 1) by omega] at hl
        refine W.widen (k := 83 + (j + 1)) (n := 6821 + 6 * (j + 1)) (by omega) (by omega) ?_
        exact ih (j + 1) (by omega) (by omega) H locs ls h g f Y hR hl
      generalize hv : xs (6 * j) &&& 31 = v
      by_cases hc0 : v = 0
      · refine lv_tableIn (tgt := 128) hx hb nd_Law_law_40 (by rw [hc0]; decide) (by rw [hc0]; decide) (by rw [hc0]; try rfl) rfl ?_
        exact lc_put X k_put Y hR hj6 ⟨by omega, by omega⟩ hl kk
      by_cases hc1 : v = 1
      · refine lv_tableIn (tgt := 210) hx hb nd_Law_law_40 (by rw [hc1]; decide) (by rw [hc1]; decide) (by rw [hc1]; try rfl) rfl ?_
        exact lc_sign X k_sign Y hR hj6 ⟨by omega, by omega⟩ hl kk
      by_cases hc2 : v = 2
      · refine lv_tableIn (tgt := 278) hx hb nd_Law_law_40 (by rw [hc2]; decide) (by rw [hc2]; decide) (by rw [hc2]; try rfl) rfl ?_
        exact lc_type X k_type Y hR hj6 ⟨by omega, by omega⟩ hl kk
      by_cases hc3 : v = 3
      · refine lv_tableIn (tgt := 305) hx hb nd_Law_law_40 (by rw [hc3]; decide) (by rw [hc3]; decide) (by rw [hc3]; try rfl) rfl ?_
        exact lc_lay X k_lay Y hR hj6 ⟨by omega, by omega⟩ hl kk
      by_cases hc4 : v = 4
      · refine lv_tableIn (tgt := 361) hx hb nd_Law_law_40 (by rw [hc4]; decide) (by rw [hc4]; decide) (by rw [hc4]; try rfl) rfl ?_
        exact lc_input X k_input Y hR hj6 ⟨by omega, by omega⟩ hl kk
      by_cases hc5 : v = 5
      · refine lv_tableIn (tgt := 449) hx hb nd_Law_law_40 (by rw [hc5]; decide) (by rw [hc5]; decide) (by rw [hc5]; try rfl) rfl ?_
        exact lc_clear X k_clear Y hR hj6 ⟨by omega, by omega⟩ hl kk
      by_cases hc6 : v = 6
      · refine lv_tableIn (tgt := 460) hx hb nd_Law_law_40 (by rw [hc6]; decide) (by rw [hc6]; decide) (by rw [hc6]; try rfl) rfl ?_
        exact lc_start X k_start Y hR hj6 ⟨by omega, by omega⟩ hl kk
      by_cases hc7 : v = 7
      · refine lv_tableIn (tgt := 471) hx hb nd_Law_law_40 (by rw [hc7]; decide) (by rw [hc7]; decide) (by rw [hc7]; try rfl) rfl ?_
        exact lc_step X k_step Y hR hj6 ⟨by omega, by omega⟩ hl kk
      by_cases hc8 : v = 8
      · refine lv_tableIn (tgt := 527) hx hb nd_Law_law_40 (by rw [hc8]; decide) (by rw [hc8]; decide) (by rw [hc8]; try rfl) rfl ?_
        exact lc_fast X k_fast Y hR hj6 ⟨by omega, by omega⟩ hl kk
      by_cases hc9 : v = 9
      · refine lv_tableIn (tgt := 583) hx hb nd_Law_law_40 (by rw [hc9]; decide) (by rw [hc9]; decide) (by rw [hc9]; try rfl) rfl ?_
        exact lc_pointer X k_pointer Y hR hj6 ⟨by omega, by omega⟩ hl kk
      by_cases hc10 : v = 10
      · refine lv_tableIn (tgt := 651) hx hb nd_Law_law_40 (by rw [hc10]; decide) (by rw [hc10]; decide) (by rw [hc10]; try rfl) rfl ?_
        exact lc_value X k_value Y hR hj6 ⟨by omega, by omega⟩ hl kk
      by_cases hc11 : v = 11
      · refine lv_tableIn (tgt := 718) hx hb nd_Law_law_40 (by rw [hc11]; decide) (by rw [hc11]; decide) (by rw [hc11]; try rfl) rfl ?_
        exact lc_count X k_count Y hR hj6 ⟨by omega, by omega⟩ hl kk
      by_cases hc12 : v = 12
      · refine lv_tableIn (tgt := 743) hx hb nd_Law_law_40 (by rw [hc12]; decide) (by rw [hc12]; decide) (by rw [hc12]; try rfl) rfl ?_
        exact lc_covers X k_covers Y hR hj6 ⟨by omega, by omega⟩ hl kk
      by_cases hc13 : v = 13
      · refine lv_tableIn (tgt := 811) hx hb nd_Law_law_40 (by rw [hc13]; decide) (by rw [hc13]; decide) (by rw [hc13]; try rfl) rfl ?_
        exact lc_block X k_block Y hR hj6 ⟨by omega, by omega⟩ hl kk
      by_cases hc14 : v = 14
      · refine lv_tableIn (tgt := 931) hx hb nd_Law_law_40 (by rw [hc14]; decide) (by rw [hc14]; decide) (by rw [hc14]; try rfl) rfl ?_
        exact lc_lost X k_lost Y hR hj6 ⟨by omega, by omega⟩ hl kk
      by_cases hc15 : v = 15
      · refine lv_tableIn (tgt := 1006) hx hb nd_Law_law_40 (by rw [hc15]; decide) (by rw [hc15]; decide) (by rw [hc15]; try rfl) rfl ?_
        exact lc_output X k_output Y hR hj6 ⟨by omega, by omega⟩ hl kk
      by_cases hc16 : v = 16
      · refine lv_tableIn (tgt := 1019) hx hb nd_Law_law_40 (by rw [hc16]; decide) (by rw [hc16]; decide) (by rw [hc16]; try rfl) rfl ?_
        exact lc_length X k_length Y hR hj6 ⟨by omega, by omega⟩ hl kk
      by_cases hc17 : v = 17
      · refine lv_tableIn (tgt := 1032) hx hb nd_Law_law_40 (by rw [hc17]; decide) (by rw [hc17]; decide) (by rw [hc17]; try rfl) rfl ?_
        exact lc_charAt X k_charAt Y hR hj6 ⟨by omega, by omega⟩ hl kk
      refine lv_tableOut (tgt := 1057) hx hb nd_Law_law_40 (by have := lv_neT hc0 (by decide : Int32.toInt 0 = 0); have := lv_neT hc1 (by decide : Int32.toInt 1 = 1); have := lv_neT hc2 (by decide : Int32.toInt 2 = 2); have := lv_neT hc3 (by decide : Int32.toInt 3 = 3); have := lv_neT hc4 (by decide : Int32.toInt 4 = 4); have := lv_neT hc5 (by decide : Int32.toInt 5 = 5); have := lv_neT hc6 (by decide : Int32.toInt 6 = 6); have := lv_neT hc7 (by decide : Int32.toInt 7 = 7); have := lv_neT hc8 (by decide : Int32.toInt 8 = 8); have := lv_neT hc9 (by decide : Int32.toInt 9 = 9); have := lv_neT hc10 (by decide : Int32.toInt 10 = 10); have := lv_neT hc11 (by decide : Int32.toInt 11 = 11); have := lv_neT hc12 (by decide : Int32.toInt 12 = 12); have := lv_neT hc13 (by decide : Int32.toInt 13 = 13); have := lv_neT hc14 (by decide : Int32.toInt 14 = 14); have := lv_neT hc15 (by decide : Int32.toInt 15 = 15); have := lv_neT hc16 (by decide : Int32.toInt 16 = 16); have := lv_neT hc17 (by decide : Int32.toInt 17 = 17); omega) rfl ?_
      refine W.widen (k := 83 + j + 1) (n := 6821 + 6 * j + 6) (by omega) (by omega) ?_
      exact kk H locs ls h g f Y hR hl
