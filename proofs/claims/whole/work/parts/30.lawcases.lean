
theorem room_s : 7000000 ≤ room_1.slots := by decide
theorem room_c : 600000 ≤ room_1.cells := by decide
theorem wdG_kept {D : va_G} {cl : List vw_C} {N : Nat} {ad : Nat → Nat} {ct : Nat → va_E} {H H1 : Heap} (hP : va_P D cl (wdG N ad ct) H) (hk : ∀ i, i < N → ad i < H.size → H1[ad i]? = H[ad i]?) : va_P D cl (wdG N ad ct) H1 := by
  intro k q hq
  have h1 : k < N := by have := (List.getElem?_eq_some_iff.mp hq).1; simpa [wdG] using this
  have h2 := hP k q hq
  rw [wdG_get h1] at hq
  cases hq
  exact h2.kept (hk k h1 h2.lt)
/-- the class's cells, the reference's cells -/
def bx (b : Nat) : Nat → Prop := fun q => b ≤ q ∧ q < b + 61
def bm (b : Nat) : Nat → Prop := fun q => b + 61 ≤ q ∧ q < b + 61 + 21
theorem bx_D {b : Nat} : wdD 61 (bx b) (xad b) := wdD_of (fun i j hi hj h => xpi_inj i hi j hj (by unfold xad at h; omega)) (fun i hi => ⟨Nat.le_add_right _ _, by have := xpi_lt i hi; show b + xpi i < b + 61; omega⟩)
theorem bm_D {b : Nat} : wdD 21 (bm b) (gad (b + 61)) := wdD_of (fun i j _ _ h => by unfold gad at h; omega) (fun i hi => ⟨Nat.le_add_right _ _, by show b + 61 + i < b + 61 + 21; omega⟩)
def LX (p : Program) (l : Launch) (s : State) (m : MethodId) (c : Code) (b L : Nat) (xs : Nat → Int32) (Dx Dm : va_G) (cA cB : Nat → ClassId) (bX : Nat) : Prop :=
  p.tables.exec = Jvm.exec ∧ c.code = code ∧ c.maxLocals = 8 ∧ s.vm.findClass "DrawnPathsLaw" = some m.cls ∧ (∀ w ∈ lw_wd, w.before #[Value.ref b] s = true) ∧ va_X b L xs s s.heap ∧ b < s.heap.size ∧ va_K Dx vwCl (xtys cA) s ∧ va_K Dm mvCl (mtys cB) s ∧ NW s ∧ TW s ∧ NC s ∧ l.flags = flags0 ∧ s.heap.size ≤ bX ∧ L ≤ 3072
def lA (s : State) : Nat → Prop := fun q => s.heap.size ≤ q
def LY (s : State) (Dx Dm : va_G) (cA cB : Nat → ClassId) (bX : Nat) (h : XH) (g : MH) (f : Nat → Int64) (H : Heap) (locs : List Loc) : Prop :=
  va_P Dx vwCl (xW cA (xad bX) h) H ∧ va_P Dm mvCl (mW cB (gad (bX + 61)) g) H ∧ va_P Dx vwCl (oW cA (bX + 82) f) H ∧ va_S (lA s) s.heap H locs
theorem lg_self (x : Int64) : lg_cmp x x = 0 := by
  unfold lg_cmp
  simp
section LAW
variable {p : Program} {l : Launch} {e : Env} {R : Room} {s : State} {m : MethodId} {args : Array Value} {below : List Frame} {meth : Method} {c : Code} {H : Heap} {locs : List Loc} {cells slots : Nat} {Q : State → Prop}
variable {D : va_G} {cA : Nat → ClassId} {ad : Nat → Nat} {A B : Nat → Prop} {H0 : Heap} {pc : Nat} {ls : Array Slot} {st0 rest : List Value} {cc : ByteArray} {o : Nat} {f' : Nat → Int64} {h' : XH} {k : Int32} {mc ms : Nat}
theorem kl_H {a : Array Value} (hr : va_Run p l e R s m args below meth c H locs cells slots mc ms (F0 m pc ls st0) rest (HQ D cA ad B o k f' h' a) (fun q => B q ∨ q = o)) (hBA : ∀ q, (B q ∨ q = o) → A q) (hS : va_S A H0 H locs)
    (kk : ∀ (H1 : Heap) (locs1 : List Loc), va_P D vwCl (xW cA ad h') H1 → va_P D vwCl (oW cA o f') H1 → (∀ q, q < H.size → ¬ (B q ∨ q = o) → H1[q]? = H[q]?) → va_S A H0 H1 locs1 → W p l e R s m args below meth c H1 locs1 (cells + mc) (slots + ms) Q (F0 m (pc + 3) ls (.int k :: rest))) : W p l e R s m args below meth c H locs cells slots Q (F0 m pc ls st0) := by
  intro T hT X
  obtain ⟨w, st₀, t, T', L, h0, X', hL, e1, e2, ⟨hv, hP1, hO1, hz, hk⟩, st⟩ := hr T hT X
  cases hv
  rw [h0] at hz hk
  obtain ⟨t2, a1, b1⟩ := kk T'.heap (locs ++ L) (by rw [e1]; exact hP1) (by rw [e1]; exact hO1) (fun q h1 h2 => by rw [e1]; exact hk q h1 h2)
    ⟨Nat.le_trans hS.1 (by rw [e1]; exact hz), fun q h1 h2 => by rw [e1, hk q (Nat.lt_of_lt_of_le h1 hS.1) (fun h => h2 (hBA q h))]; exact hS.2.1 q h1 h2, fun q hq => by
      rcases List.mem_append.mp hq with h | h
      · exact hS.2.2 q h
      · exact hBA _ (hL q h)⟩ T' rfl X'
  exact ⟨t2, st t2 a1, b1⟩
end LAW
section LAW2
variable {p : Program} {l : Launch} {e : Env} {s : State} {m : MethodId} {below : List Frame} {meth : Method} {c : Code} {H : Heap} {locs : List Loc} {cells slots : Nat} {Q : State → Prop}
variable {b L : Nat} {xs : Nat → Int32} {Dx Dm : va_G} {cA cB : Nat → ClassId} {bX : Nat} {pc : Nat} {ls : Array Slot} {rest : List Value} {h : XH} {g : MH} {f : Nat → Int64}
/-- an int of the script -/
theorem ks_ld (X : LX p l s m c b L xs Dx Dm cA cB bX) (Y : LY s Dx Dm cA cB bX h g f H locs) {i : Int32} {n : Nat} (hi : i = nI n) (hn : n < L) (hdg : decode code pc = .ok (.iaload, 1))
    (kk : W p l e room_1 s m #[Value.ref b] below meth c H locs cells slots Q (F0 m (pc + 1) ls (.int (xs n) :: rest))) : W p l e room_1 s m #[Value.ref b] below meth c H locs cells slots Q (F0 m pc ls (.int i :: .ref b :: rest)) := by
  obtain ⟨hx, hb, -, -, -, hX, hbl, -, -, -, -, -, -, -, hL⟩ := X
  subst hi
  refine va_sld (A := lA s) hx hb hX hbl (fun h => by unfold lA at h; omega) Y.2.2.2 (i := nI n) (vp_in_nI hn (by omega)) hdg ?_
  rw [nI_clamp (by omega)]
  exact kk
end LAW2

theorem kl_bool {p : Program} {l : Launch} {e : Env} {R : Room} {s : State} {m : MethodId} {args : Array Value} {below : List Frame} {meth : Method} {c : Code} {H : Heap} {locs : List Loc} {cells slots : Nat} {Q : State → Prop} {cc : ByteArray} {pc t1 t2 : Nat} {o1 o2 : Int} {ls : Array Slot} {rest : List Value} {x : Int32} (hx : p.tables.exec = Jvm.exec) (hb : c.code = cc) (d0 : decode cc pc = .ok (.ifCond .eq o1, 3)) (d1 : decode cc (pc + 3) = .ok (.iconst 1, 1)) (d2 : decode cc (pc + 3 + 1) = .ok (.goto o2, 3)) (d3 : decode cc t1 = .ok (.iconst 0, 1)) (e1 : (pc : Int) + o1 = (t1 : Int)) (e2 : ((pc + 3 + 1 : Nat) : Int) + o2 = (t2 : Int)) (e3 : t1 + 1 = t2)
    (kk : W p l e R s m args below meth c H locs cells slots Q (F0 m t2 ls (.int (if x = 0 then (0 : Int32) else 1) :: rest))) : W p l e R s m args below meth c H locs cells slots Q (F0 m pc ls (.int x :: rest)) := by
  refine lv_if_eq hx hb d0 e1 (fun hc => ?_) (fun hc => ?_)
  · rw [if_pos hc] at kk
    refine lv_iconst (v := 0) hx hb d3 (by decide) ?_
    rw [e3]
    exact kk
  · rw [if_neg hc] at kk
    refine lv_iconst (v := 1) hx hb d1 (by decide) ?_
    exact lv_goto hx hb d2 e2 kk
def OK_put (Rel : XH → MH → Prop) : Prop := ∀ (h : XH) (g : MH), Rel h g → ∀ (v0 : Int32) (v1 : Int32) (v2 : Int32), ∃ (fx fm : Nat) (r : Int32 × MH), mf_M_put fm v0 v1 ((v2.toUInt32 % 65536).toInt32) g = some (r) ∧ ((∃ q : Int32 × XH, xf_P_put fx v0 v1 ((v2.toUInt32 % 65536).toInt32) h = some (Sum.inr q) ∧ mh_vfault (r.2) = 0 ∧ q.1 = r.1 ∧ Rel (q.2) (r.2)) ∨ (xf_P_put fx v0 v1 ((v2.toUInt32 % 65536).toInt32) h = some (Sum.inl 1) ∧ mh_vfault (r.2) = 1 ∧ Rel h (r.2)) ∨ (xf_P_put fx v0 v1 ((v2.toUInt32 % 65536).toInt32) h = some (Sum.inl 2) ∧ mh_vfault (r.2) = 2 ∧ Rel h (r.2)))
def OK_sign (Rel : XH → MH → Prop) : Prop := ∀ (h : XH) (g : MH), Rel h g → ∀ (v0 : Int32) (v1 : Int32), ∃ (fx fm : Nat) (r : Int32 × MH), mf_M_sign v0 v1 g = some (r) ∧ ((∃ q : Int32, xf_P_sign v0 v1 h = some (Sum.inr q) ∧ mh_vfault (r.2) = 0 ∧ q = r.1 ∧ Rel (h) (r.2)) ∨ (xf_P_sign v0 v1 h = some (Sum.inl 1) ∧ mh_vfault (r.2) = 1 ∧ Rel h (r.2)))
def OK_type (Rel : XH → MH → Prop) : Prop := ∀ (h : XH) (g : MH), Rel h g → ∀ (v0 : Int32), ∃ (fx fm : Nat) (r : Int32 × MH) (q : Int32 × XH), mf_M_type ((v0.toUInt32 % 65536).toInt32) g = some (r) ∧ xf_P_type ((v0.toUInt32 % 65536).toInt32) h = some (q) ∧ q.1 = r.1 ∧ Rel (q.2) (r.2)
def OK_lay (Rel : XH → MH → Prop) : Prop := ∀ (h : XH) (g : MH), Rel h g → ∀ (v0 : Int32), ∃ (fx fm : Nat) (r : Int32 × MH), mf_M_lay fm v0 g = some (r) ∧ ((∃ q : Int32 × XH, xf_P_lay fx v0 h = some (Sum.inr q) ∧ mh_vfault (r.2) = 0 ∧ q.1 = r.1 ∧ Rel (q.2) (r.2)) ∨ (xf_P_lay fx v0 h = some (Sum.inl 1) ∧ mh_vfault (r.2) = 1 ∧ Rel h (r.2)))
def OK_input (Rel : XH → MH → Prop) : Prop := ∀ (h : XH) (g : MH), Rel h g → ∀ (v0 : Int64), ∃ (fx fm : Nat) (r : Int32 × MH), mf_M_input v0 g = some (r) ∧ ((∃ q : Int32 × XH, xf_P_input v0 h = some (Sum.inr q) ∧ mh_vfault (r.2) = 0 ∧ q.1 = r.1 ∧ Rel (q.2) (r.2)) ∨ (xf_P_input v0 h = some (Sum.inl 3) ∧ mh_vfault (r.2) = 1 ∧ Rel h (r.2)))
def OK_clear (Rel : XH → MH → Prop) : Prop := ∀ (h : XH) (g : MH), Rel h g → ∃ (fx fm : Nat) (r : MH) (q : XH), mf_M_clear fm g = some (r) ∧ xf_P_clear fx h = some (q) ∧ Rel (q) (r)
def OK_start (Rel : XH → MH → Prop) : Prop := ∀ (h : XH) (g : MH), Rel h g → ∃ (fx fm : Nat) (r : MH) (q : XH), mf_M_start g = some (r) ∧ xf_P_start h = some (q) ∧ Rel (q) (r)
def OK_step (Rel : XH → MH → Prop) : Prop := ∀ (h : XH) (g : MH), Rel h g → ∀ (v0 : Int32), ∃ (fx fm : Nat) (r : Int32 × MH), mf_M_step fm v0 g = some (r) ∧ ((∃ q : Int32 × XH, xf_P_step fx v0 h = some (Sum.inr q) ∧ mh_vfault (r.2) = 0 ∧ q.1 = r.1 ∧ Rel (q.2) (r.2)) ∨ (xf_P_step fx v0 h = some (Sum.inl 2) ∧ mh_vfault (r.2) = 1 ∧ Rel h (r.2)))
def OK_fast (Rel : XH → MH → Prop) : Prop := ∀ (h : XH) (g : MH), Rel h g → ∀ (v0 : Int32), ∃ (fx fm : Nat) (r : Int32 × MH), mf_M_fast fm v0 g = some (r) ∧ ((∃ q : Int32 × XH, xf_P_fast fx v0 h = some (Sum.inr q) ∧ mh_vfault (r.2) = 0 ∧ q.1 = r.1 ∧ Rel (q.2) (r.2)) ∨ (xf_P_fast fx v0 h = some (Sum.inl 2) ∧ mh_vfault (r.2) = 1 ∧ Rel h (r.2)))
def OK_pointer (Rel : XH → MH → Prop) : Prop := ∀ (h : XH) (g : MH), Rel h g → ∀ (v0 : Int32) (v1 : Int32), ∃ (fx fm : Nat) (r : Int32 × MH), mf_M_pointer v0 v1 g = some (r) ∧ ((∃ q : Int32, xf_P_pointer v0 v1 h = some (Sum.inr q) ∧ mh_vfault (r.2) = 0 ∧ q = r.1 ∧ Rel (h) (r.2)) ∨ (xf_P_pointer v0 v1 h = some (Sum.inl 1) ∧ mh_vfault (r.2) = 1 ∧ Rel h (r.2)) ∨ (xf_P_pointer v0 v1 h = some (Sum.inl 2) ∧ mh_vfault (r.2) = 2 ∧ Rel h (r.2)))
def OK_value (Rel : XH → MH → Prop) : Prop := ∀ (h : XH) (g : MH), Rel h g → ∀ (v0 : Int32) (v1 : Int32), ∃ (fx fm : Nat) (r : Int64 × MH), mf_M_value v0 v1 g = some (r) ∧ ((∃ q : Int64, xf_P_value v0 v1 h = some (Sum.inr q) ∧ mh_vfault (r.2) = 0 ∧ q = r.1 ∧ Rel (h) (r.2)) ∨ (xf_P_value v0 v1 h = some (Sum.inl 1) ∧ mh_vfault (r.2) = 1 ∧ Rel h (r.2)))
def OK_count (Rel : XH → MH → Prop) : Prop := ∀ (h : XH) (g : MH), Rel h g → ∀ (v0 : Int32), ∃ (fx fm : Nat) (r : Int32 × MH) (q : Int32 × XH), mf_M_count fm v0 g = some (r) ∧ xf_P_count fx v0 h = some (q) ∧ q.1 = r.1 ∧ Rel (q.2) (r.2)
def OK_covers (Rel : XH → MH → Prop) : Prop := ∀ (h : XH) (g : MH), Rel h g → ∀ (v0 : Int32) (v1 : Int32), ∃ (fx fm : Nat) (r : Int32 × MH), mf_M_covers fm v0 v1 g = some (r) ∧ ((∃ q : Int32, xf_P_covers fx v0 v1 h = some (Sum.inr q) ∧ mh_vfault (r.2) = 0 ∧ q = r.1 ∧ Rel (h) (r.2)) ∨ (xf_P_covers fx v0 v1 h = some (Sum.inl 1) ∧ mh_vfault (r.2) = 1 ∧ Rel h (r.2)))
def OK_block (Rel : XH → MH → Prop) : Prop := ∀ (h : XH) (g : MH), Rel h g → ∀ (v0 : Int32) (v1 : Int32) (v2 : Int32) (v3 : Int32) (v4 : Int32), ∃ (fx fm : Nat) (r : Int32 × MH), mf_M_block fm v0 v1 v2 (if v3 = 0 then (0 : Int32) else 1) v4 g = some (r) ∧ ((∃ q : Int32, xf_P_block fx v0 v1 v2 (if v3 = 0 then (0 : Int32) else 1) v4 h = some (Sum.inr q) ∧ mh_vfault (r.2) = 0 ∧ q = r.1 ∧ Rel (h) (r.2)) ∨ (xf_P_block fx v0 v1 v2 (if v3 = 0 then (0 : Int32) else 1) v4 h = some (Sum.inl 1) ∧ mh_vfault (r.2) = 1 ∧ Rel h (r.2)) ∨ (xf_P_block fx v0 v1 v2 (if v3 = 0 then (0 : Int32) else 1) v4 h = some (Sum.inl 2) ∧ mh_vfault (r.2) = 2 ∧ Rel h (r.2)))
def OK_lost (Rel : XH → MH → Prop) : Prop := ∀ (h : XH) (g : MH), Rel h g → ∀ (v0 : Int32) (v1 : Int32), ∃ (fx fm : Nat) (r : Int32 × MH), mf_M_lost fm v0 v1 g = some (r) ∧ ((∃ q : Int32 × XH, xf_P_lost fx v0 v1 h = some (Sum.inr q) ∧ mh_vfault (r.2) = 0 ∧ (q.1 = 0 ↔ r.1 = 0) ∧ Rel (q.2) (r.2)) ∨ (xf_P_lost fx v0 v1 h = some (Sum.inl 1) ∧ mh_vfault (r.2) = 1 ∧ Rel h (r.2)))
def OK_output (Rel : XH → MH → Prop) : Prop := ∀ (h : XH) (g : MH), Rel h g → ∃ (fx fm : Nat) (r : Int32 × MH) (q : Int32 × XH), mf_M_output fm g = some (r) ∧ xf_P_output h = some (q) ∧ q.1 = r.1 ∧ Rel (q.2) (r.2)
def OK_length (Rel : XH → MH → Prop) : Prop := ∀ (h : XH) (g : MH), Rel h g → ∃ (fx fm : Nat) (r : Int32 × MH) (q : Int32), mf_M_length g = r ∧ xf_P_length h = q ∧ q = r.1 ∧ Rel (h) (r.2)
def OK_charAt (Rel : XH → MH → Prop) : Prop := ∀ (h : XH) (g : MH), Rel h g → ∀ (v0 : Int32), ∃ (fx fm : Nat) (r : Int32 × MH) (q : Int32), mf_M_charAt v0 g = some (r) ∧ xf_P_charAt v0 h = some (q) ∧ q = r.1 ∧ Rel (h) (r.2)
set_option maxHeartbeats 4000000 in
set_option maxRecDepth 100000 in
theorem lc_put {p : Program} {l : Launch} {e : Env} {s : State} {m : MethodId} {below : List Frame} {meth : Method} {c : Code} {Q : State → Prop} {b L : Nat} {xs : Nat → Int32} {Dx Dm : va_G} {cA cB : Nat → ClassId} {bX : Nat} (X : LX p l s m c b L xs Dx Dm cA cB bX) {Rel : XH → MH → Prop} (hOK : OK_put Rel) {H : Heap} {locs : List Loc} {cells slots j : Nat} {ls : Array Slot} {h : XH} {g : MH} {f : Nat → Int64} (Y : LY s Dx Dm cA cB bX h g f H locs) (hR : Rel h g) (hj : 6 * j + 6 ≤ L) (hcs : cells + 1 ≤ room_1.cells ∧ slots + 6 ≤ room_1.slots) (hl : lv_has ls 8 [(4, .int (nI (6 * j))), (3, .ref (bX + 82)), (2, .ref (gad (bX + 61) 0)), (1, .ref (xad bX 0)), (0, .ref b)])
    (kk : ∀ (H : Heap) (locs : List Loc) (ls : Array Slot) (h : XH) (g : MH) (f : Nat → Int64), LY s Dx Dm cA cB bX h g f H locs → Rel h g → lv_has ls 8 [(4, .int (nI (6 * j))), (3, .ref (bX + 82)), (2, .ref (gad (bX + 61) 0)), (1, .ref (xad bX 0)), (0, .ref b)] → W p l e room_1 s m #[Value.ref b] below meth c H locs (cells + 1) (slots + 6) Q (F0 m 1057 ls [])) : W p l e room_1 s m #[Value.ref b] below meth c H locs cells slots Q (F0 m 128 ls []) := by
  have X0 := X
  obtain ⟨hx, hb, hml, hown, hts, hX, hbl, hKx, hKm, hN, hTW, hNC, hfl, hbX, hL⟩ := X0
  obtain ⟨hPx, hPm, hO, hS⟩ := Y
  have Y : LY s Dx Dm cA cB bX h g f H locs := ⟨hPx, hPm, hO, hS⟩
  obtain ⟨fx, fm, r, hr, hall⟩ := hOK h g hR ((xs (6 * j + 1))) ((xs (6 * j + 2))) ((xs (6 * j + 3)))
  refine lv_aload_n hx hb nd_Law_law_128 rfl (lv_at hl 3 rfl) ?_
  refine lv_aload_n hx hb nd_Law_law_129 rfl (lv_at hl 4 rfl) ?_
  refine lv_iload hx hb nd_Law_law_130 (lv_at hl 0 rfl) ?_
  refine lv_iconst (v := 1) hx hb nd_Law_law_132 (by decide) ?_
  refine lv_iadd hx hb nd_Law_law_133 ?_
  refine ks_ld X Y (n := 6 * j + 1) (by rw [show (1 : Int32) = nI 1 from rfl, nI_add]) (by omega) nd_Law_law_134 ?_
  refine lv_aload_n hx hb nd_Law_law_135 rfl (lv_at hl 4 rfl) ?_
  refine lv_iload hx hb nd_Law_law_136 (lv_at hl 0 rfl) ?_
  refine lv_iconst (v := 2) hx hb nd_Law_law_138 (by decide) ?_
  refine lv_iadd hx hb nd_Law_law_139 ?_
  refine ks_ld X Y (n := 6 * j + 2) (by rw [show (2 : Int32) = nI 2 from rfl, nI_add]) (by omega) nd_Law_law_140 ?_
  refine lv_aload_n hx hb nd_Law_law_141 rfl (lv_at hl 4 rfl) ?_
  refine lv_iload hx hb nd_Law_law_142 (lv_at hl 0 rfl) ?_
  refine lv_iconst (v := 3) hx hb nd_Law_law_144 (by decide) ?_
  refine lv_iadd hx hb nd_Law_law_145 ?_
  refine ks_ld X Y (n := 6 * j + 3) (by rw [show (3 : Int32) = nI 3 from rfl, nI_add]) (by omega) nd_Law_law_146 ?_
  refine lv_i2c hx hb nd_Law_law_147 rfl ?_
  refine lv_aload_n hx hb nd_Law_law_148 rfl (lv_at hl 1 rfl) ?_
  rcases hall with ⟨q, hq, hft, heq, hRel⟩ | ⟨hq, hft, hRel⟩ | ⟨hq, hft, hRel⟩
  · refine kl_H (kw_S (hh := [(0, 12, 15, 13), (0, 12, 19, 15)]) (As := [.ref (xad bX 0), .int (xs (6 * j + 1)), .int (xs (6 * j + 2)), .int ((((xs (6 * j + 3))).toUInt32 % 65536).toInt32), .ref (bX + 82)]) (rest := []) ⟨hx, hb, hml, hown, hts⟩ (lr_put bx_D (fun h9 => by have h6 : bX + 82 < bX + 61 := h9.2; omega) fx (xs (6 * j + 1)) (xs (6 * j + 2)) ((((xs (6 * j + 3))).toUInt32 % 65536).toInt32) f h q hq) rfl rfl (Nat.le_of_ble_eq_true rfl) (Nat.le_of_ble_eq_true rfl) (pay_in hts (wsH_good nw_353)) List.mem_cons_self (hts _ nw_353) (hts _ nw_0) ⟨by decide, by decide⟩ (n := 5) (by decide +kernel) (hts _ nw_351) (hts _ nw_352) ⟨HP_blind, fun U hU hW => ⟨rfl, by rw [hU]; exact hPx, by rw [hU]; exact hO, va_K.moved hW.alike hKx, NW.warm hW hN, TW.kept hW (fun q9 h9 => by rw [hU]; exact hS.2.1 q9 h9 (fun h8 => by unfold lA at h8; omega)) hTW, NC.moved hW.alike hNC⟩⟩ rfl hl.1 rfl (Nat.le_of_ble_eq_true rfl) nd_Law_law_149 ⟨by show _ ≤ room_1.cells; omega, by show _ ≤ room_1.slots; omega⟩) (fun q9 h9 => by unfold lA; exact h9.elim (fun h8 => by have := h8.1; omega) (fun h8 => by omega)) hS (fun H locs hPx hO h5 hS => ?_)
    have hPm := wdG_kept hPm (H1 := H) (fun i hi hlt => h5 _ hlt (fun hb9 => by have e9 : gad (bX + 61) i = bX + 61 + i := rfl; rw [e9] at hb9; exact hb9.elim (fun h8 => by have h6 : bX + 61 + i < bX + 61 := h8.2; omega) (fun h8 => by omega)))
    have Y : LY s Dx Dm cA cB bX (q.2) g (va_up f 0 (q.1).toInt64) H locs := ⟨hPx, hPm, hO, hS⟩
    refine lv_istore (lv' := [(5, .int 0), (4, .int (nI (6 * j))), (3, .ref (bX + 82)), (2, .ref (gad (bX + 61) 0)), (1, .ref (xad bX 0)), (0, .ref b)]) hx hb nd_Law_law_152 hl (by decide) rfl (fun ls hl => ?_)
    refine lv_aload_n hx hb nd_Law_law_154 rfl (lv_at hl 3 rfl) ?_
    refine lv_aload_n hx hb nd_Law_law_155 rfl (lv_at hl 5 rfl) ?_
    refine lv_iload hx hb nd_Law_law_156 (lv_at hl 1 rfl) ?_
    refine lv_iconst (v := 1) hx hb nd_Law_law_158 (by decide) ?_
    refine lv_iadd hx hb nd_Law_law_159 ?_
    refine ks_ld X Y (n := 6 * j + 1) (by rw [show (1 : Int32) = nI 1 from rfl, nI_add]) (by omega) nd_Law_law_160 ?_
    refine lv_aload_n hx hb nd_Law_law_161 rfl (lv_at hl 5 rfl) ?_
    refine lv_iload hx hb nd_Law_law_162 (lv_at hl 1 rfl) ?_
    refine lv_iconst (v := 2) hx hb nd_Law_law_164 (by decide) ?_
    refine lv_iadd hx hb nd_Law_law_165 ?_
    refine ks_ld X Y (n := 6 * j + 2) (by rw [show (2 : Int32) = nI 2 from rfl, nI_add]) (by omega) nd_Law_law_166 ?_
    refine lv_aload_n hx hb nd_Law_law_167 rfl (lv_at hl 5 rfl) ?_
    refine lv_iload hx hb nd_Law_law_168 (lv_at hl 1 rfl) ?_
    refine lv_iconst (v := 3) hx hb nd_Law_law_170 (by decide) ?_
    refine lv_iadd hx hb nd_Law_law_171 ?_
    refine ks_ld X Y (n := 6 * j + 3) (by rw [show (3 : Int32) = nI 3 from rfl, nI_add]) (by omega) nd_Law_law_172 ?_
    refine lv_i2c hx hb nd_Law_law_173 rfl ?_
    refine kf_V (As := [.int (xs (6 * j + 1)), .int (xs (6 * j + 2)), .int ((((xs (6 * j + 3))).toUInt32 % 65536).toInt32)]) (rest := []) (st1 := [.int (r.1)]) ⟨hx, hb, hml, hown, hts⟩ (mc_M_put (bm_D (b := bX)) fm (xs (6 * j + 1)) (xs (6 * j + 2)) ((((xs (6 * j + 3))).toUInt32 % 65536).toInt32) g r hr) (kb_M_put hts (hts _ nw_810) ⟨Nat.le_of_ble_eq_true rfl, Nat.le_of_ble_eq_true rfl⟩) (mr_M hKm hPm) (fun q9 h9 => by unfold lA; have := h9.1; omega) hKm hN hPm hS rfl hl.1 rfl rfl (Nat.le_of_ble_eq_true rfl) ⟨by show _ ≤ room_1.cells; omega, by show _ ≤ room_1.slots; omega⟩ nd_Law_law_174 (fun H locs hPm h5 hS => ?_)
    have hPx := wdG_kept hPx (H1 := H) (fun i hi hlt => h5 _ hlt (fun hb9 => by have := xpi_lt i hi; have h6 : bX + 61 ≤ bX + xpi i := hb9.1; omega))
    have hO := oW_kept hO (H1 := H) (fun q9 g1 g2 => h5 q9 g1 (fun hb9 => by have h6 : q9 < bX + 61 + 21 := hb9.2; omega))
    have Y : LY s Dx Dm cA cB bX (q.2) (r.2) (va_up f 0 (q.1).toInt64) H locs := ⟨hPx, hPm, hO, hS⟩
    refine lv_istore (lv' := [(6, .int (r.1)), (5, .int 0), (4, .int (nI (6 * j))), (3, .ref (bX + 82)), (2, .ref (gad (bX + 61) 0)), (1, .ref (xad bX 0)), (0, .ref b)]) hx hb nd_Law_law_177 hl (by decide) rfl (fun ls hl => ?_)
    refine lv_aload_n hx hb nd_Law_law_179 rfl (lv_at hl 4 rfl) ?_
    refine kf_V (As := []) (rest := []) (st1 := [.int (mh_vfault (r.2))]) ⟨hx, hb, hml, hown, hts⟩ (mc_M_thrown (bm_D (b := bX)) (r.2) (mh_vfault (r.2)) rfl) (kb_M_thrown hts (hts _ nw_806) ⟨Nat.le_of_ble_eq_true rfl, Nat.le_of_ble_eq_true rfl⟩) (mr_M hKm hPm) (fun q9 h9 => by unfold lA; have := h9.1; omega) hKm hN hPm hS rfl hl.1 rfl rfl (Nat.le_of_ble_eq_true rfl) ⟨by show _ ≤ room_1.cells; omega, by show _ ≤ room_1.slots; omega⟩ nd_Law_law_180 (fun H locs hPm h5 hS => ?_)
    have hPx := wdG_kept hPx (H1 := H) (fun i hi hlt => h5 _ hlt (fun hb9 => by have := xpi_lt i hi; have h6 : bX + 61 ≤ bX + xpi i := hb9.1; omega))
    have hO := oW_kept hO (H1 := H) (fun q9 g1 g2 => h5 q9 g1 (fun hb9 => by have h6 : q9 < bX + 61 + 21 := hb9.2; omega))
    have Y : LY s Dx Dm cA cB bX (q.2) (r.2) (va_up f 0 (q.1).toInt64) H locs := ⟨hPx, hPm, hO, hS⟩
    refine lv_iload hx hb nd_Law_law_183 (lv_at hl 1 rfl) ?_
    refine lv_icmp_eq (tgt := 190) hx hb nd_Law_law_185 rfl (fun _ => ?_) (fun hc => absurd hft hc)
    refine lv_iload hx hb nd_Law_law_190 (lv_at hl 1 rfl) ?_
    refine lv_if_ne (tgt := 207) hx hb nd_Law_law_192 rfl (fun hc => absurd rfl hc) (fun _ => ?_)
    refine lv_aload_n hx hb nd_Law_law_195 rfl (lv_at hl 3 rfl) ?_
    refine lv_iconst (v := 0) hx hb nd_Law_law_196 (by decide) ?_
    refine va_lald (f := (va_up f 0 (q.1).toInt64)) hx hb hKx hO 0 2 rfl rfl (i := 0) (show vp_in 0 1 by unfold vp_in; decide) nd_Law_law_197 ?_
    rw [show (va_up f 0 (q.1).toInt64) ((0 : Int32).toNatClampNeg) = (q.1).toInt64 from up_eq]
    refine lv_iload hx hb nd_Law_law_198 (lv_at hl 0 rfl) ?_
    refine lv_i2l hx hb nd_Law_law_200 rfl ?_
    rw [heq]
    refine W.lcmp hx hb nd_Law_law_201 ?_
    refine lv_if_eq (tgt := 207) hx hb nd_Law_law_202 rfl (fun _ => ?_) (fun hc => absurd (lg_self _) hc)
    refine lv_goto hx hb nd_Law_law_207 (tgt := 1057) rfl ?_
    refine W.widen (k := cells + 1) (n := slots + 6) (by omega) (by omega) ?_
    exact kk H locs ls (q.2) (r.2) (va_up f 0 (q.1).toInt64) ⟨hPx, hPm, hO, hS⟩ hRel (lv_sub hl [2, 3, 4, 5, 6] rfl)
  · refine kl_H (kw_S (hh := [(0, 12, 15, 13), (0, 12, 19, 15)]) (As := [.ref (xad bX 0), .int (xs (6 * j + 1)), .int (xs (6 * j + 2)), .int ((((xs (6 * j + 3))).toUInt32 % 65536).toInt32), .ref (bX + 82)]) (rest := []) ⟨hx, hb, hml, hown, hts⟩ (lt_put_1 (B := bx bX) hfl fx (xs (6 * j + 1)) (xs (6 * j + 2)) ((((xs (6 * j + 3))).toUInt32 % 65536).toInt32) f h hq) rfl rfl (Nat.le_of_ble_eq_true rfl) (Nat.le_of_ble_eq_true rfl) (pay_in hts (wsH_good nw_353)) List.mem_cons_self (hts _ nw_353) (hts _ nw_0) ⟨by decide, by decide⟩ (n := 5) (by decide +kernel) (hts _ nw_351) (hts _ nw_352) ⟨HP_blind, fun U hU hW => ⟨rfl, by rw [hU]; exact hPx, by rw [hU]; exact hO, va_K.moved hW.alike hKx, NW.warm hW hN, TW.kept hW (fun q9 h9 => by rw [hU]; exact hS.2.1 q9 h9 (fun h8 => by unfold lA at h8; omega)) hTW, NC.moved hW.alike hNC⟩⟩ rfl hl.1 rfl (Nat.le_of_ble_eq_true rfl) nd_Law_law_149 ⟨by show _ ≤ room_1.cells; omega, by show _ ≤ room_1.slots; omega⟩) (fun q9 h9 => by unfold lA; exact h9.elim (fun h8 => by have := h8.1; omega) (fun h8 => by omega)) hS (fun H locs hPx hO h5 hS => ?_)
    have hPm := wdG_kept hPm (H1 := H) (fun i hi hlt => h5 _ hlt (fun hb9 => by have e9 : gad (bX + 61) i = bX + 61 + i := rfl; rw [e9] at hb9; exact hb9.elim (fun h8 => by have h6 : bX + 61 + i < bX + 61 := h8.2; omega) (fun h8 => by omega)))
    have Y : LY s Dx Dm cA cB bX (h) g f H locs := ⟨hPx, hPm, hO, hS⟩
    refine lv_istore (lv' := [(5, .int 1), (4, .int (nI (6 * j))), (3, .ref (bX + 82)), (2, .ref (gad (bX + 61) 0)), (1, .ref (xad bX 0)), (0, .ref b)]) hx hb nd_Law_law_152 hl (by decide) rfl (fun ls hl => ?_)
    refine lv_aload_n hx hb nd_Law_law_154 rfl (lv_at hl 3 rfl) ?_
    refine lv_aload_n hx hb nd_Law_law_155 rfl (lv_at hl 5 rfl) ?_
    refine lv_iload hx hb nd_Law_law_156 (lv_at hl 1 rfl) ?_
    refine lv_iconst (v := 1) hx hb nd_Law_law_158 (by decide) ?_
    refine lv_iadd hx hb nd_Law_law_159 ?_
    refine ks_ld X Y (n := 6 * j + 1) (by rw [show (1 : Int32) = nI 1 from rfl, nI_add]) (by omega) nd_Law_law_160 ?_
    refine lv_aload_n hx hb nd_Law_law_161 rfl (lv_at hl 5 rfl) ?_
    refine lv_iload hx hb nd_Law_law_162 (lv_at hl 1 rfl) ?_
    refine lv_iconst (v := 2) hx hb nd_Law_law_164 (by decide) ?_
    refine lv_iadd hx hb nd_Law_law_165 ?_
    refine ks_ld X Y (n := 6 * j + 2) (by rw [show (2 : Int32) = nI 2 from rfl, nI_add]) (by omega) nd_Law_law_166 ?_
    refine lv_aload_n hx hb nd_Law_law_167 rfl (lv_at hl 5 rfl) ?_
    refine lv_iload hx hb nd_Law_law_168 (lv_at hl 1 rfl) ?_
    refine lv_iconst (v := 3) hx hb nd_Law_law_170 (by decide) ?_
    refine lv_iadd hx hb nd_Law_law_171 ?_
    refine ks_ld X Y (n := 6 * j + 3) (by rw [show (3 : Int32) = nI 3 from rfl, nI_add]) (by omega) nd_Law_law_172 ?_
    refine lv_i2c hx hb nd_Law_law_173 rfl ?_
    refine kf_V (As := [.int (xs (6 * j + 1)), .int (xs (6 * j + 2)), .int ((((xs (6 * j + 3))).toUInt32 % 65536).toInt32)]) (rest := []) (st1 := [.int (r.1)]) ⟨hx, hb, hml, hown, hts⟩ (mc_M_put (bm_D (b := bX)) fm (xs (6 * j + 1)) (xs (6 * j + 2)) ((((xs (6 * j + 3))).toUInt32 % 65536).toInt32) g r hr) (kb_M_put hts (hts _ nw_810) ⟨Nat.le_of_ble_eq_true rfl, Nat.le_of_ble_eq_true rfl⟩) (mr_M hKm hPm) (fun q9 h9 => by unfold lA; have := h9.1; omega) hKm hN hPm hS rfl hl.1 rfl rfl (Nat.le_of_ble_eq_true rfl) ⟨by show _ ≤ room_1.cells; omega, by show _ ≤ room_1.slots; omega⟩ nd_Law_law_174 (fun H locs hPm h5 hS => ?_)
    have hPx := wdG_kept hPx (H1 := H) (fun i hi hlt => h5 _ hlt (fun hb9 => by have := xpi_lt i hi; have h6 : bX + 61 ≤ bX + xpi i := hb9.1; omega))
    have hO := oW_kept hO (H1 := H) (fun q9 g1 g2 => h5 q9 g1 (fun hb9 => by have h6 : q9 < bX + 61 + 21 := hb9.2; omega))
    have Y : LY s Dx Dm cA cB bX (h) (r.2) f H locs := ⟨hPx, hPm, hO, hS⟩
    refine lv_istore (lv' := [(6, .int (r.1)), (5, .int 1), (4, .int (nI (6 * j))), (3, .ref (bX + 82)), (2, .ref (gad (bX + 61) 0)), (1, .ref (xad bX 0)), (0, .ref b)]) hx hb nd_Law_law_177 hl (by decide) rfl (fun ls hl => ?_)
    refine lv_aload_n hx hb nd_Law_law_179 rfl (lv_at hl 4 rfl) ?_
    refine kf_V (As := []) (rest := []) (st1 := [.int (mh_vfault (r.2))]) ⟨hx, hb, hml, hown, hts⟩ (mc_M_thrown (bm_D (b := bX)) (r.2) (mh_vfault (r.2)) rfl) (kb_M_thrown hts (hts _ nw_806) ⟨Nat.le_of_ble_eq_true rfl, Nat.le_of_ble_eq_true rfl⟩) (mr_M hKm hPm) (fun q9 h9 => by unfold lA; have := h9.1; omega) hKm hN hPm hS rfl hl.1 rfl rfl (Nat.le_of_ble_eq_true rfl) ⟨by show _ ≤ room_1.cells; omega, by show _ ≤ room_1.slots; omega⟩ nd_Law_law_180 (fun H locs hPm h5 hS => ?_)
    have hPx := wdG_kept hPx (H1 := H) (fun i hi hlt => h5 _ hlt (fun hb9 => by have := xpi_lt i hi; have h6 : bX + 61 ≤ bX + xpi i := hb9.1; omega))
    have hO := oW_kept hO (H1 := H) (fun q9 g1 g2 => h5 q9 g1 (fun hb9 => by have h6 : q9 < bX + 61 + 21 := hb9.2; omega))
    have Y : LY s Dx Dm cA cB bX (h) (r.2) f H locs := ⟨hPx, hPm, hO, hS⟩
    refine lv_iload hx hb nd_Law_law_183 (lv_at hl 1 rfl) ?_
    refine lv_icmp_eq (tgt := 190) hx hb nd_Law_law_185 rfl (fun _ => ?_) (fun hc => absurd hft hc)
    refine lv_iload hx hb nd_Law_law_190 (lv_at hl 1 rfl) ?_
    refine lv_if_ne (tgt := 207) hx hb nd_Law_law_192 rfl (fun _ => ?_) (fun hc => absurd hc (by decide))
    refine lv_goto hx hb nd_Law_law_207 (tgt := 1057) rfl ?_
    refine W.widen (k := cells + 1) (n := slots + 6) (by omega) (by omega) ?_
    exact kk H locs ls (h) (r.2) f ⟨hPx, hPm, hO, hS⟩ hRel (lv_sub hl [2, 3, 4, 5, 6] rfl)
  · refine kl_H (kw_S (hh := [(0, 12, 15, 13), (0, 12, 19, 15)]) (As := [.ref (xad bX 0), .int (xs (6 * j + 1)), .int (xs (6 * j + 2)), .int ((((xs (6 * j + 3))).toUInt32 % 65536).toInt32), .ref (bX + 82)]) (rest := []) ⟨hx, hb, hml, hown, hts⟩ (lt_put_2 (B := bx bX) hfl fx (xs (6 * j + 1)) (xs (6 * j + 2)) ((((xs (6 * j + 3))).toUInt32 % 65536).toInt32) f h hq) rfl rfl (Nat.le_of_ble_eq_true rfl) (Nat.le_of_ble_eq_true rfl) (pay_in hts (wsH_good nw_353)) List.mem_cons_self (hts _ nw_353) (hts _ nw_0) ⟨by decide, by decide⟩ (n := 5) (by decide +kernel) (hts _ nw_351) (hts _ nw_352) ⟨HP_blind, fun U hU hW => ⟨rfl, by rw [hU]; exact hPx, by rw [hU]; exact hO, va_K.moved hW.alike hKx, NW.warm hW hN, TW.kept hW (fun q9 h9 => by rw [hU]; exact hS.2.1 q9 h9 (fun h8 => by unfold lA at h8; omega)) hTW, NC.moved hW.alike hNC⟩⟩ rfl hl.1 rfl (Nat.le_of_ble_eq_true rfl) nd_Law_law_149 ⟨by show _ ≤ room_1.cells; omega, by show _ ≤ room_1.slots; omega⟩) (fun q9 h9 => by unfold lA; exact h9.elim (fun h8 => by have := h8.1; omega) (fun h8 => by omega)) hS (fun H locs hPx hO h5 hS => ?_)
    have hPm := wdG_kept hPm (H1 := H) (fun i hi hlt => h5 _ hlt (fun hb9 => by have e9 : gad (bX + 61) i = bX + 61 + i := rfl; rw [e9] at hb9; exact hb9.elim (fun h8 => by have h6 : bX + 61 + i < bX + 61 := h8.2; omega) (fun h8 => by omega)))
    have Y : LY s Dx Dm cA cB bX (h) g f H locs := ⟨hPx, hPm, hO, hS⟩
    refine lv_istore (lv' := [(5, .int 2), (4, .int (nI (6 * j))), (3, .ref (bX + 82)), (2, .ref (gad (bX + 61) 0)), (1, .ref (xad bX 0)), (0, .ref b)]) hx hb nd_Law_law_152 hl (by decide) rfl (fun ls hl => ?_)
    refine lv_aload_n hx hb nd_Law_law_154 rfl (lv_at hl 3 rfl) ?_
    refine lv_aload_n hx hb nd_Law_law_155 rfl (lv_at hl 5 rfl) ?_
    refine lv_iload hx hb nd_Law_law_156 (lv_at hl 1 rfl) ?_
    refine lv_iconst (v := 1) hx hb nd_Law_law_158 (by decide) ?_
    refine lv_iadd hx hb nd_Law_law_159 ?_
    refine ks_ld X Y (n := 6 * j + 1) (by rw [show (1 : Int32) = nI 1 from rfl, nI_add]) (by omega) nd_Law_law_160 ?_
    refine lv_aload_n hx hb nd_Law_law_161 rfl (lv_at hl 5 rfl) ?_
    refine lv_iload hx hb nd_Law_law_162 (lv_at hl 1 rfl) ?_
    refine lv_iconst (v := 2) hx hb nd_Law_law_164 (by decide) ?_
    refine lv_iadd hx hb nd_Law_law_165 ?_
    refine ks_ld X Y (n := 6 * j + 2) (by rw [show (2 : Int32) = nI 2 from rfl, nI_add]) (by omega) nd_Law_law_166 ?_
    refine lv_aload_n hx hb nd_Law_law_167 rfl (lv_at hl 5 rfl) ?_
    refine lv_iload hx hb nd_Law_law_168 (lv_at hl 1 rfl) ?_
    refine lv_iconst (v := 3) hx hb nd_Law_law_170 (by decide) ?_
    refine lv_iadd hx hb nd_Law_law_171 ?_
    refine ks_ld X Y (n := 6 * j + 3) (by rw [show (3 : Int32) = nI 3 from rfl, nI_add]) (by omega) nd_Law_law_172 ?_
    refine lv_i2c hx hb nd_Law_law_173 rfl ?_
    refine kf_V (As := [.int (xs (6 * j + 1)), .int (xs (6 * j + 2)), .int ((((xs (6 * j + 3))).toUInt32 % 65536).toInt32)]) (rest := []) (st1 := [.int (r.1)]) ⟨hx, hb, hml, hown, hts⟩ (mc_M_put (bm_D (b := bX)) fm (xs (6 * j + 1)) (xs (6 * j + 2)) ((((xs (6 * j + 3))).toUInt32 % 65536).toInt32) g r hr) (kb_M_put hts (hts _ nw_810) ⟨Nat.le_of_ble_eq_true rfl, Nat.le_of_ble_eq_true rfl⟩) (mr_M hKm hPm) (fun q9 h9 => by unfold lA; have := h9.1; omega) hKm hN hPm hS rfl hl.1 rfl rfl (Nat.le_of_ble_eq_true rfl) ⟨by show _ ≤ room_1.cells; omega, by show _ ≤ room_1.slots; omega⟩ nd_Law_law_174 (fun H locs hPm h5 hS => ?_)
    have hPx := wdG_kept hPx (H1 := H) (fun i hi hlt => h5 _ hlt (fun hb9 => by have := xpi_lt i hi; have h6 : bX + 61 ≤ bX + xpi i := hb9.1; omega))
    have hO := oW_kept hO (H1 := H) (fun q9 g1 g2 => h5 q9 g1 (fun hb9 => by have h6 : q9 < bX + 61 + 21 := hb9.2; omega))
    have Y : LY s Dx Dm cA cB bX (h) (r.2) f H locs := ⟨hPx, hPm, hO, hS⟩
    refine lv_istore (lv' := [(6, .int (r.1)), (5, .int 2), (4, .int (nI (6 * j))), (3, .ref (bX + 82)), (2, .ref (gad (bX + 61) 0)), (1, .ref (xad bX 0)), (0, .ref b)]) hx hb nd_Law_law_177 hl (by decide) rfl (fun ls hl => ?_)
    refine lv_aload_n hx hb nd_Law_law_179 rfl (lv_at hl 4 rfl) ?_
    refine kf_V (As := []) (rest := []) (st1 := [.int (mh_vfault (r.2))]) ⟨hx, hb, hml, hown, hts⟩ (mc_M_thrown (bm_D (b := bX)) (r.2) (mh_vfault (r.2)) rfl) (kb_M_thrown hts (hts _ nw_806) ⟨Nat.le_of_ble_eq_true rfl, Nat.le_of_ble_eq_true rfl⟩) (mr_M hKm hPm) (fun q9 h9 => by unfold lA; have := h9.1; omega) hKm hN hPm hS rfl hl.1 rfl rfl (Nat.le_of_ble_eq_true rfl) ⟨by show _ ≤ room_1.cells; omega, by show _ ≤ room_1.slots; omega⟩ nd_Law_law_180 (fun H locs hPm h5 hS => ?_)
    have hPx := wdG_kept hPx (H1 := H) (fun i hi hlt => h5 _ hlt (fun hb9 => by have := xpi_lt i hi; have h6 : bX + 61 ≤ bX + xpi i := hb9.1; omega))
    have hO := oW_kept hO (H1 := H) (fun q9 g1 g2 => h5 q9 g1 (fun hb9 => by have h6 : q9 < bX + 61 + 21 := hb9.2; omega))
    have Y : LY s Dx Dm cA cB bX (h) (r.2) f H locs := ⟨hPx, hPm, hO, hS⟩
    refine lv_iload hx hb nd_Law_law_183 (lv_at hl 1 rfl) ?_
    refine lv_icmp_eq (tgt := 190) hx hb nd_Law_law_185 rfl (fun _ => ?_) (fun hc => absurd hft hc)
    refine lv_iload hx hb nd_Law_law_190 (lv_at hl 1 rfl) ?_
    refine lv_if_ne (tgt := 207) hx hb nd_Law_law_192 rfl (fun _ => ?_) (fun hc => absurd hc (by decide))
    refine lv_goto hx hb nd_Law_law_207 (tgt := 1057) rfl ?_
    refine W.widen (k := cells + 1) (n := slots + 6) (by omega) (by omega) ?_
    exact kk H locs ls (h) (r.2) f ⟨hPx, hPm, hO, hS⟩ hRel (lv_sub hl [2, 3, 4, 5, 6] rfl)
set_option maxHeartbeats 4000000 in
set_option maxRecDepth 100000 in
theorem lc_sign {p : Program} {l : Launch} {e : Env} {s : State} {m : MethodId} {below : List Frame} {meth : Method} {c : Code} {Q : State → Prop} {b L : Nat} {xs : Nat → Int32} {Dx Dm : va_G} {cA cB : Nat → ClassId} {bX : Nat} (X : LX p l s m c b L xs Dx Dm cA cB bX) {Rel : XH → MH → Prop} (hOK : OK_sign Rel) {H : Heap} {locs : List Loc} {cells slots j : Nat} {ls : Array Slot} {h : XH} {g : MH} {f : Nat → Int64} (Y : LY s Dx Dm cA cB bX h g f H locs) (hR : Rel h g) (hj : 6 * j + 6 ≤ L) (hcs : cells + 1 ≤ room_1.cells ∧ slots + 6 ≤ room_1.slots) (hl : lv_has ls 8 [(4, .int (nI (6 * j))), (3, .ref (bX + 82)), (2, .ref (gad (bX + 61) 0)), (1, .ref (xad bX 0)), (0, .ref b)])
    (kk : ∀ (H : Heap) (locs : List Loc) (ls : Array Slot) (h : XH) (g : MH) (f : Nat → Int64), LY s Dx Dm cA cB bX h g f H locs → Rel h g → lv_has ls 8 [(4, .int (nI (6 * j))), (3, .ref (bX + 82)), (2, .ref (gad (bX + 61) 0)), (1, .ref (xad bX 0)), (0, .ref b)] → W p l e room_1 s m #[Value.ref b] below meth c H locs (cells + 1) (slots + 6) Q (F0 m 1057 ls [])) : W p l e room_1 s m #[Value.ref b] below meth c H locs cells slots Q (F0 m 210 ls []) := by
  have X0 := X
  obtain ⟨hx, hb, hml, hown, hts, hX, hbl, hKx, hKm, hN, hTW, hNC, hfl, hbX, hL⟩ := X0
  obtain ⟨hPx, hPm, hO, hS⟩ := Y
  have Y : LY s Dx Dm cA cB bX h g f H locs := ⟨hPx, hPm, hO, hS⟩
  obtain ⟨fx, fm, r, hr, hall⟩ := hOK h g hR ((xs (6 * j + 1))) ((xs (6 * j + 2)))
  refine lv_aload_n hx hb nd_Law_law_210 rfl (lv_at hl 3 rfl) ?_
  refine lv_aload_n hx hb nd_Law_law_211 rfl (lv_at hl 4 rfl) ?_
  refine lv_iload hx hb nd_Law_law_212 (lv_at hl 0 rfl) ?_
  refine lv_iconst (v := 1) hx hb nd_Law_law_214 (by decide) ?_
  refine lv_iadd hx hb nd_Law_law_215 ?_
  refine ks_ld X Y (n := 6 * j + 1) (by rw [show (1 : Int32) = nI 1 from rfl, nI_add]) (by omega) nd_Law_law_216 ?_
  refine lv_aload_n hx hb nd_Law_law_217 rfl (lv_at hl 4 rfl) ?_
  refine lv_iload hx hb nd_Law_law_218 (lv_at hl 0 rfl) ?_
  refine lv_iconst (v := 2) hx hb nd_Law_law_220 (by decide) ?_
  refine lv_iadd hx hb nd_Law_law_221 ?_
  refine ks_ld X Y (n := 6 * j + 2) (by rw [show (2 : Int32) = nI 2 from rfl, nI_add]) (by omega) nd_Law_law_222 ?_
  refine lv_aload_n hx hb nd_Law_law_223 rfl (lv_at hl 1 rfl) ?_
  rcases hall with ⟨q, hq, hft, heq, hRel⟩ | ⟨hq, hft, hRel⟩
  · refine kl_H (kw_S (hh := [(0, 10, 13, 13)]) (As := [.ref (xad bX 0), .int (xs (6 * j + 1)), .int (xs (6 * j + 2)), .ref (bX + 82)]) (rest := []) ⟨hx, hb, hml, hown, hts⟩ (lr_sign bx_D (fun h9 => by have h6 : bX + 82 < bX + 61 := h9.2; omega) (xs (6 * j + 1)) (xs (6 * j + 2)) f h q hq) rfl rfl (Nat.le_of_ble_eq_true rfl) (Nat.le_of_ble_eq_true rfl) (pay_in hts (wsH_good nw_461)) List.mem_cons_self (hts _ nw_461) (hts _ nw_0) ⟨by decide, by decide⟩ (n := 4) (by decide +kernel) (hts _ nw_459) (hts _ nw_460) ⟨HP_blind, fun U hU hW => ⟨rfl, by rw [hU]; exact hPx, by rw [hU]; exact hO, va_K.moved hW.alike hKx, NW.warm hW hN, TW.kept hW (fun q9 h9 => by rw [hU]; exact hS.2.1 q9 h9 (fun h8 => by unfold lA at h8; omega)) hTW, NC.moved hW.alike hNC⟩⟩ rfl hl.1 rfl (Nat.le_of_ble_eq_true rfl) nd_Law_law_224 ⟨by show _ ≤ room_1.cells; omega, by show _ ≤ room_1.slots; omega⟩) (fun q9 h9 => by unfold lA; exact h9.elim (fun h8 => by have := h8.1; omega) (fun h8 => by omega)) hS (fun H locs hPx hO h5 hS => ?_)
    have hPm := wdG_kept hPm (H1 := H) (fun i hi hlt => h5 _ hlt (fun hb9 => by have e9 : gad (bX + 61) i = bX + 61 + i := rfl; rw [e9] at hb9; exact hb9.elim (fun h8 => by have h6 : bX + 61 + i < bX + 61 := h8.2; omega) (fun h8 => by omega)))
    have Y : LY s Dx Dm cA cB bX (h) g (va_up f 0 (q).toInt64) H locs := ⟨hPx, hPm, hO, hS⟩
    refine lv_istore (lv' := [(5, .int 0), (4, .int (nI (6 * j))), (3, .ref (bX + 82)), (2, .ref (gad (bX + 61) 0)), (1, .ref (xad bX 0)), (0, .ref b)]) hx hb nd_Law_law_227 hl (by decide) rfl (fun ls hl => ?_)
    refine lv_aload_n hx hb nd_Law_law_229 rfl (lv_at hl 3 rfl) ?_
    refine lv_aload_n hx hb nd_Law_law_230 rfl (lv_at hl 5 rfl) ?_
    refine lv_iload hx hb nd_Law_law_231 (lv_at hl 1 rfl) ?_
    refine lv_iconst (v := 1) hx hb nd_Law_law_233 (by decide) ?_
    refine lv_iadd hx hb nd_Law_law_234 ?_
    refine ks_ld X Y (n := 6 * j + 1) (by rw [show (1 : Int32) = nI 1 from rfl, nI_add]) (by omega) nd_Law_law_235 ?_
    refine lv_aload_n hx hb nd_Law_law_236 rfl (lv_at hl 5 rfl) ?_
    refine lv_iload hx hb nd_Law_law_237 (lv_at hl 1 rfl) ?_
    refine lv_iconst (v := 2) hx hb nd_Law_law_239 (by decide) ?_
    refine lv_iadd hx hb nd_Law_law_240 ?_
    refine ks_ld X Y (n := 6 * j + 2) (by rw [show (2 : Int32) = nI 2 from rfl, nI_add]) (by omega) nd_Law_law_241 ?_
    refine kf_V (As := [.int (xs (6 * j + 1)), .int (xs (6 * j + 2))]) (rest := []) (st1 := [.int (r.1)]) ⟨hx, hb, hml, hown, hts⟩ (mc_M_sign (bm_D (b := bX)) (xs (6 * j + 1)) (xs (6 * j + 2)) g r hr) (kb_M_sign hts (hts _ nw_830) ⟨Nat.le_of_ble_eq_true rfl, Nat.le_of_ble_eq_true rfl⟩) (mr_M hKm hPm) (fun q9 h9 => by unfold lA; have := h9.1; omega) hKm hN hPm hS rfl hl.1 rfl rfl (Nat.le_of_ble_eq_true rfl) ⟨by show _ ≤ room_1.cells; omega, by show _ ≤ room_1.slots; omega⟩ nd_Law_law_242 (fun H locs hPm h5 hS => ?_)
    have hPx := wdG_kept hPx (H1 := H) (fun i hi hlt => h5 _ hlt (fun hb9 => by have := xpi_lt i hi; have h6 : bX + 61 ≤ bX + xpi i := hb9.1; omega))
    have hO := oW_kept hO (H1 := H) (fun q9 g1 g2 => h5 q9 g1 (fun hb9 => by have h6 : q9 < bX + 61 + 21 := hb9.2; omega))
    have Y : LY s Dx Dm cA cB bX (h) (r.2) (va_up f 0 (q).toInt64) H locs := ⟨hPx, hPm, hO, hS⟩
    refine lv_istore (lv' := [(6, .int (r.1)), (5, .int 0), (4, .int (nI (6 * j))), (3, .ref (bX + 82)), (2, .ref (gad (bX + 61) 0)), (1, .ref (xad bX 0)), (0, .ref b)]) hx hb nd_Law_law_245 hl (by decide) rfl (fun ls hl => ?_)
    refine lv_aload_n hx hb nd_Law_law_247 rfl (lv_at hl 4 rfl) ?_
    refine kf_V (As := []) (rest := []) (st1 := [.int (mh_vfault (r.2))]) ⟨hx, hb, hml, hown, hts⟩ (mc_M_thrown (bm_D (b := bX)) (r.2) (mh_vfault (r.2)) rfl) (kb_M_thrown hts (hts _ nw_806) ⟨Nat.le_of_ble_eq_true rfl, Nat.le_of_ble_eq_true rfl⟩) (mr_M hKm hPm) (fun q9 h9 => by unfold lA; have := h9.1; omega) hKm hN hPm hS rfl hl.1 rfl rfl (Nat.le_of_ble_eq_true rfl) ⟨by show _ ≤ room_1.cells; omega, by show _ ≤ room_1.slots; omega⟩ nd_Law_law_248 (fun H locs hPm h5 hS => ?_)
    have hPx := wdG_kept hPx (H1 := H) (fun i hi hlt => h5 _ hlt (fun hb9 => by have := xpi_lt i hi; have h6 : bX + 61 ≤ bX + xpi i := hb9.1; omega))
    have hO := oW_kept hO (H1 := H) (fun q9 g1 g2 => h5 q9 g1 (fun hb9 => by have h6 : q9 < bX + 61 + 21 := hb9.2; omega))
    have Y : LY s Dx Dm cA cB bX (h) (r.2) (va_up f 0 (q).toInt64) H locs := ⟨hPx, hPm, hO, hS⟩
    refine lv_iload hx hb nd_Law_law_251 (lv_at hl 1 rfl) ?_
    refine lv_icmp_eq (tgt := 258) hx hb nd_Law_law_253 rfl (fun _ => ?_) (fun hc => absurd hft hc)
    refine lv_iload hx hb nd_Law_law_258 (lv_at hl 1 rfl) ?_
    refine lv_if_ne (tgt := 275) hx hb nd_Law_law_260 rfl (fun hc => absurd rfl hc) (fun _ => ?_)
    refine lv_aload_n hx hb nd_Law_law_263 rfl (lv_at hl 3 rfl) ?_
    refine lv_iconst (v := 0) hx hb nd_Law_law_264 (by decide) ?_
    refine va_lald (f := (va_up f 0 (q).toInt64)) hx hb hKx hO 0 2 rfl rfl (i := 0) (show vp_in 0 1 by unfold vp_in; decide) nd_Law_law_265 ?_
    rw [show (va_up f 0 (q).toInt64) ((0 : Int32).toNatClampNeg) = (q).toInt64 from up_eq]
    refine lv_iload hx hb nd_Law_law_266 (lv_at hl 0 rfl) ?_
    refine lv_i2l hx hb nd_Law_law_268 rfl ?_
    rw [heq]
    refine W.lcmp hx hb nd_Law_law_269 ?_
    refine lv_if_eq (tgt := 275) hx hb nd_Law_law_270 rfl (fun _ => ?_) (fun hc => absurd (lg_self _) hc)
    refine lv_goto hx hb nd_Law_law_275 (tgt := 1057) rfl ?_
    refine W.widen (k := cells + 1) (n := slots + 6) (by omega) (by omega) ?_
    exact kk H locs ls (h) (r.2) (va_up f 0 (q).toInt64) ⟨hPx, hPm, hO, hS⟩ hRel (lv_sub hl [2, 3, 4, 5, 6] rfl)
  · refine kl_H (kw_S (hh := [(0, 10, 13, 13)]) (As := [.ref (xad bX 0), .int (xs (6 * j + 1)), .int (xs (6 * j + 2)), .ref (bX + 82)]) (rest := []) ⟨hx, hb, hml, hown, hts⟩ (lt_sign_1 (B := bx bX) hfl (xs (6 * j + 1)) (xs (6 * j + 2)) f h hq) rfl rfl (Nat.le_of_ble_eq_true rfl) (Nat.le_of_ble_eq_true rfl) (pay_in hts (wsH_good nw_461)) List.mem_cons_self (hts _ nw_461) (hts _ nw_0) ⟨by decide, by decide⟩ (n := 4) (by decide +kernel) (hts _ nw_459) (hts _ nw_460) ⟨HP_blind, fun U hU hW => ⟨rfl, by rw [hU]; exact hPx, by rw [hU]; exact hO, va_K.moved hW.alike hKx, NW.warm hW hN, TW.kept hW (fun q9 h9 => by rw [hU]; exact hS.2.1 q9 h9 (fun h8 => by unfold lA at h8; omega)) hTW, NC.moved hW.alike hNC⟩⟩ rfl hl.1 rfl (Nat.le_of_ble_eq_true rfl) nd_Law_law_224 ⟨by show _ ≤ room_1.cells; omega, by show _ ≤ room_1.slots; omega⟩) (fun q9 h9 => by unfold lA; exact h9.elim (fun h8 => by have := h8.1; omega) (fun h8 => by omega)) hS (fun H locs hPx hO h5 hS => ?_)
    have hPm := wdG_kept hPm (H1 := H) (fun i hi hlt => h5 _ hlt (fun hb9 => by have e9 : gad (bX + 61) i = bX + 61 + i := rfl; rw [e9] at hb9; exact hb9.elim (fun h8 => by have h6 : bX + 61 + i < bX + 61 := h8.2; omega) (fun h8 => by omega)))
    have Y : LY s Dx Dm cA cB bX (h) g f H locs := ⟨hPx, hPm, hO, hS⟩
    refine lv_istore (lv' := [(5, .int 1), (4, .int (nI (6 * j))), (3, .ref (bX + 82)), (2, .ref (gad (bX + 61) 0)), (1, .ref (xad bX 0)), (0, .ref b)]) hx hb nd_Law_law_227 hl (by decide) rfl (fun ls hl => ?_)
    refine lv_aload_n hx hb nd_Law_law_229 rfl (lv_at hl 3 rfl) ?_
    refine lv_aload_n hx hb nd_Law_law_230 rfl (lv_at hl 5 rfl) ?_
    refine lv_iload hx hb nd_Law_law_231 (lv_at hl 1 rfl) ?_
    refine lv_iconst (v := 1) hx hb nd_Law_law_233 (by decide) ?_
    refine lv_iadd hx hb nd_Law_law_234 ?_
    refine ks_ld X Y (n := 6 * j + 1) (by rw [show (1 : Int32) = nI 1 from rfl, nI_add]) (by omega) nd_Law_law_235 ?_
    refine lv_aload_n hx hb nd_Law_law_236 rfl (lv_at hl 5 rfl) ?_
    refine lv_iload hx hb nd_Law_law_237 (lv_at hl 1 rfl) ?_
    refine lv_iconst (v := 2) hx hb nd_Law_law_239 (by decide) ?_
    refine lv_iadd hx hb nd_Law_law_240 ?_
    refine ks_ld X Y (n := 6 * j + 2) (by rw [show (2 : Int32) = nI 2 from rfl, nI_add]) (by omega) nd_Law_law_241 ?_
    refine kf_V (As := [.int (xs (6 * j + 1)), .int (xs (6 * j + 2))]) (rest := []) (st1 := [.int (r.1)]) ⟨hx, hb, hml, hown, hts⟩ (mc_M_sign (bm_D (b := bX)) (xs (6 * j + 1)) (xs (6 * j + 2)) g r hr) (kb_M_sign hts (hts _ nw_830) ⟨Nat.le_of_ble_eq_true rfl, Nat.le_of_ble_eq_true rfl⟩) (mr_M hKm hPm) (fun q9 h9 => by unfold lA; have := h9.1; omega) hKm hN hPm hS rfl hl.1 rfl rfl (Nat.le_of_ble_eq_true rfl) ⟨by show _ ≤ room_1.cells; omega, by show _ ≤ room_1.slots; omega⟩ nd_Law_law_242 (fun H locs hPm h5 hS => ?_)
    have hPx := wdG_kept hPx (H1 := H) (fun i hi hlt => h5 _ hlt (fun hb9 => by have := xpi_lt i hi; have h6 : bX + 61 ≤ bX + xpi i := hb9.1; omega))
    have hO := oW_kept hO (H1 := H) (fun q9 g1 g2 => h5 q9 g1 (fun hb9 => by have h6 : q9 < bX + 61 + 21 := hb9.2; omega))
    have Y : LY s Dx Dm cA cB bX (h) (r.2) f H locs := ⟨hPx, hPm, hO, hS⟩
    refine lv_istore (lv' := [(6, .int (r.1)), (5, .int 1), (4, .int (nI (6 * j))), (3, .ref (bX + 82)), (2, .ref (gad (bX + 61) 0)), (1, .ref (xad bX 0)), (0, .ref b)]) hx hb nd_Law_law_245 hl (by decide) rfl (fun ls hl => ?_)
    refine lv_aload_n hx hb nd_Law_law_247 rfl (lv_at hl 4 rfl) ?_
    refine kf_V (As := []) (rest := []) (st1 := [.int (mh_vfault (r.2))]) ⟨hx, hb, hml, hown, hts⟩ (mc_M_thrown (bm_D (b := bX)) (r.2) (mh_vfault (r.2)) rfl) (kb_M_thrown hts (hts _ nw_806) ⟨Nat.le_of_ble_eq_true rfl, Nat.le_of_ble_eq_true rfl⟩) (mr_M hKm hPm) (fun q9 h9 => by unfold lA; have := h9.1; omega) hKm hN hPm hS rfl hl.1 rfl rfl (Nat.le_of_ble_eq_true rfl) ⟨by show _ ≤ room_1.cells; omega, by show _ ≤ room_1.slots; omega⟩ nd_Law_law_248 (fun H locs hPm h5 hS => ?_)
    have hPx := wdG_kept hPx (H1 := H) (fun i hi hlt => h5 _ hlt (fun hb9 => by have := xpi_lt i hi; have h6 : bX + 61 ≤ bX + xpi i := hb9.1; omega))
    have hO := oW_kept hO (H1 := H) (fun q9 g1 g2 => h5 q9 g1 (fun hb9 => by have h6 : q9 < bX + 61 + 21 := hb9.2; omega))
    have Y : LY s Dx Dm cA cB bX (h) (r.2) f H locs := ⟨hPx, hPm, hO, hS⟩
    refine lv_iload hx hb nd_Law_law_251 (lv_at hl 1 rfl) ?_
    refine lv_icmp_eq (tgt := 258) hx hb nd_Law_law_253 rfl (fun _ => ?_) (fun hc => absurd hft hc)
    refine lv_iload hx hb nd_Law_law_258 (lv_at hl 1 rfl) ?_
    refine lv_if_ne (tgt := 275) hx hb nd_Law_law_260 rfl (fun _ => ?_) (fun hc => absurd hc (by decide))
    refine lv_goto hx hb nd_Law_law_275 (tgt := 1057) rfl ?_
    refine W.widen (k := cells + 1) (n := slots + 6) (by omega) (by omega) ?_
    exact kk H locs ls (h) (r.2) f ⟨hPx, hPm, hO, hS⟩ hRel (lv_sub hl [2, 3, 4, 5, 6] rfl)
set_option maxHeartbeats 4000000 in
set_option maxRecDepth 100000 in
theorem lc_type {p : Program} {l : Launch} {e : Env} {s : State} {m : MethodId} {below : List Frame} {meth : Method} {c : Code} {Q : State → Prop} {b L : Nat} {xs : Nat → Int32} {Dx Dm : va_G} {cA cB : Nat → ClassId} {bX : Nat} (X : LX p l s m c b L xs Dx Dm cA cB bX) {Rel : XH → MH → Prop} (hOK : OK_type Rel) {H : Heap} {locs : List Loc} {cells slots j : Nat} {ls : Array Slot} {h : XH} {g : MH} {f : Nat → Int64} (Y : LY s Dx Dm cA cB bX h g f H locs) (hR : Rel h g) (hj : 6 * j + 6 ≤ L) (hcs : cells + 1 ≤ room_1.cells ∧ slots + 6 ≤ room_1.slots) (hl : lv_has ls 8 [(4, .int (nI (6 * j))), (3, .ref (bX + 82)), (2, .ref (gad (bX + 61) 0)), (1, .ref (xad bX 0)), (0, .ref b)])
    (kk : ∀ (H : Heap) (locs : List Loc) (ls : Array Slot) (h : XH) (g : MH) (f : Nat → Int64), LY s Dx Dm cA cB bX h g f H locs → Rel h g → lv_has ls 8 [(4, .int (nI (6 * j))), (3, .ref (bX + 82)), (2, .ref (gad (bX + 61) 0)), (1, .ref (xad bX 0)), (0, .ref b)] → W p l e room_1 s m #[Value.ref b] below meth c H locs (cells + 1) (slots + 6) Q (F0 m 1057 ls [])) : W p l e room_1 s m #[Value.ref b] below meth c H locs cells slots Q (F0 m 278 ls []) := by
  have X0 := X
  obtain ⟨hx, hb, hml, hown, hts, hX, hbl, hKx, hKm, hN, hTW, hNC, hfl, hbX, hL⟩ := X0
  obtain ⟨hPx, hPm, hO, hS⟩ := Y
  have Y : LY s Dx Dm cA cB bX h g f H locs := ⟨hPx, hPm, hO, hS⟩
  obtain ⟨fx, fm, r, q, hr, hq, heq, hRel⟩ := hOK h g hR ((xs (6 * j + 1)))
  refine lv_aload_n hx hb nd_Law_law_278 rfl (lv_at hl 3 rfl) ?_
  refine lv_aload_n hx hb nd_Law_law_279 rfl (lv_at hl 4 rfl) ?_
  refine lv_iload hx hb nd_Law_law_280 (lv_at hl 0 rfl) ?_
  refine lv_iconst (v := 1) hx hb nd_Law_law_282 (by decide) ?_
  refine lv_iadd hx hb nd_Law_law_283 ?_
  refine ks_ld X Y (n := 6 * j + 1) (by rw [show (1 : Int32) = nI 1 from rfl, nI_add]) (by omega) nd_Law_law_284 ?_
  refine lv_i2c hx hb nd_Law_law_285 rfl ?_
  refine kf_V (As := [.int ((((xs (6 * j + 1))).toUInt32 % 65536).toInt32)]) (rest := []) (st1 := [.int (q.1)]) ⟨hx, hb, hml, hown, hts⟩ (xc_P_type bx_D ((((xs (6 * j + 1))).toUInt32 % 65536).toInt32) h q hq) (kb_P_type hts (hts _ nw_222) ⟨Nat.le_of_ble_eq_true rfl, Nat.le_of_ble_eq_true rfl⟩) (xr_DP hKx hPx) (fun q9 h9 => by unfold lA; have := h9.1; omega) hKx hN hPx hS rfl hl.1 rfl rfl (Nat.le_of_ble_eq_true rfl) ⟨by show _ ≤ room_1.cells; omega, by show _ ≤ room_1.slots; omega⟩ nd_Law_law_286 (fun H locs hPx h5 hS => ?_)
  have hPm := wdG_kept hPm (H1 := H) (fun i hi hlt => h5 _ hlt (fun hb9 => by have h6 : bX + 61 + i < bX + 61 := hb9.2; omega))
  have hO := oW_kept hO (H1 := H) (fun q9 g1 g2 => h5 q9 g1 (fun hb9 => by have h6 : q9 < bX + 61 := hb9.2; omega))
  have Y : LY s Dx Dm cA cB bX (q.2) g f H locs := ⟨hPx, hPm, hO, hS⟩
  refine lv_aload_n hx hb nd_Law_law_289 rfl (lv_at hl 2 rfl) ?_
  refine lv_aload_n hx hb nd_Law_law_290 rfl (lv_at hl 4 rfl) ?_
  refine lv_iload hx hb nd_Law_law_291 (lv_at hl 0 rfl) ?_
  refine lv_iconst (v := 1) hx hb nd_Law_law_293 (by decide) ?_
  refine lv_iadd hx hb nd_Law_law_294 ?_
  refine ks_ld X Y (n := 6 * j + 1) (by rw [show (1 : Int32) = nI 1 from rfl, nI_add]) (by omega) nd_Law_law_295 ?_
  refine lv_i2c hx hb nd_Law_law_296 rfl ?_
  refine kf_V (As := [.int ((((xs (6 * j + 1))).toUInt32 % 65536).toInt32)]) (rest := [.int (q.1)]) (st1 := [.int (r.1), .int (q.1)]) ⟨hx, hb, hml, hown, hts⟩ (mc_M_type (bm_D (b := bX)) ((((xs (6 * j + 1))).toUInt32 % 65536).toInt32) g r hr) (kb_M_type hts (hts _ nw_834) ⟨Nat.le_of_ble_eq_true rfl, Nat.le_of_ble_eq_true rfl⟩) (mr_M hKm hPm) (fun q9 h9 => by unfold lA; have := h9.1; omega) hKm hN hPm hS rfl hl.1 rfl rfl (Nat.le_of_ble_eq_true rfl) ⟨by show _ ≤ room_1.cells; omega, by show _ ≤ room_1.slots; omega⟩ nd_Law_law_297 (fun H locs hPm h5 hS => ?_)
  have hPx := wdG_kept hPx (H1 := H) (fun i hi hlt => h5 _ hlt (fun hb9 => by have := xpi_lt i hi; have h6 : bX + 61 ≤ bX + xpi i := hb9.1; omega))
  have hO := oW_kept hO (H1 := H) (fun q9 g1 g2 => h5 q9 g1 (fun hb9 => by have h6 : q9 < bX + 61 + 21 := hb9.2; omega))
  refine lv_icmp_eq (tgt := 1057) hx hb nd_Law_law_300 rfl (fun _ => ?_) (fun hc => absurd heq hc)
  refine W.widen (k := cells + 1) (n := slots + 6) (by omega) (by omega) ?_
  exact kk H locs ls (q.2) (r.2) f ⟨hPx, hPm, hO, hS⟩ hRel (lv_sub hl [0, 1, 2, 3, 4] rfl)
set_option maxHeartbeats 4000000 in
set_option maxRecDepth 100000 in
theorem lc_lay {p : Program} {l : Launch} {e : Env} {s : State} {m : MethodId} {below : List Frame} {meth : Method} {c : Code} {Q : State → Prop} {b L : Nat} {xs : Nat → Int32} {Dx Dm : va_G} {cA cB : Nat → ClassId} {bX : Nat} (X : LX p l s m c b L xs Dx Dm cA cB bX) {Rel : XH → MH → Prop} (hOK : OK_lay Rel) {H : Heap} {locs : List Loc} {cells slots j : Nat} {ls : Array Slot} {h : XH} {g : MH} {f : Nat → Int64} (Y : LY s Dx Dm cA cB bX h g f H locs) (hR : Rel h g) (hj : 6 * j + 6 ≤ L) (hcs : cells + 1 ≤ room_1.cells ∧ slots + 6 ≤ room_1.slots) (hl : lv_has ls 8 [(4, .int (nI (6 * j))), (3, .ref (bX + 82)), (2, .ref (gad (bX + 61) 0)), (1, .ref (xad bX 0)), (0, .ref b)])
    (kk : ∀ (H : Heap) (locs : List Loc) (ls : Array Slot) (h : XH) (g : MH) (f : Nat → Int64), LY s Dx Dm cA cB bX h g f H locs → Rel h g → lv_has ls 8 [(4, .int (nI (6 * j))), (3, .ref (bX + 82)), (2, .ref (gad (bX + 61) 0)), (1, .ref (xad bX 0)), (0, .ref b)] → W p l e room_1 s m #[Value.ref b] below meth c H locs (cells + 1) (slots + 6) Q (F0 m 1057 ls [])) : W p l e room_1 s m #[Value.ref b] below meth c H locs cells slots Q (F0 m 305 ls []) := by
  have X0 := X
  obtain ⟨hx, hb, hml, hown, hts, hX, hbl, hKx, hKm, hN, hTW, hNC, hfl, hbX, hL⟩ := X0
  obtain ⟨hPx, hPm, hO, hS⟩ := Y
  have Y : LY s Dx Dm cA cB bX h g f H locs := ⟨hPx, hPm, hO, hS⟩
  obtain ⟨fx, fm, r, hr, hall⟩ := hOK h g hR ((xs (6 * j + 1)))
  refine lv_aload_n hx hb nd_Law_law_305 rfl (lv_at hl 3 rfl) ?_
  refine lv_aload_n hx hb nd_Law_law_306 rfl (lv_at hl 4 rfl) ?_
  refine lv_iload hx hb nd_Law_law_307 (lv_at hl 0 rfl) ?_
  refine lv_iconst (v := 1) hx hb nd_Law_law_309 (by decide) ?_
  refine lv_iadd hx hb nd_Law_law_310 ?_
  refine ks_ld X Y (n := 6 * j + 1) (by rw [show (1 : Int32) = nI 1 from rfl, nI_add]) (by omega) nd_Law_law_311 ?_
  refine lv_aload_n hx hb nd_Law_law_312 rfl (lv_at hl 1 rfl) ?_
  rcases hall with ⟨q, hq, hft, heq, hRel⟩ | ⟨hq, hft, hRel⟩
  · refine kl_H (kw_S (hh := [(0, 9, 12, 13)]) (As := [.ref (xad bX 0), .int (xs (6 * j + 1)), .ref (bX + 82)]) (rest := []) ⟨hx, hb, hml, hown, hts⟩ (lr_lay bx_D (fun h9 => by have h6 : bX + 82 < bX + 61 := h9.2; omega) fx (xs (6 * j + 1)) f h q hq) rfl rfl (Nat.le_of_ble_eq_true rfl) (Nat.le_of_ble_eq_true rfl) (pay_in hts (wsH_good nw_468)) List.mem_cons_self (hts _ nw_468) (hts _ nw_0) ⟨by decide, by decide⟩ (n := 3) (by decide +kernel) (hts _ nw_466) (hts _ nw_467) ⟨HP_blind, fun U hU hW => ⟨rfl, by rw [hU]; exact hPx, by rw [hU]; exact hO, va_K.moved hW.alike hKx, NW.warm hW hN, TW.kept hW (fun q9 h9 => by rw [hU]; exact hS.2.1 q9 h9 (fun h8 => by unfold lA at h8; omega)) hTW, NC.moved hW.alike hNC⟩⟩ rfl hl.1 rfl (Nat.le_of_ble_eq_true rfl) nd_Law_law_313 ⟨by show _ ≤ room_1.cells; omega, by show _ ≤ room_1.slots; omega⟩) (fun q9 h9 => by unfold lA; exact h9.elim (fun h8 => by have := h8.1; omega) (fun h8 => by omega)) hS (fun H locs hPx hO h5 hS => ?_)
    have hPm := wdG_kept hPm (H1 := H) (fun i hi hlt => h5 _ hlt (fun hb9 => by have e9 : gad (bX + 61) i = bX + 61 + i := rfl; rw [e9] at hb9; exact hb9.elim (fun h8 => by have h6 : bX + 61 + i < bX + 61 := h8.2; omega) (fun h8 => by omega)))
    have Y : LY s Dx Dm cA cB bX (q.2) g (va_up f 0 (q.1).toInt64) H locs := ⟨hPx, hPm, hO, hS⟩
    refine lv_istore (lv' := [(5, .int 0), (4, .int (nI (6 * j))), (3, .ref (bX + 82)), (2, .ref (gad (bX + 61) 0)), (1, .ref (xad bX 0)), (0, .ref b)]) hx hb nd_Law_law_316 hl (by decide) rfl (fun ls hl => ?_)
    refine lv_aload_n hx hb nd_Law_law_318 rfl (lv_at hl 3 rfl) ?_
    refine lv_aload_n hx hb nd_Law_law_319 rfl (lv_at hl 5 rfl) ?_
    refine lv_iload hx hb nd_Law_law_320 (lv_at hl 1 rfl) ?_
    refine lv_iconst (v := 1) hx hb nd_Law_law_322 (by decide) ?_
    refine lv_iadd hx hb nd_Law_law_323 ?_
    refine ks_ld X Y (n := 6 * j + 1) (by rw [show (1 : Int32) = nI 1 from rfl, nI_add]) (by omega) nd_Law_law_324 ?_
    refine kf_V (As := [.int (xs (6 * j + 1))]) (rest := []) (st1 := [.int (r.1)]) ⟨hx, hb, hml, hown, hts⟩ (mc_M_lay (bm_D (b := bX)) fm (xs (6 * j + 1)) g r hr) (kb_M_lay hts (hts _ nw_838) ⟨Nat.le_of_ble_eq_true rfl, Nat.le_of_ble_eq_true rfl⟩) (mr_M hKm hPm) (fun q9 h9 => by unfold lA; have := h9.1; omega) hKm hN hPm hS rfl hl.1 rfl rfl (Nat.le_of_ble_eq_true rfl) ⟨by show _ ≤ room_1.cells; omega, by show _ ≤ room_1.slots; omega⟩ nd_Law_law_325 (fun H locs hPm h5 hS => ?_)
    have hPx := wdG_kept hPx (H1 := H) (fun i hi hlt => h5 _ hlt (fun hb9 => by have := xpi_lt i hi; have h6 : bX + 61 ≤ bX + xpi i := hb9.1; omega))
    have hO := oW_kept hO (H1 := H) (fun q9 g1 g2 => h5 q9 g1 (fun hb9 => by have h6 : q9 < bX + 61 + 21 := hb9.2; omega))
    have Y : LY s Dx Dm cA cB bX (q.2) (r.2) (va_up f 0 (q.1).toInt64) H locs := ⟨hPx, hPm, hO, hS⟩
    refine lv_istore (lv' := [(6, .int (r.1)), (5, .int 0), (4, .int (nI (6 * j))), (3, .ref (bX + 82)), (2, .ref (gad (bX + 61) 0)), (1, .ref (xad bX 0)), (0, .ref b)]) hx hb nd_Law_law_328 hl (by decide) rfl (fun ls hl => ?_)
    refine lv_aload_n hx hb nd_Law_law_330 rfl (lv_at hl 4 rfl) ?_
    refine kf_V (As := []) (rest := []) (st1 := [.int (mh_vfault (r.2))]) ⟨hx, hb, hml, hown, hts⟩ (mc_M_thrown (bm_D (b := bX)) (r.2) (mh_vfault (r.2)) rfl) (kb_M_thrown hts (hts _ nw_806) ⟨Nat.le_of_ble_eq_true rfl, Nat.le_of_ble_eq_true rfl⟩) (mr_M hKm hPm) (fun q9 h9 => by unfold lA; have := h9.1; omega) hKm hN hPm hS rfl hl.1 rfl rfl (Nat.le_of_ble_eq_true rfl) ⟨by show _ ≤ room_1.cells; omega, by show _ ≤ room_1.slots; omega⟩ nd_Law_law_331 (fun H locs hPm h5 hS => ?_)
    have hPx := wdG_kept hPx (H1 := H) (fun i hi hlt => h5 _ hlt (fun hb9 => by have := xpi_lt i hi; have h6 : bX + 61 ≤ bX + xpi i := hb9.1; omega))
    have hO := oW_kept hO (H1 := H) (fun q9 g1 g2 => h5 q9 g1 (fun hb9 => by have h6 : q9 < bX + 61 + 21 := hb9.2; omega))
    have Y : LY s Dx Dm cA cB bX (q.2) (r.2) (va_up f 0 (q.1).toInt64) H locs := ⟨hPx, hPm, hO, hS⟩
    refine lv_iload hx hb nd_Law_law_334 (lv_at hl 1 rfl) ?_
    refine lv_icmp_eq (tgt := 341) hx hb nd_Law_law_336 rfl (fun _ => ?_) (fun hc => absurd hft hc)
    refine lv_iload hx hb nd_Law_law_341 (lv_at hl 1 rfl) ?_
    refine lv_if_ne (tgt := 358) hx hb nd_Law_law_343 rfl (fun hc => absurd rfl hc) (fun _ => ?_)
    refine lv_aload_n hx hb nd_Law_law_346 rfl (lv_at hl 3 rfl) ?_
    refine lv_iconst (v := 0) hx hb nd_Law_law_347 (by decide) ?_
    refine va_lald (f := (va_up f 0 (q.1).toInt64)) hx hb hKx hO 0 2 rfl rfl (i := 0) (show vp_in 0 1 by unfold vp_in; decide) nd_Law_law_348 ?_
    rw [show (va_up f 0 (q.1).toInt64) ((0 : Int32).toNatClampNeg) = (q.1).toInt64 from up_eq]
    refine lv_iload hx hb nd_Law_law_349 (lv_at hl 0 rfl) ?_
    refine lv_i2l hx hb nd_Law_law_351 rfl ?_
    rw [heq]
    refine W.lcmp hx hb nd_Law_law_352 ?_
    refine lv_if_eq (tgt := 358) hx hb nd_Law_law_353 rfl (fun _ => ?_) (fun hc => absurd (lg_self _) hc)
    refine lv_goto hx hb nd_Law_law_358 (tgt := 1057) rfl ?_
    refine W.widen (k := cells + 1) (n := slots + 6) (by omega) (by omega) ?_
    exact kk H locs ls (q.2) (r.2) (va_up f 0 (q.1).toInt64) ⟨hPx, hPm, hO, hS⟩ hRel (lv_sub hl [2, 3, 4, 5, 6] rfl)
  · refine kl_H (kw_S (hh := [(0, 9, 12, 13)]) (As := [.ref (xad bX 0), .int (xs (6 * j + 1)), .ref (bX + 82)]) (rest := []) ⟨hx, hb, hml, hown, hts⟩ (lt_lay_1 (B := bx bX) hfl fx (xs (6 * j + 1)) f h hq) rfl rfl (Nat.le_of_ble_eq_true rfl) (Nat.le_of_ble_eq_true rfl) (pay_in hts (wsH_good nw_468)) List.mem_cons_self (hts _ nw_468) (hts _ nw_0) ⟨by decide, by decide⟩ (n := 3) (by decide +kernel) (hts _ nw_466) (hts _ nw_467) ⟨HP_blind, fun U hU hW => ⟨rfl, by rw [hU]; exact hPx, by rw [hU]; exact hO, va_K.moved hW.alike hKx, NW.warm hW hN, TW.kept hW (fun q9 h9 => by rw [hU]; exact hS.2.1 q9 h9 (fun h8 => by unfold lA at h8; omega)) hTW, NC.moved hW.alike hNC⟩⟩ rfl hl.1 rfl (Nat.le_of_ble_eq_true rfl) nd_Law_law_313 ⟨by show _ ≤ room_1.cells; omega, by show _ ≤ room_1.slots; omega⟩) (fun q9 h9 => by unfold lA; exact h9.elim (fun h8 => by have := h8.1; omega) (fun h8 => by omega)) hS (fun H locs hPx hO h5 hS => ?_)
    have hPm := wdG_kept hPm (H1 := H) (fun i hi hlt => h5 _ hlt (fun hb9 => by have e9 : gad (bX + 61) i = bX + 61 + i := rfl; rw [e9] at hb9; exact hb9.elim (fun h8 => by have h6 : bX + 61 + i < bX + 61 := h8.2; omega) (fun h8 => by omega)))
    have Y : LY s Dx Dm cA cB bX (h) g f H locs := ⟨hPx, hPm, hO, hS⟩
    refine lv_istore (lv' := [(5, .int 1), (4, .int (nI (6 * j))), (3, .ref (bX + 82)), (2, .ref (gad (bX + 61) 0)), (1, .ref (xad bX 0)), (0, .ref b)]) hx hb nd_Law_law_316 hl (by decide) rfl (fun ls hl => ?_)
    refine lv_aload_n hx hb nd_Law_law_318 rfl (lv_at hl 3 rfl) ?_
    refine lv_aload_n hx hb nd_Law_law_319 rfl (lv_at hl 5 rfl) ?_
    refine lv_iload hx hb nd_Law_law_320 (lv_at hl 1 rfl) ?_
    refine lv_iconst (v := 1) hx hb nd_Law_law_322 (by decide) ?_
    refine lv_iadd hx hb nd_Law_law_323 ?_
    refine ks_ld X Y (n := 6 * j + 1) (by rw [show (1 : Int32) = nI 1 from rfl, nI_add]) (by omega) nd_Law_law_324 ?_
    refine kf_V (As := [.int (xs (6 * j + 1))]) (rest := []) (st1 := [.int (r.1)]) ⟨hx, hb, hml, hown, hts⟩ (mc_M_lay (bm_D (b := bX)) fm (xs (6 * j + 1)) g r hr) (kb_M_lay hts (hts _ nw_838) ⟨Nat.le_of_ble_eq_true rfl, Nat.le_of_ble_eq_true rfl⟩) (mr_M hKm hPm) (fun q9 h9 => by unfold lA; have := h9.1; omega) hKm hN hPm hS rfl hl.1 rfl rfl (Nat.le_of_ble_eq_true rfl) ⟨by show _ ≤ room_1.cells; omega, by show _ ≤ room_1.slots; omega⟩ nd_Law_law_325 (fun H locs hPm h5 hS => ?_)
    have hPx := wdG_kept hPx (H1 := H) (fun i hi hlt => h5 _ hlt (fun hb9 => by have := xpi_lt i hi; have h6 : bX + 61 ≤ bX + xpi i := hb9.1; omega))
    have hO := oW_kept hO (H1 := H) (fun q9 g1 g2 => h5 q9 g1 (fun hb9 => by have h6 : q9 < bX + 61 + 21 := hb9.2; omega))
    have Y : LY s Dx Dm cA cB bX (h) (r.2) f H locs := ⟨hPx, hPm, hO, hS⟩
    refine lv_istore (lv' := [(6, .int (r.1)), (5, .int 1), (4, .int (nI (6 * j))), (3, .ref (bX + 82)), (2, .ref (gad (bX + 61) 0)), (1, .ref (xad bX 0)), (0, .ref b)]) hx hb nd_Law_law_328 hl (by decide) rfl (fun ls hl => ?_)
    refine lv_aload_n hx hb nd_Law_law_330 rfl (lv_at hl 4 rfl) ?_
    refine kf_V (As := []) (rest := []) (st1 := [.int (mh_vfault (r.2))]) ⟨hx, hb, hml, hown, hts⟩ (mc_M_thrown (bm_D (b := bX)) (r.2) (mh_vfault (r.2)) rfl) (kb_M_thrown hts (hts _ nw_806) ⟨Nat.le_of_ble_eq_true rfl, Nat.le_of_ble_eq_true rfl⟩) (mr_M hKm hPm) (fun q9 h9 => by unfold lA; have := h9.1; omega) hKm hN hPm hS rfl hl.1 rfl rfl (Nat.le_of_ble_eq_true rfl) ⟨by show _ ≤ room_1.cells; omega, by show _ ≤ room_1.slots; omega⟩ nd_Law_law_331 (fun H locs hPm h5 hS => ?_)
    have hPx := wdG_kept hPx (H1 := H) (fun i hi hlt => h5 _ hlt (fun hb9 => by have := xpi_lt i hi; have h6 : bX + 61 ≤ bX + xpi i := hb9.1; omega))
    have hO := oW_kept hO (H1 := H) (fun q9 g1 g2 => h5 q9 g1 (fun hb9 => by have h6 : q9 < bX + 61 + 21 := hb9.2; omega))
    have Y : LY s Dx Dm cA cB bX (h) (r.2) f H locs := ⟨hPx, hPm, hO, hS⟩
    refine lv_iload hx hb nd_Law_law_334 (lv_at hl 1 rfl) ?_
    refine lv_icmp_eq (tgt := 341) hx hb nd_Law_law_336 rfl (fun _ => ?_) (fun hc => absurd hft hc)
    refine lv_iload hx hb nd_Law_law_341 (lv_at hl 1 rfl) ?_
    refine lv_if_ne (tgt := 358) hx hb nd_Law_law_343 rfl (fun _ => ?_) (fun hc => absurd hc (by decide))
    refine lv_goto hx hb nd_Law_law_358 (tgt := 1057) rfl ?_
    refine W.widen (k := cells + 1) (n := slots + 6) (by omega) (by omega) ?_
    exact kk H locs ls (h) (r.2) f ⟨hPx, hPm, hO, hS⟩ hRel (lv_sub hl [2, 3, 4, 5, 6] rfl)
set_option maxHeartbeats 4000000 in
set_option maxRecDepth 100000 in
theorem lc_input {p : Program} {l : Launch} {e : Env} {s : State} {m : MethodId} {below : List Frame} {meth : Method} {c : Code} {Q : State → Prop} {b L : Nat} {xs : Nat → Int32} {Dx Dm : va_G} {cA cB : Nat → ClassId} {bX : Nat} (X : LX p l s m c b L xs Dx Dm cA cB bX) {Rel : XH → MH → Prop} (hOK : OK_input Rel) {H : Heap} {locs : List Loc} {cells slots j : Nat} {ls : Array Slot} {h : XH} {g : MH} {f : Nat → Int64} (Y : LY s Dx Dm cA cB bX h g f H locs) (hR : Rel h g) (hj : 6 * j + 6 ≤ L) (hcs : cells + 1 ≤ room_1.cells ∧ slots + 6 ≤ room_1.slots) (hl : lv_has ls 8 [(4, .int (nI (6 * j))), (3, .ref (bX + 82)), (2, .ref (gad (bX + 61) 0)), (1, .ref (xad bX 0)), (0, .ref b)])
    (kk : ∀ (H : Heap) (locs : List Loc) (ls : Array Slot) (h : XH) (g : MH) (f : Nat → Int64), LY s Dx Dm cA cB bX h g f H locs → Rel h g → lv_has ls 8 [(4, .int (nI (6 * j))), (3, .ref (bX + 82)), (2, .ref (gad (bX + 61) 0)), (1, .ref (xad bX 0)), (0, .ref b)] → W p l e room_1 s m #[Value.ref b] below meth c H locs (cells + 1) (slots + 6) Q (F0 m 1057 ls [])) : W p l e room_1 s m #[Value.ref b] below meth c H locs cells slots Q (F0 m 361 ls []) := by
  have X0 := X
  obtain ⟨hx, hb, hml, hown, hts, hX, hbl, hKx, hKm, hN, hTW, hNC, hfl, hbX, hL⟩ := X0
  obtain ⟨hPx, hPm, hO, hS⟩ := Y
  have Y : LY s Dx Dm cA cB bX h g f H locs := ⟨hPx, hPm, hO, hS⟩
  obtain ⟨fx, fm, r, hr, hall⟩ := hOK h g hR ((((((xs (6 * j + 1))).toInt64) <<< ((32 : Int32).toInt64 &&& 63)) ||| ((((xs (6 * j + 2))).toInt64) &&& 4294967295)))
  refine lv_aload_n hx hb nd_Law_law_361 rfl (lv_at hl 3 rfl) ?_
  refine lv_aload_n hx hb nd_Law_law_362 rfl (lv_at hl 4 rfl) ?_
  refine lv_iload hx hb nd_Law_law_363 (lv_at hl 0 rfl) ?_
  refine lv_iconst (v := 1) hx hb nd_Law_law_365 (by decide) ?_
  refine lv_iadd hx hb nd_Law_law_366 ?_
  refine ks_ld X Y (n := 6 * j + 1) (by rw [show (1 : Int32) = nI 1 from rfl, nI_add]) (by omega) nd_Law_law_367 ?_
  refine lv_i2l hx hb nd_Law_law_368 rfl ?_
  refine lv_bipush (v := 32) hx hb nd_Law_law_369 (by decide) ?_
  refine lv_lshl hx hb nd_Law_law_371 rfl ?_
  refine lv_aload_n hx hb nd_Law_law_372 rfl (lv_at hl 4 rfl) ?_
  refine lv_iload hx hb nd_Law_law_373 (lv_at hl 0 rfl) ?_
  refine lv_iconst (v := 2) hx hb nd_Law_law_375 (by decide) ?_
  refine lv_iadd hx hb nd_Law_law_376 ?_
  refine ks_ld X Y (n := 6 * j + 2) (by rw [show (2 : Int32) = nI 2 from rfl, nI_add]) (by omega) nd_Law_law_377 ?_
  refine lv_i2l hx hb nd_Law_law_378 rfl ?_
  refine lv_ldc2 (v := 4294967295) hx hb hown (hts _ nw_1033) nd_Law_law_379 ?_
  refine lv_land hx hb nd_Law_law_382 ?_
  refine lv_lor hx hb nd_Law_law_383 ?_
  refine lv_aload_n hx hb nd_Law_law_384 rfl (lv_at hl 1 rfl) ?_
  rcases hall with ⟨q, hq, hft, heq, hRel⟩ | ⟨hq, hft, hRel⟩
  · refine kl_H (kw_S (hh := [(0, 9, 12, 29)]) (As := [.ref (xad bX 0), .long (((((xs (6 * j + 1))).toInt64) <<< ((32 : Int32).toInt64 &&& 63)) ||| ((((xs (6 * j + 2))).toInt64) &&& 4294967295)), .ref (bX + 82)]) (rest := []) ⟨hx, hb, hml, hown, hts⟩ (lr_input bx_D (fun h9 => by have h6 : bX + 82 < bX + 61 := h9.2; omega) (((((xs (6 * j + 1))).toInt64) <<< ((32 : Int32).toInt64 &&& 63)) ||| ((((xs (6 * j + 2))).toInt64) &&& 4294967295)) f h q hq) rfl rfl (Nat.le_of_ble_eq_true rfl) (Nat.le_of_ble_eq_true rfl) (pay_in hts (wsH_good nw_476)) List.mem_cons_self (hts _ nw_476) (hts _ nw_0) ⟨by decide, by decide⟩ (n := 3) (by decide +kernel) (hts _ nw_474) (hts _ nw_475) ⟨HP_blind, fun U hU hW => ⟨rfl, by rw [hU]; exact hPx, by rw [hU]; exact hO, va_K.moved hW.alike hKx, NW.warm hW hN, TW.kept hW (fun q9 h9 => by rw [hU]; exact hS.2.1 q9 h9 (fun h8 => by unfold lA at h8; omega)) hTW, NC.moved hW.alike hNC⟩⟩ rfl hl.1 rfl (Nat.le_of_ble_eq_true rfl) nd_Law_law_385 ⟨by show _ ≤ room_1.cells; omega, by show _ ≤ room_1.slots; omega⟩) (fun q9 h9 => by unfold lA; exact h9.elim (fun h8 => by have := h8.1; omega) (fun h8 => by omega)) hS (fun H locs hPx hO h5 hS => ?_)
    have hPm := wdG_kept hPm (H1 := H) (fun i hi hlt => h5 _ hlt (fun hb9 => by have e9 : gad (bX + 61) i = bX + 61 + i := rfl; rw [e9] at hb9; exact hb9.elim (fun h8 => by have h6 : bX + 61 + i < bX + 61 := h8.2; omega) (fun h8 => by omega)))
    have Y : LY s Dx Dm cA cB bX (q.2) g (va_up f 0 (q.1).toInt64) H locs := ⟨hPx, hPm, hO, hS⟩
    refine lv_istore (lv' := [(5, .int 0), (4, .int (nI (6 * j))), (3, .ref (bX + 82)), (2, .ref (gad (bX + 61) 0)), (1, .ref (xad bX 0)), (0, .ref b)]) hx hb nd_Law_law_388 hl (by decide) rfl (fun ls hl => ?_)
    refine lv_aload_n hx hb nd_Law_law_390 rfl (lv_at hl 3 rfl) ?_
    refine lv_aload_n hx hb nd_Law_law_391 rfl (lv_at hl 5 rfl) ?_
    refine lv_iload hx hb nd_Law_law_392 (lv_at hl 1 rfl) ?_
    refine lv_iconst (v := 1) hx hb nd_Law_law_394 (by decide) ?_
    refine lv_iadd hx hb nd_Law_law_395 ?_
    refine ks_ld X Y (n := 6 * j + 1) (by rw [show (1 : Int32) = nI 1 from rfl, nI_add]) (by omega) nd_Law_law_396 ?_
    refine lv_i2l hx hb nd_Law_law_397 rfl ?_
    refine lv_bipush (v := 32) hx hb nd_Law_law_398 (by decide) ?_
    refine lv_lshl hx hb nd_Law_law_400 rfl ?_
    refine lv_aload_n hx hb nd_Law_law_401 rfl (lv_at hl 5 rfl) ?_
    refine lv_iload hx hb nd_Law_law_402 (lv_at hl 1 rfl) ?_
    refine lv_iconst (v := 2) hx hb nd_Law_law_404 (by decide) ?_
    refine lv_iadd hx hb nd_Law_law_405 ?_
    refine ks_ld X Y (n := 6 * j + 2) (by rw [show (2 : Int32) = nI 2 from rfl, nI_add]) (by omega) nd_Law_law_406 ?_
    refine lv_i2l hx hb nd_Law_law_407 rfl ?_
    refine lv_ldc2 (v := 4294967295) hx hb hown (hts _ nw_1033) nd_Law_law_408 ?_
    refine lv_land hx hb nd_Law_law_411 ?_
    refine lv_lor hx hb nd_Law_law_412 ?_
    refine kf_V (As := [.long (((((xs (6 * j + 1))).toInt64) <<< ((32 : Int32).toInt64 &&& 63)) ||| ((((xs (6 * j + 2))).toInt64) &&& 4294967295))]) (rest := []) (st1 := [.int (r.1)]) ⟨hx, hb, hml, hown, hts⟩ (mc_M_input (bm_D (b := bX)) (((((xs (6 * j + 1))).toInt64) <<< ((32 : Int32).toInt64 &&& 63)) ||| ((((xs (6 * j + 2))).toInt64) &&& 4294967295)) g r hr) (kb_M_input hts (hts _ nw_842) ⟨Nat.le_of_ble_eq_true rfl, Nat.le_of_ble_eq_true rfl⟩) (mr_M hKm hPm) (fun q9 h9 => by unfold lA; have := h9.1; omega) hKm hN hPm hS rfl hl.1 rfl rfl (Nat.le_of_ble_eq_true rfl) ⟨by show _ ≤ room_1.cells; omega, by show _ ≤ room_1.slots; omega⟩ nd_Law_law_413 (fun H locs hPm h5 hS => ?_)
    have hPx := wdG_kept hPx (H1 := H) (fun i hi hlt => h5 _ hlt (fun hb9 => by have := xpi_lt i hi; have h6 : bX + 61 ≤ bX + xpi i := hb9.1; omega))
    have hO := oW_kept hO (H1 := H) (fun q9 g1 g2 => h5 q9 g1 (fun hb9 => by have h6 : q9 < bX + 61 + 21 := hb9.2; omega))
    have Y : LY s Dx Dm cA cB bX (q.2) (r.2) (va_up f 0 (q.1).toInt64) H locs := ⟨hPx, hPm, hO, hS⟩
    refine lv_istore (lv' := [(6, .int (r.1)), (5, .int 0), (4, .int (nI (6 * j))), (3, .ref (bX + 82)), (2, .ref (gad (bX + 61) 0)), (1, .ref (xad bX 0)), (0, .ref b)]) hx hb nd_Law_law_416 hl (by decide) rfl (fun ls hl => ?_)
    refine lv_aload_n hx hb nd_Law_law_418 rfl (lv_at hl 4 rfl) ?_
    refine kf_V (As := []) (rest := []) (st1 := [.int (mh_vfault (r.2))]) ⟨hx, hb, hml, hown, hts⟩ (mc_M_thrown (bm_D (b := bX)) (r.2) (mh_vfault (r.2)) rfl) (kb_M_thrown hts (hts _ nw_806) ⟨Nat.le_of_ble_eq_true rfl, Nat.le_of_ble_eq_true rfl⟩) (mr_M hKm hPm) (fun q9 h9 => by unfold lA; have := h9.1; omega) hKm hN hPm hS rfl hl.1 rfl rfl (Nat.le_of_ble_eq_true rfl) ⟨by show _ ≤ room_1.cells; omega, by show _ ≤ room_1.slots; omega⟩ nd_Law_law_419 (fun H locs hPm h5 hS => ?_)
    have hPx := wdG_kept hPx (H1 := H) (fun i hi hlt => h5 _ hlt (fun hb9 => by have := xpi_lt i hi; have h6 : bX + 61 ≤ bX + xpi i := hb9.1; omega))
    have hO := oW_kept hO (H1 := H) (fun q9 g1 g2 => h5 q9 g1 (fun hb9 => by have h6 : q9 < bX + 61 + 21 := hb9.2; omega))
    have Y : LY s Dx Dm cA cB bX (q.2) (r.2) (va_up f 0 (q.1).toInt64) H locs := ⟨hPx, hPm, hO, hS⟩
    refine lv_iload hx hb nd_Law_law_422 (lv_at hl 1 rfl) ?_
    refine lv_icmp_eq (tgt := 429) hx hb nd_Law_law_424 rfl (fun _ => ?_) (fun hc => absurd hft hc)
    refine lv_iload hx hb nd_Law_law_429 (lv_at hl 1 rfl) ?_
    refine lv_if_ne (tgt := 446) hx hb nd_Law_law_431 rfl (fun hc => absurd rfl hc) (fun _ => ?_)
    refine lv_aload_n hx hb nd_Law_law_434 rfl (lv_at hl 3 rfl) ?_
    refine lv_iconst (v := 0) hx hb nd_Law_law_435 (by decide) ?_
    refine va_lald (f := (va_up f 0 (q.1).toInt64)) hx hb hKx hO 0 2 rfl rfl (i := 0) (show vp_in 0 1 by unfold vp_in; decide) nd_Law_law_436 ?_
    rw [show (va_up f 0 (q.1).toInt64) ((0 : Int32).toNatClampNeg) = (q.1).toInt64 from up_eq]
    refine lv_iload hx hb nd_Law_law_437 (lv_at hl 0 rfl) ?_
    refine lv_i2l hx hb nd_Law_law_439 rfl ?_
    rw [heq]
    refine W.lcmp hx hb nd_Law_law_440 ?_
    refine lv_if_eq (tgt := 446) hx hb nd_Law_law_441 rfl (fun _ => ?_) (fun hc => absurd (lg_self _) hc)
    refine lv_goto hx hb nd_Law_law_446 (tgt := 1057) rfl ?_
    refine W.widen (k := cells + 1) (n := slots + 6) (by omega) (by omega) ?_
    exact kk H locs ls (q.2) (r.2) (va_up f 0 (q.1).toInt64) ⟨hPx, hPm, hO, hS⟩ hRel (lv_sub hl [2, 3, 4, 5, 6] rfl)
  · refine kl_H (kw_S (hh := [(0, 9, 12, 29)]) (As := [.ref (xad bX 0), .long (((((xs (6 * j + 1))).toInt64) <<< ((32 : Int32).toInt64 &&& 63)) ||| ((((xs (6 * j + 2))).toInt64) &&& 4294967295)), .ref (bX + 82)]) (rest := []) ⟨hx, hb, hml, hown, hts⟩ (lt_input_3 (B := bx bX) hfl (((((xs (6 * j + 1))).toInt64) <<< ((32 : Int32).toInt64 &&& 63)) ||| ((((xs (6 * j + 2))).toInt64) &&& 4294967295)) f h hq) rfl rfl (Nat.le_of_ble_eq_true rfl) (Nat.le_of_ble_eq_true rfl) (pay_in hts (wsH_good nw_476)) List.mem_cons_self (hts _ nw_476) (hts _ nw_0) ⟨by decide, by decide⟩ (n := 3) (by decide +kernel) (hts _ nw_474) (hts _ nw_475) ⟨HP_blind, fun U hU hW => ⟨rfl, by rw [hU]; exact hPx, by rw [hU]; exact hO, va_K.moved hW.alike hKx, NW.warm hW hN, TW.kept hW (fun q9 h9 => by rw [hU]; exact hS.2.1 q9 h9 (fun h8 => by unfold lA at h8; omega)) hTW, NC.moved hW.alike hNC⟩⟩ rfl hl.1 rfl (Nat.le_of_ble_eq_true rfl) nd_Law_law_385 ⟨by show _ ≤ room_1.cells; omega, by show _ ≤ room_1.slots; omega⟩) (fun q9 h9 => by unfold lA; exact h9.elim (fun h8 => by have := h8.1; omega) (fun h8 => by omega)) hS (fun H locs hPx hO h5 hS => ?_)
    have hPm := wdG_kept hPm (H1 := H) (fun i hi hlt => h5 _ hlt (fun hb9 => by have e9 : gad (bX + 61) i = bX + 61 + i := rfl; rw [e9] at hb9; exact hb9.elim (fun h8 => by have h6 : bX + 61 + i < bX + 61 := h8.2; omega) (fun h8 => by omega)))
    have Y : LY s Dx Dm cA cB bX (h) g f H locs := ⟨hPx, hPm, hO, hS⟩
    refine lv_istore (lv' := [(5, .int 1), (4, .int (nI (6 * j))), (3, .ref (bX + 82)), (2, .ref (gad (bX + 61) 0)), (1, .ref (xad bX 0)), (0, .ref b)]) hx hb nd_Law_law_388 hl (by decide) rfl (fun ls hl => ?_)
    refine lv_aload_n hx hb nd_Law_law_390 rfl (lv_at hl 3 rfl) ?_
    refine lv_aload_n hx hb nd_Law_law_391 rfl (lv_at hl 5 rfl) ?_
    refine lv_iload hx hb nd_Law_law_392 (lv_at hl 1 rfl) ?_
    refine lv_iconst (v := 1) hx hb nd_Law_law_394 (by decide) ?_
    refine lv_iadd hx hb nd_Law_law_395 ?_
    refine ks_ld X Y (n := 6 * j + 1) (by rw [show (1 : Int32) = nI 1 from rfl, nI_add]) (by omega) nd_Law_law_396 ?_
    refine lv_i2l hx hb nd_Law_law_397 rfl ?_
    refine lv_bipush (v := 32) hx hb nd_Law_law_398 (by decide) ?_
    refine lv_lshl hx hb nd_Law_law_400 rfl ?_
    refine lv_aload_n hx hb nd_Law_law_401 rfl (lv_at hl 5 rfl) ?_
    refine lv_iload hx hb nd_Law_law_402 (lv_at hl 1 rfl) ?_
    refine lv_iconst (v := 2) hx hb nd_Law_law_404 (by decide) ?_
    refine lv_iadd hx hb nd_Law_law_405 ?_
    refine ks_ld X Y (n := 6 * j + 2) (by rw [show (2 : Int32) = nI 2 from rfl, nI_add]) (by omega) nd_Law_law_406 ?_
    refine lv_i2l hx hb nd_Law_law_407 rfl ?_
    refine lv_ldc2 (v := 4294967295) hx hb hown (hts _ nw_1033) nd_Law_law_408 ?_
    refine lv_land hx hb nd_Law_law_411 ?_
    refine lv_lor hx hb nd_Law_law_412 ?_
    refine kf_V (As := [.long (((((xs (6 * j + 1))).toInt64) <<< ((32 : Int32).toInt64 &&& 63)) ||| ((((xs (6 * j + 2))).toInt64) &&& 4294967295))]) (rest := []) (st1 := [.int (r.1)]) ⟨hx, hb, hml, hown, hts⟩ (mc_M_input (bm_D (b := bX)) (((((xs (6 * j + 1))).toInt64) <<< ((32 : Int32).toInt64 &&& 63)) ||| ((((xs (6 * j + 2))).toInt64) &&& 4294967295)) g r hr) (kb_M_input hts (hts _ nw_842) ⟨Nat.le_of_ble_eq_true rfl, Nat.le_of_ble_eq_true rfl⟩) (mr_M hKm hPm) (fun q9 h9 => by unfold lA; have := h9.1; omega) hKm hN hPm hS rfl hl.1 rfl rfl (Nat.le_of_ble_eq_true rfl) ⟨by show _ ≤ room_1.cells; omega, by show _ ≤ room_1.slots; omega⟩ nd_Law_law_413 (fun H locs hPm h5 hS => ?_)
    have hPx := wdG_kept hPx (H1 := H) (fun i hi hlt => h5 _ hlt (fun hb9 => by have := xpi_lt i hi; have h6 : bX + 61 ≤ bX + xpi i := hb9.1; omega))
    have hO := oW_kept hO (H1 := H) (fun q9 g1 g2 => h5 q9 g1 (fun hb9 => by have h6 : q9 < bX + 61 + 21 := hb9.2; omega))
    have Y : LY s Dx Dm cA cB bX (h) (r.2) f H locs := ⟨hPx, hPm, hO, hS⟩
    refine lv_istore (lv' := [(6, .int (r.1)), (5, .int 1), (4, .int (nI (6 * j))), (3, .ref (bX + 82)), (2, .ref (gad (bX + 61) 0)), (1, .ref (xad bX 0)), (0, .ref b)]) hx hb nd_Law_law_416 hl (by decide) rfl (fun ls hl => ?_)
    refine lv_aload_n hx hb nd_Law_law_418 rfl (lv_at hl 4 rfl) ?_
    refine kf_V (As := []) (rest := []) (st1 := [.int (mh_vfault (r.2))]) ⟨hx, hb, hml, hown, hts⟩ (mc_M_thrown (bm_D (b := bX)) (r.2) (mh_vfault (r.2)) rfl) (kb_M_thrown hts (hts _ nw_806) ⟨Nat.le_of_ble_eq_true rfl, Nat.le_of_ble_eq_true rfl⟩) (mr_M hKm hPm) (fun q9 h9 => by unfold lA; have := h9.1; omega) hKm hN hPm hS rfl hl.1 rfl rfl (Nat.le_of_ble_eq_true rfl) ⟨by show _ ≤ room_1.cells; omega, by show _ ≤ room_1.slots; omega⟩ nd_Law_law_419 (fun H locs hPm h5 hS => ?_)
    have hPx := wdG_kept hPx (H1 := H) (fun i hi hlt => h5 _ hlt (fun hb9 => by have := xpi_lt i hi; have h6 : bX + 61 ≤ bX + xpi i := hb9.1; omega))
    have hO := oW_kept hO (H1 := H) (fun q9 g1 g2 => h5 q9 g1 (fun hb9 => by have h6 : q9 < bX + 61 + 21 := hb9.2; omega))
    have Y : LY s Dx Dm cA cB bX (h) (r.2) f H locs := ⟨hPx, hPm, hO, hS⟩
    refine lv_iload hx hb nd_Law_law_422 (lv_at hl 1 rfl) ?_
    refine lv_icmp_eq (tgt := 429) hx hb nd_Law_law_424 rfl (fun _ => ?_) (fun hc => absurd hft hc)
    refine lv_iload hx hb nd_Law_law_429 (lv_at hl 1 rfl) ?_
    refine lv_if_ne (tgt := 446) hx hb nd_Law_law_431 rfl (fun _ => ?_) (fun hc => absurd hc (by decide))
    refine lv_goto hx hb nd_Law_law_446 (tgt := 1057) rfl ?_
    refine W.widen (k := cells + 1) (n := slots + 6) (by omega) (by omega) ?_
    exact kk H locs ls (h) (r.2) f ⟨hPx, hPm, hO, hS⟩ hRel (lv_sub hl [2, 3, 4, 5, 6] rfl)
set_option maxHeartbeats 4000000 in
set_option maxRecDepth 100000 in
theorem lc_clear {p : Program} {l : Launch} {e : Env} {s : State} {m : MethodId} {below : List Frame} {meth : Method} {c : Code} {Q : State → Prop} {b L : Nat} {xs : Nat → Int32} {Dx Dm : va_G} {cA cB : Nat → ClassId} {bX : Nat} (X : LX p l s m c b L xs Dx Dm cA cB bX) {Rel : XH → MH → Prop} (hOK : OK_clear Rel) {H : Heap} {locs : List Loc} {cells slots j : Nat} {ls : Array Slot} {h : XH} {g : MH} {f : Nat → Int64} (Y : LY s Dx Dm cA cB bX h g f H locs) (hR : Rel h g) (hj : 6 * j + 6 ≤ L) (hcs : cells + 1 ≤ room_1.cells ∧ slots + 6 ≤ room_1.slots) (hl : lv_has ls 8 [(4, .int (nI (6 * j))), (3, .ref (bX + 82)), (2, .ref (gad (bX + 61) 0)), (1, .ref (xad bX 0)), (0, .ref b)])
    (kk : ∀ (H : Heap) (locs : List Loc) (ls : Array Slot) (h : XH) (g : MH) (f : Nat → Int64), LY s Dx Dm cA cB bX h g f H locs → Rel h g → lv_has ls 8 [(4, .int (nI (6 * j))), (3, .ref (bX + 82)), (2, .ref (gad (bX + 61) 0)), (1, .ref (xad bX 0)), (0, .ref b)] → W p l e room_1 s m #[Value.ref b] below meth c H locs (cells + 1) (slots + 6) Q (F0 m 1057 ls [])) : W p l e room_1 s m #[Value.ref b] below meth c H locs cells slots Q (F0 m 449 ls []) := by
  have X0 := X
  obtain ⟨hx, hb, hml, hown, hts, hX, hbl, hKx, hKm, hN, hTW, hNC, hfl, hbX, hL⟩ := X0
  obtain ⟨hPx, hPm, hO, hS⟩ := Y
  have Y : LY s Dx Dm cA cB bX h g f H locs := ⟨hPx, hPm, hO, hS⟩
  obtain ⟨fx, fm, r, q, hr, hq, hRel⟩ := hOK h g hR
  refine lv_aload_n hx hb nd_Law_law_449 rfl (lv_at hl 3 rfl) ?_
  refine kf_V (As := []) (rest := []) (st1 := []) ⟨hx, hb, hml, hown, hts⟩ (xc_P_clear bx_D fx h q hq) (kb_P_clear hts (hts _ nw_237) ⟨Nat.le_of_ble_eq_true rfl, Nat.le_of_ble_eq_true rfl⟩) (xr_DP hKx hPx) (fun q9 h9 => by unfold lA; have := h9.1; omega) hKx hN hPx hS rfl hl.1 rfl rfl (Nat.le_of_ble_eq_true rfl) ⟨by show _ ≤ room_1.cells; omega, by show _ ≤ room_1.slots; omega⟩ nd_Law_law_450 (fun H locs hPx h5 hS => ?_)
  have hPm := wdG_kept hPm (H1 := H) (fun i hi hlt => h5 _ hlt (fun hb9 => by have h6 : bX + 61 + i < bX + 61 := hb9.2; omega))
  have hO := oW_kept hO (H1 := H) (fun q9 g1 g2 => h5 q9 g1 (fun hb9 => by have h6 : q9 < bX + 61 := hb9.2; omega))
  have Y : LY s Dx Dm cA cB bX (q) g f H locs := ⟨hPx, hPm, hO, hS⟩
  refine lv_aload_n hx hb nd_Law_law_453 rfl (lv_at hl 2 rfl) ?_
  refine kf_V (As := []) (rest := []) (st1 := []) ⟨hx, hb, hml, hown, hts⟩ (mc_M_clear (bm_D (b := bX)) fm g r hr) (kb_M_clear hts (hts _ nw_846) ⟨Nat.le_of_ble_eq_true rfl, Nat.le_of_ble_eq_true rfl⟩) (mr_M hKm hPm) (fun q9 h9 => by unfold lA; have := h9.1; omega) hKm hN hPm hS rfl hl.1 rfl rfl (Nat.le_of_ble_eq_true rfl) ⟨by show _ ≤ room_1.cells; omega, by show _ ≤ room_1.slots; omega⟩ nd_Law_law_454 (fun H locs hPm h5 hS => ?_)
  have hPx := wdG_kept hPx (H1 := H) (fun i hi hlt => h5 _ hlt (fun hb9 => by have := xpi_lt i hi; have h6 : bX + 61 ≤ bX + xpi i := hb9.1; omega))
  have hO := oW_kept hO (H1 := H) (fun q9 g1 g2 => h5 q9 g1 (fun hb9 => by have h6 : q9 < bX + 61 + 21 := hb9.2; omega))
  refine lv_goto hx hb nd_Law_law_457 (tgt := 1057) rfl ?_
  refine W.widen (k := cells + 1) (n := slots + 6) (by omega) (by omega) ?_
  exact kk H locs ls (q) (r) f ⟨hPx, hPm, hO, hS⟩ hRel (lv_sub hl [0, 1, 2, 3, 4] rfl)
set_option maxHeartbeats 4000000 in
set_option maxRecDepth 100000 in
theorem lc_start {p : Program} {l : Launch} {e : Env} {s : State} {m : MethodId} {below : List Frame} {meth : Method} {c : Code} {Q : State → Prop} {b L : Nat} {xs : Nat → Int32} {Dx Dm : va_G} {cA cB : Nat → ClassId} {bX : Nat} (X : LX p l s m c b L xs Dx Dm cA cB bX) {Rel : XH → MH → Prop} (hOK : OK_start Rel) {H : Heap} {locs : List Loc} {cells slots j : Nat} {ls : Array Slot} {h : XH} {g : MH} {f : Nat → Int64} (Y : LY s Dx Dm cA cB bX h g f H locs) (hR : Rel h g) (hj : 6 * j + 6 ≤ L) (hcs : cells + 1 ≤ room_1.cells ∧ slots + 6 ≤ room_1.slots) (hl : lv_has ls 8 [(4, .int (nI (6 * j))), (3, .ref (bX + 82)), (2, .ref (gad (bX + 61) 0)), (1, .ref (xad bX 0)), (0, .ref b)])
    (kk : ∀ (H : Heap) (locs : List Loc) (ls : Array Slot) (h : XH) (g : MH) (f : Nat → Int64), LY s Dx Dm cA cB bX h g f H locs → Rel h g → lv_has ls 8 [(4, .int (nI (6 * j))), (3, .ref (bX + 82)), (2, .ref (gad (bX + 61) 0)), (1, .ref (xad bX 0)), (0, .ref b)] → W p l e room_1 s m #[Value.ref b] below meth c H locs (cells + 1) (slots + 6) Q (F0 m 1057 ls [])) : W p l e room_1 s m #[Value.ref b] below meth c H locs cells slots Q (F0 m 460 ls []) := by
  have X0 := X
  obtain ⟨hx, hb, hml, hown, hts, hX, hbl, hKx, hKm, hN, hTW, hNC, hfl, hbX, hL⟩ := X0
  obtain ⟨hPx, hPm, hO, hS⟩ := Y
  have Y : LY s Dx Dm cA cB bX h g f H locs := ⟨hPx, hPm, hO, hS⟩
  obtain ⟨fx, fm, r, q, hr, hq, hRel⟩ := hOK h g hR
  refine lv_aload_n hx hb nd_Law_law_460 rfl (lv_at hl 3 rfl) ?_
  refine kf_V (As := []) (rest := []) (st1 := []) ⟨hx, hb, hml, hown, hts⟩ (xc_P_start bx_D h q hq) (kb_P_start hts (hts _ nw_254) ⟨Nat.le_of_ble_eq_true rfl, Nat.le_of_ble_eq_true rfl⟩) (xr_DP hKx hPx) (fun q9 h9 => by unfold lA; have := h9.1; omega) hKx hN hPx hS rfl hl.1 rfl rfl (Nat.le_of_ble_eq_true rfl) ⟨by show _ ≤ room_1.cells; omega, by show _ ≤ room_1.slots; omega⟩ nd_Law_law_461 (fun H locs hPx h5 hS => ?_)
  have hPm := wdG_kept hPm (H1 := H) (fun i hi hlt => h5 _ hlt (fun hb9 => by have h6 : bX + 61 + i < bX + 61 := hb9.2; omega))
  have hO := oW_kept hO (H1 := H) (fun q9 g1 g2 => h5 q9 g1 (fun hb9 => by have h6 : q9 < bX + 61 := hb9.2; omega))
  have Y : LY s Dx Dm cA cB bX (q) g f H locs := ⟨hPx, hPm, hO, hS⟩
  refine lv_aload_n hx hb nd_Law_law_464 rfl (lv_at hl 2 rfl) ?_
  refine kf_V (As := []) (rest := []) (st1 := []) ⟨hx, hb, hml, hown, hts⟩ (mc_M_start (bm_D (b := bX)) g r hr) (kb_M_start hts (hts _ nw_850) ⟨Nat.le_of_ble_eq_true rfl, Nat.le_of_ble_eq_true rfl⟩) (mr_M hKm hPm) (fun q9 h9 => by unfold lA; have := h9.1; omega) hKm hN hPm hS rfl hl.1 rfl rfl (Nat.le_of_ble_eq_true rfl) ⟨by show _ ≤ room_1.cells; omega, by show _ ≤ room_1.slots; omega⟩ nd_Law_law_465 (fun H locs hPm h5 hS => ?_)
  have hPx := wdG_kept hPx (H1 := H) (fun i hi hlt => h5 _ hlt (fun hb9 => by have := xpi_lt i hi; have h6 : bX + 61 ≤ bX + xpi i := hb9.1; omega))
  have hO := oW_kept hO (H1 := H) (fun q9 g1 g2 => h5 q9 g1 (fun hb9 => by have h6 : q9 < bX + 61 + 21 := hb9.2; omega))
  refine lv_goto hx hb nd_Law_law_468 (tgt := 1057) rfl ?_
  refine W.widen (k := cells + 1) (n := slots + 6) (by omega) (by omega) ?_
  exact kk H locs ls (q) (r) f ⟨hPx, hPm, hO, hS⟩ hRel (lv_sub hl [0, 1, 2, 3, 4] rfl)
set_option maxHeartbeats 4000000 in
set_option maxRecDepth 100000 in
theorem lc_step {p : Program} {l : Launch} {e : Env} {s : State} {m : MethodId} {below : List Frame} {meth : Method} {c : Code} {Q : State → Prop} {b L : Nat} {xs : Nat → Int32} {Dx Dm : va_G} {cA cB : Nat → ClassId} {bX : Nat} (X : LX p l s m c b L xs Dx Dm cA cB bX) {Rel : XH → MH → Prop} (hOK : OK_step Rel) {H : Heap} {locs : List Loc} {cells slots j : Nat} {ls : Array Slot} {h : XH} {g : MH} {f : Nat → Int64} (Y : LY s Dx Dm cA cB bX h g f H locs) (hR : Rel h g) (hj : 6 * j + 6 ≤ L) (hcs : cells + 1 ≤ room_1.cells ∧ slots + 6 ≤ room_1.slots) (hl : lv_has ls 8 [(4, .int (nI (6 * j))), (3, .ref (bX + 82)), (2, .ref (gad (bX + 61) 0)), (1, .ref (xad bX 0)), (0, .ref b)])
    (kk : ∀ (H : Heap) (locs : List Loc) (ls : Array Slot) (h : XH) (g : MH) (f : Nat → Int64), LY s Dx Dm cA cB bX h g f H locs → Rel h g → lv_has ls 8 [(4, .int (nI (6 * j))), (3, .ref (bX + 82)), (2, .ref (gad (bX + 61) 0)), (1, .ref (xad bX 0)), (0, .ref b)] → W p l e room_1 s m #[Value.ref b] below meth c H locs (cells + 1) (slots + 6) Q (F0 m 1057 ls [])) : W p l e room_1 s m #[Value.ref b] below meth c H locs cells slots Q (F0 m 471 ls []) := by
  have X0 := X
  obtain ⟨hx, hb, hml, hown, hts, hX, hbl, hKx, hKm, hN, hTW, hNC, hfl, hbX, hL⟩ := X0
  obtain ⟨hPx, hPm, hO, hS⟩ := Y
  have Y : LY s Dx Dm cA cB bX h g f H locs := ⟨hPx, hPm, hO, hS⟩
  obtain ⟨fx, fm, r, hr, hall⟩ := hOK h g hR ((xs (6 * j + 1)))
  refine lv_aload_n hx hb nd_Law_law_471 rfl (lv_at hl 3 rfl) ?_
  refine lv_aload_n hx hb nd_Law_law_472 rfl (lv_at hl 4 rfl) ?_
  refine lv_iload hx hb nd_Law_law_473 (lv_at hl 0 rfl) ?_
  refine lv_iconst (v := 1) hx hb nd_Law_law_475 (by decide) ?_
  refine lv_iadd hx hb nd_Law_law_476 ?_
  refine ks_ld X Y (n := 6 * j + 1) (by rw [show (1 : Int32) = nI 1 from rfl, nI_add]) (by omega) nd_Law_law_477 ?_
  refine lv_aload_n hx hb nd_Law_law_478 rfl (lv_at hl 1 rfl) ?_
  rcases hall with ⟨q, hq, hft, heq, hRel⟩ | ⟨hq, hft, hRel⟩
  · refine kl_H (kw_S (hh := [(0, 9, 12, 15)]) (As := [.ref (xad bX 0), .int (xs (6 * j + 1)), .ref (bX + 82)]) (rest := []) ⟨hx, hb, hml, hown, hts⟩ (lr_step bx_D (fun h9 => by have h6 : bX + 82 < bX + 61 := h9.2; omega) fx (xs (6 * j + 1)) f h q hq) rfl rfl (Nat.le_of_ble_eq_true rfl) (Nat.le_of_ble_eq_true rfl) (pay_in hts (wsH_good nw_504)) List.mem_cons_self (hts _ nw_504) (hts _ nw_0) ⟨by decide, by decide⟩ (n := 3) (by decide +kernel) (hts _ nw_502) (hts _ nw_503) ⟨HP_blind, fun U hU hW => ⟨rfl, by rw [hU]; exact hPx, by rw [hU]; exact hO, va_K.moved hW.alike hKx, NW.warm hW hN, TW.kept hW (fun q9 h9 => by rw [hU]; exact hS.2.1 q9 h9 (fun h8 => by unfold lA at h8; omega)) hTW, NC.moved hW.alike hNC⟩⟩ rfl hl.1 rfl (Nat.le_of_ble_eq_true rfl) nd_Law_law_479 ⟨by show _ ≤ room_1.cells; omega, by show _ ≤ room_1.slots; omega⟩) (fun q9 h9 => by unfold lA; exact h9.elim (fun h8 => by have := h8.1; omega) (fun h8 => by omega)) hS (fun H locs hPx hO h5 hS => ?_)
    have hPm := wdG_kept hPm (H1 := H) (fun i hi hlt => h5 _ hlt (fun hb9 => by have e9 : gad (bX + 61) i = bX + 61 + i := rfl; rw [e9] at hb9; exact hb9.elim (fun h8 => by have h6 : bX + 61 + i < bX + 61 := h8.2; omega) (fun h8 => by omega)))
    have Y : LY s Dx Dm cA cB bX (q.2) g (va_up f 0 (q.1).toInt64) H locs := ⟨hPx, hPm, hO, hS⟩
    refine lv_istore (lv' := [(5, .int 0), (4, .int (nI (6 * j))), (3, .ref (bX + 82)), (2, .ref (gad (bX + 61) 0)), (1, .ref (xad bX 0)), (0, .ref b)]) hx hb nd_Law_law_482 hl (by decide) rfl (fun ls hl => ?_)
    refine lv_aload_n hx hb nd_Law_law_484 rfl (lv_at hl 3 rfl) ?_
    refine lv_aload_n hx hb nd_Law_law_485 rfl (lv_at hl 5 rfl) ?_
    refine lv_iload hx hb nd_Law_law_486 (lv_at hl 1 rfl) ?_
    refine lv_iconst (v := 1) hx hb nd_Law_law_488 (by decide) ?_
    refine lv_iadd hx hb nd_Law_law_489 ?_
    refine ks_ld X Y (n := 6 * j + 1) (by rw [show (1 : Int32) = nI 1 from rfl, nI_add]) (by omega) nd_Law_law_490 ?_
    refine kf_V (As := [.int (xs (6 * j + 1))]) (rest := []) (st1 := [.int (r.1)]) ⟨hx, hb, hml, hown, hts⟩ (mc_M_step (bm_D (b := bX)) fm (xs (6 * j + 1)) g r hr) (kb_M_step hts (hts _ nw_858) ⟨Nat.le_of_ble_eq_true rfl, Nat.le_of_ble_eq_true rfl⟩) (mr_M hKm hPm) (fun q9 h9 => by unfold lA; have := h9.1; omega) hKm hN hPm hS rfl hl.1 rfl rfl (Nat.le_of_ble_eq_true rfl) ⟨by show _ ≤ room_1.cells; omega, by show _ ≤ room_1.slots; omega⟩ nd_Law_law_491 (fun H locs hPm h5 hS => ?_)
    have hPx := wdG_kept hPx (H1 := H) (fun i hi hlt => h5 _ hlt (fun hb9 => by have := xpi_lt i hi; have h6 : bX + 61 ≤ bX + xpi i := hb9.1; omega))
    have hO := oW_kept hO (H1 := H) (fun q9 g1 g2 => h5 q9 g1 (fun hb9 => by have h6 : q9 < bX + 61 + 21 := hb9.2; omega))
    have Y : LY s Dx Dm cA cB bX (q.2) (r.2) (va_up f 0 (q.1).toInt64) H locs := ⟨hPx, hPm, hO, hS⟩
    refine lv_istore (lv' := [(6, .int (r.1)), (5, .int 0), (4, .int (nI (6 * j))), (3, .ref (bX + 82)), (2, .ref (gad (bX + 61) 0)), (1, .ref (xad bX 0)), (0, .ref b)]) hx hb nd_Law_law_494 hl (by decide) rfl (fun ls hl => ?_)
    refine lv_aload_n hx hb nd_Law_law_496 rfl (lv_at hl 4 rfl) ?_
    refine kf_V (As := []) (rest := []) (st1 := [.int (mh_vfault (r.2))]) ⟨hx, hb, hml, hown, hts⟩ (mc_M_thrown (bm_D (b := bX)) (r.2) (mh_vfault (r.2)) rfl) (kb_M_thrown hts (hts _ nw_806) ⟨Nat.le_of_ble_eq_true rfl, Nat.le_of_ble_eq_true rfl⟩) (mr_M hKm hPm) (fun q9 h9 => by unfold lA; have := h9.1; omega) hKm hN hPm hS rfl hl.1 rfl rfl (Nat.le_of_ble_eq_true rfl) ⟨by show _ ≤ room_1.cells; omega, by show _ ≤ room_1.slots; omega⟩ nd_Law_law_497 (fun H locs hPm h5 hS => ?_)
    have hPx := wdG_kept hPx (H1 := H) (fun i hi hlt => h5 _ hlt (fun hb9 => by have := xpi_lt i hi; have h6 : bX + 61 ≤ bX + xpi i := hb9.1; omega))
    have hO := oW_kept hO (H1 := H) (fun q9 g1 g2 => h5 q9 g1 (fun hb9 => by have h6 : q9 < bX + 61 + 21 := hb9.2; omega))
    have Y : LY s Dx Dm cA cB bX (q.2) (r.2) (va_up f 0 (q.1).toInt64) H locs := ⟨hPx, hPm, hO, hS⟩
    refine lv_iload hx hb nd_Law_law_500 (lv_at hl 1 rfl) ?_
    refine lv_icmp_eq (tgt := 507) hx hb nd_Law_law_502 rfl (fun _ => ?_) (fun hc => absurd hft hc)
    refine lv_iload hx hb nd_Law_law_507 (lv_at hl 1 rfl) ?_
    refine lv_if_ne (tgt := 524) hx hb nd_Law_law_509 rfl (fun hc => absurd rfl hc) (fun _ => ?_)
    refine lv_aload_n hx hb nd_Law_law_512 rfl (lv_at hl 3 rfl) ?_
    refine lv_iconst (v := 0) hx hb nd_Law_law_513 (by decide) ?_
    refine va_lald (f := (va_up f 0 (q.1).toInt64)) hx hb hKx hO 0 2 rfl rfl (i := 0) (show vp_in 0 1 by unfold vp_in; decide) nd_Law_law_514 ?_
    rw [show (va_up f 0 (q.1).toInt64) ((0 : Int32).toNatClampNeg) = (q.1).toInt64 from up_eq]
    refine lv_iload hx hb nd_Law_law_515 (lv_at hl 0 rfl) ?_
    refine lv_i2l hx hb nd_Law_law_517 rfl ?_
    rw [heq]
    refine W.lcmp hx hb nd_Law_law_518 ?_
    refine lv_if_eq (tgt := 524) hx hb nd_Law_law_519 rfl (fun _ => ?_) (fun hc => absurd (lg_self _) hc)
    refine lv_goto hx hb nd_Law_law_524 (tgt := 1057) rfl ?_
    refine W.widen (k := cells + 1) (n := slots + 6) (by omega) (by omega) ?_
    exact kk H locs ls (q.2) (r.2) (va_up f 0 (q.1).toInt64) ⟨hPx, hPm, hO, hS⟩ hRel (lv_sub hl [2, 3, 4, 5, 6] rfl)
  · refine kl_H (kw_S (hh := [(0, 9, 12, 15)]) (As := [.ref (xad bX 0), .int (xs (6 * j + 1)), .ref (bX + 82)]) (rest := []) ⟨hx, hb, hml, hown, hts⟩ (lt_step_2 (B := bx bX) hfl fx (xs (6 * j + 1)) f h hq) rfl rfl (Nat.le_of_ble_eq_true rfl) (Nat.le_of_ble_eq_true rfl) (pay_in hts (wsH_good nw_504)) List.mem_cons_self (hts _ nw_504) (hts _ nw_0) ⟨by decide, by decide⟩ (n := 3) (by decide +kernel) (hts _ nw_502) (hts _ nw_503) ⟨HP_blind, fun U hU hW => ⟨rfl, by rw [hU]; exact hPx, by rw [hU]; exact hO, va_K.moved hW.alike hKx, NW.warm hW hN, TW.kept hW (fun q9 h9 => by rw [hU]; exact hS.2.1 q9 h9 (fun h8 => by unfold lA at h8; omega)) hTW, NC.moved hW.alike hNC⟩⟩ rfl hl.1 rfl (Nat.le_of_ble_eq_true rfl) nd_Law_law_479 ⟨by show _ ≤ room_1.cells; omega, by show _ ≤ room_1.slots; omega⟩) (fun q9 h9 => by unfold lA; exact h9.elim (fun h8 => by have := h8.1; omega) (fun h8 => by omega)) hS (fun H locs hPx hO h5 hS => ?_)
    have hPm := wdG_kept hPm (H1 := H) (fun i hi hlt => h5 _ hlt (fun hb9 => by have e9 : gad (bX + 61) i = bX + 61 + i := rfl; rw [e9] at hb9; exact hb9.elim (fun h8 => by have h6 : bX + 61 + i < bX + 61 := h8.2; omega) (fun h8 => by omega)))
    have Y : LY s Dx Dm cA cB bX (h) g f H locs := ⟨hPx, hPm, hO, hS⟩
    refine lv_istore (lv' := [(5, .int 1), (4, .int (nI (6 * j))), (3, .ref (bX + 82)), (2, .ref (gad (bX + 61) 0)), (1, .ref (xad bX 0)), (0, .ref b)]) hx hb nd_Law_law_482 hl (by decide) rfl (fun ls hl => ?_)
    refine lv_aload_n hx hb nd_Law_law_484 rfl (lv_at hl 3 rfl) ?_
    refine lv_aload_n hx hb nd_Law_law_485 rfl (lv_at hl 5 rfl) ?_
    refine lv_iload hx hb nd_Law_law_486 (lv_at hl 1 rfl) ?_
    refine lv_iconst (v := 1) hx hb nd_Law_law_488 (by decide) ?_
    refine lv_iadd hx hb nd_Law_law_489 ?_
    refine ks_ld X Y (n := 6 * j + 1) (by rw [show (1 : Int32) = nI 1 from rfl, nI_add]) (by omega) nd_Law_law_490 ?_
    refine kf_V (As := [.int (xs (6 * j + 1))]) (rest := []) (st1 := [.int (r.1)]) ⟨hx, hb, hml, hown, hts⟩ (mc_M_step (bm_D (b := bX)) fm (xs (6 * j + 1)) g r hr) (kb_M_step hts (hts _ nw_858) ⟨Nat.le_of_ble_eq_true rfl, Nat.le_of_ble_eq_true rfl⟩) (mr_M hKm hPm) (fun q9 h9 => by unfold lA; have := h9.1; omega) hKm hN hPm hS rfl hl.1 rfl rfl (Nat.le_of_ble_eq_true rfl) ⟨by show _ ≤ room_1.cells; omega, by show _ ≤ room_1.slots; omega⟩ nd_Law_law_491 (fun H locs hPm h5 hS => ?_)
    have hPx := wdG_kept hPx (H1 := H) (fun i hi hlt => h5 _ hlt (fun hb9 => by have := xpi_lt i hi; have h6 : bX + 61 ≤ bX + xpi i := hb9.1; omega))
    have hO := oW_kept hO (H1 := H) (fun q9 g1 g2 => h5 q9 g1 (fun hb9 => by have h6 : q9 < bX + 61 + 21 := hb9.2; omega))
    have Y : LY s Dx Dm cA cB bX (h) (r.2) f H locs := ⟨hPx, hPm, hO, hS⟩
    refine lv_istore (lv' := [(6, .int (r.1)), (5, .int 1), (4, .int (nI (6 * j))), (3, .ref (bX + 82)), (2, .ref (gad (bX + 61) 0)), (1, .ref (xad bX 0)), (0, .ref b)]) hx hb nd_Law_law_494 hl (by decide) rfl (fun ls hl => ?_)
    refine lv_aload_n hx hb nd_Law_law_496 rfl (lv_at hl 4 rfl) ?_
    refine kf_V (As := []) (rest := []) (st1 := [.int (mh_vfault (r.2))]) ⟨hx, hb, hml, hown, hts⟩ (mc_M_thrown (bm_D (b := bX)) (r.2) (mh_vfault (r.2)) rfl) (kb_M_thrown hts (hts _ nw_806) ⟨Nat.le_of_ble_eq_true rfl, Nat.le_of_ble_eq_true rfl⟩) (mr_M hKm hPm) (fun q9 h9 => by unfold lA; have := h9.1; omega) hKm hN hPm hS rfl hl.1 rfl rfl (Nat.le_of_ble_eq_true rfl) ⟨by show _ ≤ room_1.cells; omega, by show _ ≤ room_1.slots; omega⟩ nd_Law_law_497 (fun H locs hPm h5 hS => ?_)
    have hPx := wdG_kept hPx (H1 := H) (fun i hi hlt => h5 _ hlt (fun hb9 => by have := xpi_lt i hi; have h6 : bX + 61 ≤ bX + xpi i := hb9.1; omega))
    have hO := oW_kept hO (H1 := H) (fun q9 g1 g2 => h5 q9 g1 (fun hb9 => by have h6 : q9 < bX + 61 + 21 := hb9.2; omega))
    have Y : LY s Dx Dm cA cB bX (h) (r.2) f H locs := ⟨hPx, hPm, hO, hS⟩
    refine lv_iload hx hb nd_Law_law_500 (lv_at hl 1 rfl) ?_
    refine lv_icmp_eq (tgt := 507) hx hb nd_Law_law_502 rfl (fun _ => ?_) (fun hc => absurd hft hc)
    refine lv_iload hx hb nd_Law_law_507 (lv_at hl 1 rfl) ?_
    refine lv_if_ne (tgt := 524) hx hb nd_Law_law_509 rfl (fun _ => ?_) (fun hc => absurd hc (by decide))
    refine lv_goto hx hb nd_Law_law_524 (tgt := 1057) rfl ?_
    refine W.widen (k := cells + 1) (n := slots + 6) (by omega) (by omega) ?_
    exact kk H locs ls (h) (r.2) f ⟨hPx, hPm, hO, hS⟩ hRel (lv_sub hl [2, 3, 4, 5, 6] rfl)
set_option maxHeartbeats 4000000 in
set_option maxRecDepth 100000 in
theorem lc_fast {p : Program} {l : Launch} {e : Env} {s : State} {m : MethodId} {below : List Frame} {meth : Method} {c : Code} {Q : State → Prop} {b L : Nat} {xs : Nat → Int32} {Dx Dm : va_G} {cA cB : Nat → ClassId} {bX : Nat} (X : LX p l s m c b L xs Dx Dm cA cB bX) {Rel : XH → MH → Prop} (hOK : OK_fast Rel) {H : Heap} {locs : List Loc} {cells slots j : Nat} {ls : Array Slot} {h : XH} {g : MH} {f : Nat → Int64} (Y : LY s Dx Dm cA cB bX h g f H locs) (hR : Rel h g) (hj : 6 * j + 6 ≤ L) (hcs : cells + 1 ≤ room_1.cells ∧ slots + 6 ≤ room_1.slots) (hl : lv_has ls 8 [(4, .int (nI (6 * j))), (3, .ref (bX + 82)), (2, .ref (gad (bX + 61) 0)), (1, .ref (xad bX 0)), (0, .ref b)])
    (kk : ∀ (H : Heap) (locs : List Loc) (ls : Array Slot) (h : XH) (g : MH) (f : Nat → Int64), LY s Dx Dm cA cB bX h g f H locs → Rel h g → lv_has ls 8 [(4, .int (nI (6 * j))), (3, .ref (bX + 82)), (2, .ref (gad (bX + 61) 0)), (1, .ref (xad bX 0)), (0, .ref b)] → W p l e room_1 s m #[Value.ref b] below meth c H locs (cells + 1) (slots + 6) Q (F0 m 1057 ls [])) : W p l e room_1 s m #[Value.ref b] below meth c H locs cells slots Q (F0 m 527 ls []) := by
  have X0 := X
  obtain ⟨hx, hb, hml, hown, hts, hX, hbl, hKx, hKm, hN, hTW, hNC, hfl, hbX, hL⟩ := X0
  obtain ⟨hPx, hPm, hO, hS⟩ := Y
  have Y : LY s Dx Dm cA cB bX h g f H locs := ⟨hPx, hPm, hO, hS⟩
  obtain ⟨fx, fm, r, hr, hall⟩ := hOK h g hR ((xs (6 * j + 1)))
  refine lv_aload_n hx hb nd_Law_law_527 rfl (lv_at hl 3 rfl) ?_
  refine lv_aload_n hx hb nd_Law_law_528 rfl (lv_at hl 4 rfl) ?_
  refine lv_iload hx hb nd_Law_law_529 (lv_at hl 0 rfl) ?_
  refine lv_iconst (v := 1) hx hb nd_Law_law_531 (by decide) ?_
  refine lv_iadd hx hb nd_Law_law_532 ?_
  refine ks_ld X Y (n := 6 * j + 1) (by rw [show (1 : Int32) = nI 1 from rfl, nI_add]) (by omega) nd_Law_law_533 ?_
  refine lv_aload_n hx hb nd_Law_law_534 rfl (lv_at hl 1 rfl) ?_
  rcases hall with ⟨q, hq, hft, heq, hRel⟩ | ⟨hq, hft, hRel⟩
  · refine kl_H (kw_S (hh := [(0, 9, 12, 15)]) (As := [.ref (xad bX 0), .int (xs (6 * j + 1)), .ref (bX + 82)]) (rest := []) ⟨hx, hb, hml, hown, hts⟩ (lr_fast bx_D (fun h9 => by have h6 : bX + 82 < bX + 61 := h9.2; omega) fx (xs (6 * j + 1)) f h q hq) rfl rfl (Nat.le_of_ble_eq_true rfl) (Nat.le_of_ble_eq_true rfl) (pay_in hts (wsH_good nw_621)) List.mem_cons_self (hts _ nw_621) (hts _ nw_0) ⟨by decide, by decide⟩ (n := 3) (by decide +kernel) (hts _ nw_619) (hts _ nw_620) ⟨HP_blind, fun U hU hW => ⟨rfl, by rw [hU]; exact hPx, by rw [hU]; exact hO, va_K.moved hW.alike hKx, NW.warm hW hN, TW.kept hW (fun q9 h9 => by rw [hU]; exact hS.2.1 q9 h9 (fun h8 => by unfold lA at h8; omega)) hTW, NC.moved hW.alike hNC⟩⟩ rfl hl.1 rfl (Nat.le_of_ble_eq_true rfl) nd_Law_law_535 ⟨by show _ ≤ room_1.cells; omega, by show _ ≤ room_1.slots; omega⟩) (fun q9 h9 => by unfold lA; exact h9.elim (fun h8 => by have := h8.1; omega) (fun h8 => by omega)) hS (fun H locs hPx hO h5 hS => ?_)
    have hPm := wdG_kept hPm (H1 := H) (fun i hi hlt => h5 _ hlt (fun hb9 => by have e9 : gad (bX + 61) i = bX + 61 + i := rfl; rw [e9] at hb9; exact hb9.elim (fun h8 => by have h6 : bX + 61 + i < bX + 61 := h8.2; omega) (fun h8 => by omega)))
    have Y : LY s Dx Dm cA cB bX (q.2) g (va_up f 0 (q.1).toInt64) H locs := ⟨hPx, hPm, hO, hS⟩
    refine lv_istore (lv' := [(5, .int 0), (4, .int (nI (6 * j))), (3, .ref (bX + 82)), (2, .ref (gad (bX + 61) 0)), (1, .ref (xad bX 0)), (0, .ref b)]) hx hb nd_Law_law_538 hl (by decide) rfl (fun ls hl => ?_)
    refine lv_aload_n hx hb nd_Law_law_540 rfl (lv_at hl 3 rfl) ?_
    refine lv_aload_n hx hb nd_Law_law_541 rfl (lv_at hl 5 rfl) ?_
    refine lv_iload hx hb nd_Law_law_542 (lv_at hl 1 rfl) ?_
    refine lv_iconst (v := 1) hx hb nd_Law_law_544 (by decide) ?_
    refine lv_iadd hx hb nd_Law_law_545 ?_
    refine ks_ld X Y (n := 6 * j + 1) (by rw [show (1 : Int32) = nI 1 from rfl, nI_add]) (by omega) nd_Law_law_546 ?_
    refine kf_V (As := [.int (xs (6 * j + 1))]) (rest := []) (st1 := [.int (r.1)]) ⟨hx, hb, hml, hown, hts⟩ (mc_M_fast (bm_D (b := bX)) fm (xs (6 * j + 1)) g r hr) (kb_M_fast hts (hts _ nw_954) ⟨Nat.le_of_ble_eq_true rfl, Nat.le_of_ble_eq_true rfl⟩) (mr_M hKm hPm) (fun q9 h9 => by unfold lA; have := h9.1; omega) hKm hN hPm hS rfl hl.1 rfl rfl (Nat.le_of_ble_eq_true rfl) ⟨by show _ ≤ room_1.cells; omega, by show _ ≤ room_1.slots; omega⟩ nd_Law_law_547 (fun H locs hPm h5 hS => ?_)
    have hPx := wdG_kept hPx (H1 := H) (fun i hi hlt => h5 _ hlt (fun hb9 => by have := xpi_lt i hi; have h6 : bX + 61 ≤ bX + xpi i := hb9.1; omega))
    have hO := oW_kept hO (H1 := H) (fun q9 g1 g2 => h5 q9 g1 (fun hb9 => by have h6 : q9 < bX + 61 + 21 := hb9.2; omega))
    have Y : LY s Dx Dm cA cB bX (q.2) (r.2) (va_up f 0 (q.1).toInt64) H locs := ⟨hPx, hPm, hO, hS⟩
    refine lv_istore (lv' := [(6, .int (r.1)), (5, .int 0), (4, .int (nI (6 * j))), (3, .ref (bX + 82)), (2, .ref (gad (bX + 61) 0)), (1, .ref (xad bX 0)), (0, .ref b)]) hx hb nd_Law_law_550 hl (by decide) rfl (fun ls hl => ?_)
    refine lv_aload_n hx hb nd_Law_law_552 rfl (lv_at hl 4 rfl) ?_
    refine kf_V (As := []) (rest := []) (st1 := [.int (mh_vfault (r.2))]) ⟨hx, hb, hml, hown, hts⟩ (mc_M_thrown (bm_D (b := bX)) (r.2) (mh_vfault (r.2)) rfl) (kb_M_thrown hts (hts _ nw_806) ⟨Nat.le_of_ble_eq_true rfl, Nat.le_of_ble_eq_true rfl⟩) (mr_M hKm hPm) (fun q9 h9 => by unfold lA; have := h9.1; omega) hKm hN hPm hS rfl hl.1 rfl rfl (Nat.le_of_ble_eq_true rfl) ⟨by show _ ≤ room_1.cells; omega, by show _ ≤ room_1.slots; omega⟩ nd_Law_law_553 (fun H locs hPm h5 hS => ?_)
    have hPx := wdG_kept hPx (H1 := H) (fun i hi hlt => h5 _ hlt (fun hb9 => by have := xpi_lt i hi; have h6 : bX + 61 ≤ bX + xpi i := hb9.1; omega))
    have hO := oW_kept hO (H1 := H) (fun q9 g1 g2 => h5 q9 g1 (fun hb9 => by have h6 : q9 < bX + 61 + 21 := hb9.2; omega))
    have Y : LY s Dx Dm cA cB bX (q.2) (r.2) (va_up f 0 (q.1).toInt64) H locs := ⟨hPx, hPm, hO, hS⟩
    refine lv_iload hx hb nd_Law_law_556 (lv_at hl 1 rfl) ?_
    refine lv_icmp_eq (tgt := 563) hx hb nd_Law_law_558 rfl (fun _ => ?_) (fun hc => absurd hft hc)
    refine lv_iload hx hb nd_Law_law_563 (lv_at hl 1 rfl) ?_
    refine lv_if_ne (tgt := 580) hx hb nd_Law_law_565 rfl (fun hc => absurd rfl hc) (fun _ => ?_)
    refine lv_aload_n hx hb nd_Law_law_568 rfl (lv_at hl 3 rfl) ?_
    refine lv_iconst (v := 0) hx hb nd_Law_law_569 (by decide) ?_
    refine va_lald (f := (va_up f 0 (q.1).toInt64)) hx hb hKx hO 0 2 rfl rfl (i := 0) (show vp_in 0 1 by unfold vp_in; decide) nd_Law_law_570 ?_
    rw [show (va_up f 0 (q.1).toInt64) ((0 : Int32).toNatClampNeg) = (q.1).toInt64 from up_eq]
    refine lv_iload hx hb nd_Law_law_571 (lv_at hl 0 rfl) ?_
    refine lv_i2l hx hb nd_Law_law_573 rfl ?_
    rw [heq]
    refine W.lcmp hx hb nd_Law_law_574 ?_
    refine lv_if_eq (tgt := 580) hx hb nd_Law_law_575 rfl (fun _ => ?_) (fun hc => absurd (lg_self _) hc)
    refine lv_goto hx hb nd_Law_law_580 (tgt := 1057) rfl ?_
    refine W.widen (k := cells + 1) (n := slots + 6) (by omega) (by omega) ?_
    exact kk H locs ls (q.2) (r.2) (va_up f 0 (q.1).toInt64) ⟨hPx, hPm, hO, hS⟩ hRel (lv_sub hl [2, 3, 4, 5, 6] rfl)
  · refine kl_H (kw_S (hh := [(0, 9, 12, 15)]) (As := [.ref (xad bX 0), .int (xs (6 * j + 1)), .ref (bX + 82)]) (rest := []) ⟨hx, hb, hml, hown, hts⟩ (lt_fast_2 (B := bx bX) hfl fx (xs (6 * j + 1)) f h hq) rfl rfl (Nat.le_of_ble_eq_true rfl) (Nat.le_of_ble_eq_true rfl) (pay_in hts (wsH_good nw_621)) List.mem_cons_self (hts _ nw_621) (hts _ nw_0) ⟨by decide, by decide⟩ (n := 3) (by decide +kernel) (hts _ nw_619) (hts _ nw_620) ⟨HP_blind, fun U hU hW => ⟨rfl, by rw [hU]; exact hPx, by rw [hU]; exact hO, va_K.moved hW.alike hKx, NW.warm hW hN, TW.kept hW (fun q9 h9 => by rw [hU]; exact hS.2.1 q9 h9 (fun h8 => by unfold lA at h8; omega)) hTW, NC.moved hW.alike hNC⟩⟩ rfl hl.1 rfl (Nat.le_of_ble_eq_true rfl) nd_Law_law_535 ⟨by show _ ≤ room_1.cells; omega, by show _ ≤ room_1.slots; omega⟩) (fun q9 h9 => by unfold lA; exact h9.elim (fun h8 => by have := h8.1; omega) (fun h8 => by omega)) hS (fun H locs hPx hO h5 hS => ?_)
    have hPm := wdG_kept hPm (H1 := H) (fun i hi hlt => h5 _ hlt (fun hb9 => by have e9 : gad (bX + 61) i = bX + 61 + i := rfl; rw [e9] at hb9; exact hb9.elim (fun h8 => by have h6 : bX + 61 + i < bX + 61 := h8.2; omega) (fun h8 => by omega)))
    have Y : LY s Dx Dm cA cB bX (h) g f H locs := ⟨hPx, hPm, hO, hS⟩
    refine lv_istore (lv' := [(5, .int 1), (4, .int (nI (6 * j))), (3, .ref (bX + 82)), (2, .ref (gad (bX + 61) 0)), (1, .ref (xad bX 0)), (0, .ref b)]) hx hb nd_Law_law_538 hl (by decide) rfl (fun ls hl => ?_)
    refine lv_aload_n hx hb nd_Law_law_540 rfl (lv_at hl 3 rfl) ?_
    refine lv_aload_n hx hb nd_Law_law_541 rfl (lv_at hl 5 rfl) ?_
    refine lv_iload hx hb nd_Law_law_542 (lv_at hl 1 rfl) ?_
    refine lv_iconst (v := 1) hx hb nd_Law_law_544 (by decide) ?_
    refine lv_iadd hx hb nd_Law_law_545 ?_
    refine ks_ld X Y (n := 6 * j + 1) (by rw [show (1 : Int32) = nI 1 from rfl, nI_add]) (by omega) nd_Law_law_546 ?_
    refine kf_V (As := [.int (xs (6 * j + 1))]) (rest := []) (st1 := [.int (r.1)]) ⟨hx, hb, hml, hown, hts⟩ (mc_M_fast (bm_D (b := bX)) fm (xs (6 * j + 1)) g r hr) (kb_M_fast hts (hts _ nw_954) ⟨Nat.le_of_ble_eq_true rfl, Nat.le_of_ble_eq_true rfl⟩) (mr_M hKm hPm) (fun q9 h9 => by unfold lA; have := h9.1; omega) hKm hN hPm hS rfl hl.1 rfl rfl (Nat.le_of_ble_eq_true rfl) ⟨by show _ ≤ room_1.cells; omega, by show _ ≤ room_1.slots; omega⟩ nd_Law_law_547 (fun H locs hPm h5 hS => ?_)
    have hPx := wdG_kept hPx (H1 := H) (fun i hi hlt => h5 _ hlt (fun hb9 => by have := xpi_lt i hi; have h6 : bX + 61 ≤ bX + xpi i := hb9.1; omega))
    have hO := oW_kept hO (H1 := H) (fun q9 g1 g2 => h5 q9 g1 (fun hb9 => by have h6 : q9 < bX + 61 + 21 := hb9.2; omega))
    have Y : LY s Dx Dm cA cB bX (h) (r.2) f H locs := ⟨hPx, hPm, hO, hS⟩
    refine lv_istore (lv' := [(6, .int (r.1)), (5, .int 1), (4, .int (nI (6 * j))), (3, .ref (bX + 82)), (2, .ref (gad (bX + 61) 0)), (1, .ref (xad bX 0)), (0, .ref b)]) hx hb nd_Law_law_550 hl (by decide) rfl (fun ls hl => ?_)
    refine lv_aload_n hx hb nd_Law_law_552 rfl (lv_at hl 4 rfl) ?_
    refine kf_V (As := []) (rest := []) (st1 := [.int (mh_vfault (r.2))]) ⟨hx, hb, hml, hown, hts⟩ (mc_M_thrown (bm_D (b := bX)) (r.2) (mh_vfault (r.2)) rfl) (kb_M_thrown hts (hts _ nw_806) ⟨Nat.le_of_ble_eq_true rfl, Nat.le_of_ble_eq_true rfl⟩) (mr_M hKm hPm) (fun q9 h9 => by unfold lA; have := h9.1; omega) hKm hN hPm hS rfl hl.1 rfl rfl (Nat.le_of_ble_eq_true rfl) ⟨by show _ ≤ room_1.cells; omega, by show _ ≤ room_1.slots; omega⟩ nd_Law_law_553 (fun H locs hPm h5 hS => ?_)
    have hPx := wdG_kept hPx (H1 := H) (fun i hi hlt => h5 _ hlt (fun hb9 => by have := xpi_lt i hi; have h6 : bX + 61 ≤ bX + xpi i := hb9.1; omega))
    have hO := oW_kept hO (H1 := H) (fun q9 g1 g2 => h5 q9 g1 (fun hb9 => by have h6 : q9 < bX + 61 + 21 := hb9.2; omega))
    have Y : LY s Dx Dm cA cB bX (h) (r.2) f H locs := ⟨hPx, hPm, hO, hS⟩
    refine lv_iload hx hb nd_Law_law_556 (lv_at hl 1 rfl) ?_
    refine lv_icmp_eq (tgt := 563) hx hb nd_Law_law_558 rfl (fun _ => ?_) (fun hc => absurd hft hc)
    refine lv_iload hx hb nd_Law_law_563 (lv_at hl 1 rfl) ?_
    refine lv_if_ne (tgt := 580) hx hb nd_Law_law_565 rfl (fun _ => ?_) (fun hc => absurd hc (by decide))
    refine lv_goto hx hb nd_Law_law_580 (tgt := 1057) rfl ?_
    refine W.widen (k := cells + 1) (n := slots + 6) (by omega) (by omega) ?_
    exact kk H locs ls (h) (r.2) f ⟨hPx, hPm, hO, hS⟩ hRel (lv_sub hl [2, 3, 4, 5, 6] rfl)
set_option maxHeartbeats 4000000 in
set_option maxRecDepth 100000 in
theorem lc_pointer {p : Program} {l : Launch} {e : Env} {s : State} {m : MethodId} {below : List Frame} {meth : Method} {c : Code} {Q : State → Prop} {b L : Nat} {xs : Nat → Int32} {Dx Dm : va_G} {cA cB : Nat → ClassId} {bX : Nat} (X : LX p l s m c b L xs Dx Dm cA cB bX) {Rel : XH → MH → Prop} (hOK : OK_pointer Rel) {H : Heap} {locs : List Loc} {cells slots j : Nat} {ls : Array Slot} {h : XH} {g : MH} {f : Nat → Int64} (Y : LY s Dx Dm cA cB bX h g f H locs) (hR : Rel h g) (hj : 6 * j + 6 ≤ L) (hcs : cells + 1 ≤ room_1.cells ∧ slots + 6 ≤ room_1.slots) (hl : lv_has ls 8 [(4, .int (nI (6 * j))), (3, .ref (bX + 82)), (2, .ref (gad (bX + 61) 0)), (1, .ref (xad bX 0)), (0, .ref b)])
    (kk : ∀ (H : Heap) (locs : List Loc) (ls : Array Slot) (h : XH) (g : MH) (f : Nat → Int64), LY s Dx Dm cA cB bX h g f H locs → Rel h g → lv_has ls 8 [(4, .int (nI (6 * j))), (3, .ref (bX + 82)), (2, .ref (gad (bX + 61) 0)), (1, .ref (xad bX 0)), (0, .ref b)] → W p l e room_1 s m #[Value.ref b] below meth c H locs (cells + 1) (slots + 6) Q (F0 m 1057 ls [])) : W p l e room_1 s m #[Value.ref b] below meth c H locs cells slots Q (F0 m 583 ls []) := by
  have X0 := X
  obtain ⟨hx, hb, hml, hown, hts, hX, hbl, hKx, hKm, hN, hTW, hNC, hfl, hbX, hL⟩ := X0
  obtain ⟨hPx, hPm, hO, hS⟩ := Y
  have Y : LY s Dx Dm cA cB bX h g f H locs := ⟨hPx, hPm, hO, hS⟩
  obtain ⟨fx, fm, r, hr, hall⟩ := hOK h g hR ((xs (6 * j + 1))) ((xs (6 * j + 2)))
  refine lv_aload_n hx hb nd_Law_law_583 rfl (lv_at hl 3 rfl) ?_
  refine lv_aload_n hx hb nd_Law_law_584 rfl (lv_at hl 4 rfl) ?_
  refine lv_iload hx hb nd_Law_law_585 (lv_at hl 0 rfl) ?_
  refine lv_iconst (v := 1) hx hb nd_Law_law_587 (by decide) ?_
  refine lv_iadd hx hb nd_Law_law_588 ?_
  refine ks_ld X Y (n := 6 * j + 1) (by rw [show (1 : Int32) = nI 1 from rfl, nI_add]) (by omega) nd_Law_law_589 ?_
  refine lv_aload_n hx hb nd_Law_law_590 rfl (lv_at hl 4 rfl) ?_
  refine lv_iload hx hb nd_Law_law_591 (lv_at hl 0 rfl) ?_
  refine lv_iconst (v := 2) hx hb nd_Law_law_593 (by decide) ?_
  refine lv_iadd hx hb nd_Law_law_594 ?_
  refine ks_ld X Y (n := 6 * j + 2) (by rw [show (2 : Int32) = nI 2 from rfl, nI_add]) (by omega) nd_Law_law_595 ?_
  refine lv_aload_n hx hb nd_Law_law_596 rfl (lv_at hl 1 rfl) ?_
  rcases hall with ⟨q, hq, hft, heq, hRel⟩ | ⟨hq, hft, hRel⟩ | ⟨hq, hft, hRel⟩
  · refine kl_H (kw_S (hh := [(0, 10, 13, 13), (0, 10, 17, 15)]) (As := [.ref (xad bX 0), .int (xs (6 * j + 1)), .int (xs (6 * j + 2)), .ref (bX + 82)]) (rest := []) ⟨hx, hb, hml, hown, hts⟩ (lr_pointer bx_D (fun h9 => by have h6 : bX + 82 < bX + 61 := h9.2; omega) (xs (6 * j + 1)) (xs (6 * j + 2)) f h q hq) rfl rfl (Nat.le_of_ble_eq_true rfl) (Nat.le_of_ble_eq_true rfl) (pay_in hts (wsH_good nw_651)) List.mem_cons_self (hts _ nw_651) (hts _ nw_0) ⟨by decide, by decide⟩ (n := 4) (by decide +kernel) (hts _ nw_649) (hts _ nw_650) ⟨HP_blind, fun U hU hW => ⟨rfl, by rw [hU]; exact hPx, by rw [hU]; exact hO, va_K.moved hW.alike hKx, NW.warm hW hN, TW.kept hW (fun q9 h9 => by rw [hU]; exact hS.2.1 q9 h9 (fun h8 => by unfold lA at h8; omega)) hTW, NC.moved hW.alike hNC⟩⟩ rfl hl.1 rfl (Nat.le_of_ble_eq_true rfl) nd_Law_law_597 ⟨by show _ ≤ room_1.cells; omega, by show _ ≤ room_1.slots; omega⟩) (fun q9 h9 => by unfold lA; exact h9.elim (fun h8 => by have := h8.1; omega) (fun h8 => by omega)) hS (fun H locs hPx hO h5 hS => ?_)
    have hPm := wdG_kept hPm (H1 := H) (fun i hi hlt => h5 _ hlt (fun hb9 => by have e9 : gad (bX + 61) i = bX + 61 + i := rfl; rw [e9] at hb9; exact hb9.elim (fun h8 => by have h6 : bX + 61 + i < bX + 61 := h8.2; omega) (fun h8 => by omega)))
    have Y : LY s Dx Dm cA cB bX (h) g (va_up f 0 (q).toInt64) H locs := ⟨hPx, hPm, hO, hS⟩
    refine lv_istore (lv' := [(5, .int 0), (4, .int (nI (6 * j))), (3, .ref (bX + 82)), (2, .ref (gad (bX + 61) 0)), (1, .ref (xad bX 0)), (0, .ref b)]) hx hb nd_Law_law_600 hl (by decide) rfl (fun ls hl => ?_)
    refine lv_aload_n hx hb nd_Law_law_602 rfl (lv_at hl 3 rfl) ?_
    refine lv_aload_n hx hb nd_Law_law_603 rfl (lv_at hl 5 rfl) ?_
    refine lv_iload hx hb nd_Law_law_604 (lv_at hl 1 rfl) ?_
    refine lv_iconst (v := 1) hx hb nd_Law_law_606 (by decide) ?_
    refine lv_iadd hx hb nd_Law_law_607 ?_
    refine ks_ld X Y (n := 6 * j + 1) (by rw [show (1 : Int32) = nI 1 from rfl, nI_add]) (by omega) nd_Law_law_608 ?_
    refine lv_aload_n hx hb nd_Law_law_609 rfl (lv_at hl 5 rfl) ?_
    refine lv_iload hx hb nd_Law_law_610 (lv_at hl 1 rfl) ?_
    refine lv_iconst (v := 2) hx hb nd_Law_law_612 (by decide) ?_
    refine lv_iadd hx hb nd_Law_law_613 ?_
    refine ks_ld X Y (n := 6 * j + 2) (by rw [show (2 : Int32) = nI 2 from rfl, nI_add]) (by omega) nd_Law_law_614 ?_
    refine kf_V (As := [.int (xs (6 * j + 1)), .int (xs (6 * j + 2))]) (rest := []) (st1 := [.int (r.1)]) ⟨hx, hb, hml, hown, hts⟩ (mc_M_pointer (bm_D (b := bX)) (xs (6 * j + 1)) (xs (6 * j + 2)) g r hr) (kb_M_pointer hts (hts _ nw_977) ⟨Nat.le_of_ble_eq_true rfl, Nat.le_of_ble_eq_true rfl⟩) (mr_M hKm hPm) (fun q9 h9 => by unfold lA; have := h9.1; omega) hKm hN hPm hS rfl hl.1 rfl rfl (Nat.le_of_ble_eq_true rfl) ⟨by show _ ≤ room_1.cells; omega, by show _ ≤ room_1.slots; omega⟩ nd_Law_law_615 (fun H locs hPm h5 hS => ?_)
    have hPx := wdG_kept hPx (H1 := H) (fun i hi hlt => h5 _ hlt (fun hb9 => by have := xpi_lt i hi; have h6 : bX + 61 ≤ bX + xpi i := hb9.1; omega))
    have hO := oW_kept hO (H1 := H) (fun q9 g1 g2 => h5 q9 g1 (fun hb9 => by have h6 : q9 < bX + 61 + 21 := hb9.2; omega))
    have Y : LY s Dx Dm cA cB bX (h) (r.2) (va_up f 0 (q).toInt64) H locs := ⟨hPx, hPm, hO, hS⟩
    refine lv_istore (lv' := [(6, .int (r.1)), (5, .int 0), (4, .int (nI (6 * j))), (3, .ref (bX + 82)), (2, .ref (gad (bX + 61) 0)), (1, .ref (xad bX 0)), (0, .ref b)]) hx hb nd_Law_law_618 hl (by decide) rfl (fun ls hl => ?_)
    refine lv_aload_n hx hb nd_Law_law_620 rfl (lv_at hl 4 rfl) ?_
    refine kf_V (As := []) (rest := []) (st1 := [.int (mh_vfault (r.2))]) ⟨hx, hb, hml, hown, hts⟩ (mc_M_thrown (bm_D (b := bX)) (r.2) (mh_vfault (r.2)) rfl) (kb_M_thrown hts (hts _ nw_806) ⟨Nat.le_of_ble_eq_true rfl, Nat.le_of_ble_eq_true rfl⟩) (mr_M hKm hPm) (fun q9 h9 => by unfold lA; have := h9.1; omega) hKm hN hPm hS rfl hl.1 rfl rfl (Nat.le_of_ble_eq_true rfl) ⟨by show _ ≤ room_1.cells; omega, by show _ ≤ room_1.slots; omega⟩ nd_Law_law_621 (fun H locs hPm h5 hS => ?_)
    have hPx := wdG_kept hPx (H1 := H) (fun i hi hlt => h5 _ hlt (fun hb9 => by have := xpi_lt i hi; have h6 : bX + 61 ≤ bX + xpi i := hb9.1; omega))
    have hO := oW_kept hO (H1 := H) (fun q9 g1 g2 => h5 q9 g1 (fun hb9 => by have h6 : q9 < bX + 61 + 21 := hb9.2; omega))
    have Y : LY s Dx Dm cA cB bX (h) (r.2) (va_up f 0 (q).toInt64) H locs := ⟨hPx, hPm, hO, hS⟩
    refine lv_iload hx hb nd_Law_law_624 (lv_at hl 1 rfl) ?_
    refine lv_icmp_eq (tgt := 631) hx hb nd_Law_law_626 rfl (fun _ => ?_) (fun hc => absurd hft hc)
    refine lv_iload hx hb nd_Law_law_631 (lv_at hl 1 rfl) ?_
    refine lv_if_ne (tgt := 648) hx hb nd_Law_law_633 rfl (fun hc => absurd rfl hc) (fun _ => ?_)
    refine lv_aload_n hx hb nd_Law_law_636 rfl (lv_at hl 3 rfl) ?_
    refine lv_iconst (v := 0) hx hb nd_Law_law_637 (by decide) ?_
    refine va_lald (f := (va_up f 0 (q).toInt64)) hx hb hKx hO 0 2 rfl rfl (i := 0) (show vp_in 0 1 by unfold vp_in; decide) nd_Law_law_638 ?_
    rw [show (va_up f 0 (q).toInt64) ((0 : Int32).toNatClampNeg) = (q).toInt64 from up_eq]
    refine lv_iload hx hb nd_Law_law_639 (lv_at hl 0 rfl) ?_
    refine lv_i2l hx hb nd_Law_law_641 rfl ?_
    rw [heq]
    refine W.lcmp hx hb nd_Law_law_642 ?_
    refine lv_if_eq (tgt := 648) hx hb nd_Law_law_643 rfl (fun _ => ?_) (fun hc => absurd (lg_self _) hc)
    refine lv_goto hx hb nd_Law_law_648 (tgt := 1057) rfl ?_
    refine W.widen (k := cells + 1) (n := slots + 6) (by omega) (by omega) ?_
    exact kk H locs ls (h) (r.2) (va_up f 0 (q).toInt64) ⟨hPx, hPm, hO, hS⟩ hRel (lv_sub hl [2, 3, 4, 5, 6] rfl)
  · refine kl_H (kw_S (hh := [(0, 10, 13, 13), (0, 10, 17, 15)]) (As := [.ref (xad bX 0), .int (xs (6 * j + 1)), .int (xs (6 * j + 2)), .ref (bX + 82)]) (rest := []) ⟨hx, hb, hml, hown, hts⟩ (lt_pointer_1 (B := bx bX) hfl (xs (6 * j + 1)) (xs (6 * j + 2)) f h hq) rfl rfl (Nat.le_of_ble_eq_true rfl) (Nat.le_of_ble_eq_true rfl) (pay_in hts (wsH_good nw_651)) List.mem_cons_self (hts _ nw_651) (hts _ nw_0) ⟨by decide, by decide⟩ (n := 4) (by decide +kernel) (hts _ nw_649) (hts _ nw_650) ⟨HP_blind, fun U hU hW => ⟨rfl, by rw [hU]; exact hPx, by rw [hU]; exact hO, va_K.moved hW.alike hKx, NW.warm hW hN, TW.kept hW (fun q9 h9 => by rw [hU]; exact hS.2.1 q9 h9 (fun h8 => by unfold lA at h8; omega)) hTW, NC.moved hW.alike hNC⟩⟩ rfl hl.1 rfl (Nat.le_of_ble_eq_true rfl) nd_Law_law_597 ⟨by show _ ≤ room_1.cells; omega, by show _ ≤ room_1.slots; omega⟩) (fun q9 h9 => by unfold lA; exact h9.elim (fun h8 => by have := h8.1; omega) (fun h8 => by omega)) hS (fun H locs hPx hO h5 hS => ?_)
    have hPm := wdG_kept hPm (H1 := H) (fun i hi hlt => h5 _ hlt (fun hb9 => by have e9 : gad (bX + 61) i = bX + 61 + i := rfl; rw [e9] at hb9; exact hb9.elim (fun h8 => by have h6 : bX + 61 + i < bX + 61 := h8.2; omega) (fun h8 => by omega)))
    have Y : LY s Dx Dm cA cB bX (h) g f H locs := ⟨hPx, hPm, hO, hS⟩
    refine lv_istore (lv' := [(5, .int 1), (4, .int (nI (6 * j))), (3, .ref (bX + 82)), (2, .ref (gad (bX + 61) 0)), (1, .ref (xad bX 0)), (0, .ref b)]) hx hb nd_Law_law_600 hl (by decide) rfl (fun ls hl => ?_)
    refine lv_aload_n hx hb nd_Law_law_602 rfl (lv_at hl 3 rfl) ?_
    refine lv_aload_n hx hb nd_Law_law_603 rfl (lv_at hl 5 rfl) ?_
    refine lv_iload hx hb nd_Law_law_604 (lv_at hl 1 rfl) ?_
    refine lv_iconst (v := 1) hx hb nd_Law_law_606 (by decide) ?_
    refine lv_iadd hx hb nd_Law_law_607 ?_
    refine ks_ld X Y (n := 6 * j + 1) (by rw [show (1 : Int32) = nI 1 from rfl, nI_add]) (by omega) nd_Law_law_608 ?_
    refine lv_aload_n hx hb nd_Law_law_609 rfl (lv_at hl 5 rfl) ?_
    refine lv_iload hx hb nd_Law_law_610 (lv_at hl 1 rfl) ?_
    refine lv_iconst (v := 2) hx hb nd_Law_law_612 (by decide) ?_
    refine lv_iadd hx hb nd_Law_law_613 ?_
    refine ks_ld X Y (n := 6 * j + 2) (by rw [show (2 : Int32) = nI 2 from rfl, nI_add]) (by omega) nd_Law_law_614 ?_
    refine kf_V (As := [.int (xs (6 * j + 1)), .int (xs (6 * j + 2))]) (rest := []) (st1 := [.int (r.1)]) ⟨hx, hb, hml, hown, hts⟩ (mc_M_pointer (bm_D (b := bX)) (xs (6 * j + 1)) (xs (6 * j + 2)) g r hr) (kb_M_pointer hts (hts _ nw_977) ⟨Nat.le_of_ble_eq_true rfl, Nat.le_of_ble_eq_true rfl⟩) (mr_M hKm hPm) (fun q9 h9 => by unfold lA; have := h9.1; omega) hKm hN hPm hS rfl hl.1 rfl rfl (Nat.le_of_ble_eq_true rfl) ⟨by show _ ≤ room_1.cells; omega, by show _ ≤ room_1.slots; omega⟩ nd_Law_law_615 (fun H locs hPm h5 hS => ?_)
    have hPx := wdG_kept hPx (H1 := H) (fun i hi hlt => h5 _ hlt (fun hb9 => by have := xpi_lt i hi; have h6 : bX + 61 ≤ bX + xpi i := hb9.1; omega))
    have hO := oW_kept hO (H1 := H) (fun q9 g1 g2 => h5 q9 g1 (fun hb9 => by have h6 : q9 < bX + 61 + 21 := hb9.2; omega))
    have Y : LY s Dx Dm cA cB bX (h) (r.2) f H locs := ⟨hPx, hPm, hO, hS⟩
    refine lv_istore (lv' := [(6, .int (r.1)), (5, .int 1), (4, .int (nI (6 * j))), (3, .ref (bX + 82)), (2, .ref (gad (bX + 61) 0)), (1, .ref (xad bX 0)), (0, .ref b)]) hx hb nd_Law_law_618 hl (by decide) rfl (fun ls hl => ?_)
    refine lv_aload_n hx hb nd_Law_law_620 rfl (lv_at hl 4 rfl) ?_
    refine kf_V (As := []) (rest := []) (st1 := [.int (mh_vfault (r.2))]) ⟨hx, hb, hml, hown, hts⟩ (mc_M_thrown (bm_D (b := bX)) (r.2) (mh_vfault (r.2)) rfl) (kb_M_thrown hts (hts _ nw_806) ⟨Nat.le_of_ble_eq_true rfl, Nat.le_of_ble_eq_true rfl⟩) (mr_M hKm hPm) (fun q9 h9 => by unfold lA; have := h9.1; omega) hKm hN hPm hS rfl hl.1 rfl rfl (Nat.le_of_ble_eq_true rfl) ⟨by show _ ≤ room_1.cells; omega, by show _ ≤ room_1.slots; omega⟩ nd_Law_law_621 (fun H locs hPm h5 hS => ?_)
    have hPx := wdG_kept hPx (H1 := H) (fun i hi hlt => h5 _ hlt (fun hb9 => by have := xpi_lt i hi; have h6 : bX + 61 ≤ bX + xpi i := hb9.1; omega))
    have hO := oW_kept hO (H1 := H) (fun q9 g1 g2 => h5 q9 g1 (fun hb9 => by have h6 : q9 < bX + 61 + 21 := hb9.2; omega))
    have Y : LY s Dx Dm cA cB bX (h) (r.2) f H locs := ⟨hPx, hPm, hO, hS⟩
    refine lv_iload hx hb nd_Law_law_624 (lv_at hl 1 rfl) ?_
    refine lv_icmp_eq (tgt := 631) hx hb nd_Law_law_626 rfl (fun _ => ?_) (fun hc => absurd hft hc)
    refine lv_iload hx hb nd_Law_law_631 (lv_at hl 1 rfl) ?_
    refine lv_if_ne (tgt := 648) hx hb nd_Law_law_633 rfl (fun _ => ?_) (fun hc => absurd hc (by decide))
    refine lv_goto hx hb nd_Law_law_648 (tgt := 1057) rfl ?_
    refine W.widen (k := cells + 1) (n := slots + 6) (by omega) (by omega) ?_
    exact kk H locs ls (h) (r.2) f ⟨hPx, hPm, hO, hS⟩ hRel (lv_sub hl [2, 3, 4, 5, 6] rfl)
  · refine kl_H (kw_S (hh := [(0, 10, 13, 13), (0, 10, 17, 15)]) (As := [.ref (xad bX 0), .int (xs (6 * j + 1)), .int (xs (6 * j + 2)), .ref (bX + 82)]) (rest := []) ⟨hx, hb, hml, hown, hts⟩ (lt_pointer_2 (B := bx bX) hfl (xs (6 * j + 1)) (xs (6 * j + 2)) f h hq) rfl rfl (Nat.le_of_ble_eq_true rfl) (Nat.le_of_ble_eq_true rfl) (pay_in hts (wsH_good nw_651)) List.mem_cons_self (hts _ nw_651) (hts _ nw_0) ⟨by decide, by decide⟩ (n := 4) (by decide +kernel) (hts _ nw_649) (hts _ nw_650) ⟨HP_blind, fun U hU hW => ⟨rfl, by rw [hU]; exact hPx, by rw [hU]; exact hO, va_K.moved hW.alike hKx, NW.warm hW hN, TW.kept hW (fun q9 h9 => by rw [hU]; exact hS.2.1 q9 h9 (fun h8 => by unfold lA at h8; omega)) hTW, NC.moved hW.alike hNC⟩⟩ rfl hl.1 rfl (Nat.le_of_ble_eq_true rfl) nd_Law_law_597 ⟨by show _ ≤ room_1.cells; omega, by show _ ≤ room_1.slots; omega⟩) (fun q9 h9 => by unfold lA; exact h9.elim (fun h8 => by have := h8.1; omega) (fun h8 => by omega)) hS (fun H locs hPx hO h5 hS => ?_)
    have hPm := wdG_kept hPm (H1 := H) (fun i hi hlt => h5 _ hlt (fun hb9 => by have e9 : gad (bX + 61) i = bX + 61 + i := rfl; rw [e9] at hb9; exact hb9.elim (fun h8 => by have h6 : bX + 61 + i < bX + 61 := h8.2; omega) (fun h8 => by omega)))
    have Y : LY s Dx Dm cA cB bX (h) g f H locs := ⟨hPx, hPm, hO, hS⟩
    refine lv_istore (lv' := [(5, .int 2), (4, .int (nI (6 * j))), (3, .ref (bX + 82)), (2, .ref (gad (bX + 61) 0)), (1, .ref (xad bX 0)), (0, .ref b)]) hx hb nd_Law_law_600 hl (by decide) rfl (fun ls hl => ?_)
    refine lv_aload_n hx hb nd_Law_law_602 rfl (lv_at hl 3 rfl) ?_
    refine lv_aload_n hx hb nd_Law_law_603 rfl (lv_at hl 5 rfl) ?_
    refine lv_iload hx hb nd_Law_law_604 (lv_at hl 1 rfl) ?_
    refine lv_iconst (v := 1) hx hb nd_Law_law_606 (by decide) ?_
    refine lv_iadd hx hb nd_Law_law_607 ?_
    refine ks_ld X Y (n := 6 * j + 1) (by rw [show (1 : Int32) = nI 1 from rfl, nI_add]) (by omega) nd_Law_law_608 ?_
    refine lv_aload_n hx hb nd_Law_law_609 rfl (lv_at hl 5 rfl) ?_
    refine lv_iload hx hb nd_Law_law_610 (lv_at hl 1 rfl) ?_
    refine lv_iconst (v := 2) hx hb nd_Law_law_612 (by decide) ?_
    refine lv_iadd hx hb nd_Law_law_613 ?_
    refine ks_ld X Y (n := 6 * j + 2) (by rw [show (2 : Int32) = nI 2 from rfl, nI_add]) (by omega) nd_Law_law_614 ?_
    refine kf_V (As := [.int (xs (6 * j + 1)), .int (xs (6 * j + 2))]) (rest := []) (st1 := [.int (r.1)]) ⟨hx, hb, hml, hown, hts⟩ (mc_M_pointer (bm_D (b := bX)) (xs (6 * j + 1)) (xs (6 * j + 2)) g r hr) (kb_M_pointer hts (hts _ nw_977) ⟨Nat.le_of_ble_eq_true rfl, Nat.le_of_ble_eq_true rfl⟩) (mr_M hKm hPm) (fun q9 h9 => by unfold lA; have := h9.1; omega) hKm hN hPm hS rfl hl.1 rfl rfl (Nat.le_of_ble_eq_true rfl) ⟨by show _ ≤ room_1.cells; omega, by show _ ≤ room_1.slots; omega⟩ nd_Law_law_615 (fun H locs hPm h5 hS => ?_)
    have hPx := wdG_kept hPx (H1 := H) (fun i hi hlt => h5 _ hlt (fun hb9 => by have := xpi_lt i hi; have h6 : bX + 61 ≤ bX + xpi i := hb9.1; omega))
    have hO := oW_kept hO (H1 := H) (fun q9 g1 g2 => h5 q9 g1 (fun hb9 => by have h6 : q9 < bX + 61 + 21 := hb9.2; omega))
    have Y : LY s Dx Dm cA cB bX (h) (r.2) f H locs := ⟨hPx, hPm, hO, hS⟩
    refine lv_istore (lv' := [(6, .int (r.1)), (5, .int 2), (4, .int (nI (6 * j))), (3, .ref (bX + 82)), (2, .ref (gad (bX + 61) 0)), (1, .ref (xad bX 0)), (0, .ref b)]) hx hb nd_Law_law_618 hl (by decide) rfl (fun ls hl => ?_)
    refine lv_aload_n hx hb nd_Law_law_620 rfl (lv_at hl 4 rfl) ?_
    refine kf_V (As := []) (rest := []) (st1 := [.int (mh_vfault (r.2))]) ⟨hx, hb, hml, hown, hts⟩ (mc_M_thrown (bm_D (b := bX)) (r.2) (mh_vfault (r.2)) rfl) (kb_M_thrown hts (hts _ nw_806) ⟨Nat.le_of_ble_eq_true rfl, Nat.le_of_ble_eq_true rfl⟩) (mr_M hKm hPm) (fun q9 h9 => by unfold lA; have := h9.1; omega) hKm hN hPm hS rfl hl.1 rfl rfl (Nat.le_of_ble_eq_true rfl) ⟨by show _ ≤ room_1.cells; omega, by show _ ≤ room_1.slots; omega⟩ nd_Law_law_621 (fun H locs hPm h5 hS => ?_)
    have hPx := wdG_kept hPx (H1 := H) (fun i hi hlt => h5 _ hlt (fun hb9 => by have := xpi_lt i hi; have h6 : bX + 61 ≤ bX + xpi i := hb9.1; omega))
    have hO := oW_kept hO (H1 := H) (fun q9 g1 g2 => h5 q9 g1 (fun hb9 => by have h6 : q9 < bX + 61 + 21 := hb9.2; omega))
    have Y : LY s Dx Dm cA cB bX (h) (r.2) f H locs := ⟨hPx, hPm, hO, hS⟩
    refine lv_iload hx hb nd_Law_law_624 (lv_at hl 1 rfl) ?_
    refine lv_icmp_eq (tgt := 631) hx hb nd_Law_law_626 rfl (fun _ => ?_) (fun hc => absurd hft hc)
    refine lv_iload hx hb nd_Law_law_631 (lv_at hl 1 rfl) ?_
    refine lv_if_ne (tgt := 648) hx hb nd_Law_law_633 rfl (fun _ => ?_) (fun hc => absurd hc (by decide))
    refine lv_goto hx hb nd_Law_law_648 (tgt := 1057) rfl ?_
    refine W.widen (k := cells + 1) (n := slots + 6) (by omega) (by omega) ?_
    exact kk H locs ls (h) (r.2) f ⟨hPx, hPm, hO, hS⟩ hRel (lv_sub hl [2, 3, 4, 5, 6] rfl)
set_option maxHeartbeats 4000000 in
set_option maxRecDepth 100000 in
theorem lc_value {p : Program} {l : Launch} {e : Env} {s : State} {m : MethodId} {below : List Frame} {meth : Method} {c : Code} {Q : State → Prop} {b L : Nat} {xs : Nat → Int32} {Dx Dm : va_G} {cA cB : Nat → ClassId} {bX : Nat} (X : LX p l s m c b L xs Dx Dm cA cB bX) {Rel : XH → MH → Prop} (hOK : OK_value Rel) {H : Heap} {locs : List Loc} {cells slots j : Nat} {ls : Array Slot} {h : XH} {g : MH} {f : Nat → Int64} (Y : LY s Dx Dm cA cB bX h g f H locs) (hR : Rel h g) (hj : 6 * j + 6 ≤ L) (hcs : cells + 1 ≤ room_1.cells ∧ slots + 6 ≤ room_1.slots) (hl : lv_has ls 8 [(4, .int (nI (6 * j))), (3, .ref (bX + 82)), (2, .ref (gad (bX + 61) 0)), (1, .ref (xad bX 0)), (0, .ref b)])
    (kk : ∀ (H : Heap) (locs : List Loc) (ls : Array Slot) (h : XH) (g : MH) (f : Nat → Int64), LY s Dx Dm cA cB bX h g f H locs → Rel h g → lv_has ls 8 [(4, .int (nI (6 * j))), (3, .ref (bX + 82)), (2, .ref (gad (bX + 61) 0)), (1, .ref (xad bX 0)), (0, .ref b)] → W p l e room_1 s m #[Value.ref b] below meth c H locs (cells + 1) (slots + 6) Q (F0 m 1057 ls [])) : W p l e room_1 s m #[Value.ref b] below meth c H locs cells slots Q (F0 m 651 ls []) := by
  have X0 := X
  obtain ⟨hx, hb, hml, hown, hts, hX, hbl, hKx, hKm, hN, hTW, hNC, hfl, hbX, hL⟩ := X0
  obtain ⟨hPx, hPm, hO, hS⟩ := Y
  have Y : LY s Dx Dm cA cB bX h g f H locs := ⟨hPx, hPm, hO, hS⟩
  obtain ⟨fx, fm, r, hr, hall⟩ := hOK h g hR ((xs (6 * j + 1))) ((xs (6 * j + 2)))
  refine lv_aload_n hx hb nd_Law_law_651 rfl (lv_at hl 3 rfl) ?_
  refine lv_aload_n hx hb nd_Law_law_652 rfl (lv_at hl 4 rfl) ?_
  refine lv_iload hx hb nd_Law_law_653 (lv_at hl 0 rfl) ?_
  refine lv_iconst (v := 1) hx hb nd_Law_law_655 (by decide) ?_
  refine lv_iadd hx hb nd_Law_law_656 ?_
  refine ks_ld X Y (n := 6 * j + 1) (by rw [show (1 : Int32) = nI 1 from rfl, nI_add]) (by omega) nd_Law_law_657 ?_
  refine lv_aload_n hx hb nd_Law_law_658 rfl (lv_at hl 4 rfl) ?_
  refine lv_iload hx hb nd_Law_law_659 (lv_at hl 0 rfl) ?_
  refine lv_iconst (v := 2) hx hb nd_Law_law_661 (by decide) ?_
  refine lv_iadd hx hb nd_Law_law_662 ?_
  refine ks_ld X Y (n := 6 * j + 2) (by rw [show (2 : Int32) = nI 2 from rfl, nI_add]) (by omega) nd_Law_law_663 ?_
  refine lv_aload_n hx hb nd_Law_law_664 rfl (lv_at hl 1 rfl) ?_
  rcases hall with ⟨q, hq, hft, heq, hRel⟩ | ⟨hq, hft, hRel⟩
  · refine kl_H (kw_S (hh := [(0, 9, 12, 13)]) (As := [.ref (xad bX 0), .int (xs (6 * j + 1)), .int (xs (6 * j + 2)), .ref (bX + 82)]) (rest := []) ⟨hx, hb, hml, hown, hts⟩ (lr_value bx_D (fun h9 => by have h6 : bX + 82 < bX + 61 := h9.2; omega) (xs (6 * j + 1)) (xs (6 * j + 2)) f h q hq) rfl rfl (Nat.le_of_ble_eq_true rfl) (Nat.le_of_ble_eq_true rfl) (pay_in hts (wsH_good nw_666)) List.mem_cons_self (hts _ nw_666) (hts _ nw_0) ⟨by decide, by decide⟩ (n := 4) (by decide +kernel) (hts _ nw_664) (hts _ nw_665) ⟨HP_blind, fun U hU hW => ⟨rfl, by rw [hU]; exact hPx, by rw [hU]; exact hO, va_K.moved hW.alike hKx, NW.warm hW hN, TW.kept hW (fun q9 h9 => by rw [hU]; exact hS.2.1 q9 h9 (fun h8 => by unfold lA at h8; omega)) hTW, NC.moved hW.alike hNC⟩⟩ rfl hl.1 rfl (Nat.le_of_ble_eq_true rfl) nd_Law_law_665 ⟨by show _ ≤ room_1.cells; omega, by show _ ≤ room_1.slots; omega⟩) (fun q9 h9 => by unfold lA; exact h9.elim (fun h8 => by have := h8.1; omega) (fun h8 => by omega)) hS (fun H locs hPx hO h5 hS => ?_)
    have hPm := wdG_kept hPm (H1 := H) (fun i hi hlt => h5 _ hlt (fun hb9 => by have e9 : gad (bX + 61) i = bX + 61 + i := rfl; rw [e9] at hb9; exact hb9.elim (fun h8 => by have h6 : bX + 61 + i < bX + 61 := h8.2; omega) (fun h8 => by omega)))
    have Y : LY s Dx Dm cA cB bX (h) g (va_up f 0 q) H locs := ⟨hPx, hPm, hO, hS⟩
    refine lv_istore (lv' := [(5, .int 0), (4, .int (nI (6 * j))), (3, .ref (bX + 82)), (2, .ref (gad (bX + 61) 0)), (1, .ref (xad bX 0)), (0, .ref b)]) hx hb nd_Law_law_668 hl (by decide) rfl (fun ls hl => ?_)
    refine lv_aload_n hx hb nd_Law_law_670 rfl (lv_at hl 3 rfl) ?_
    refine lv_aload_n hx hb nd_Law_law_671 rfl (lv_at hl 5 rfl) ?_
    refine lv_iload hx hb nd_Law_law_672 (lv_at hl 1 rfl) ?_
    refine lv_iconst (v := 1) hx hb nd_Law_law_674 (by decide) ?_
    refine lv_iadd hx hb nd_Law_law_675 ?_
    refine ks_ld X Y (n := 6 * j + 1) (by rw [show (1 : Int32) = nI 1 from rfl, nI_add]) (by omega) nd_Law_law_676 ?_
    refine lv_aload_n hx hb nd_Law_law_677 rfl (lv_at hl 5 rfl) ?_
    refine lv_iload hx hb nd_Law_law_678 (lv_at hl 1 rfl) ?_
    refine lv_iconst (v := 2) hx hb nd_Law_law_680 (by decide) ?_
    refine lv_iadd hx hb nd_Law_law_681 ?_
    refine ks_ld X Y (n := 6 * j + 2) (by rw [show (2 : Int32) = nI 2 from rfl, nI_add]) (by omega) nd_Law_law_682 ?_
    refine kf_V (As := [.int (xs (6 * j + 1)), .int (xs (6 * j + 2))]) (rest := []) (st1 := [.long (r.1)]) ⟨hx, hb, hml, hown, hts⟩ (mc_M_value (bm_D (b := bX)) (xs (6 * j + 1)) (xs (6 * j + 2)) g r hr) (kb_M_value hts (hts _ nw_981) ⟨Nat.le_of_ble_eq_true rfl, Nat.le_of_ble_eq_true rfl⟩) (mr_M hKm hPm) (fun q9 h9 => by unfold lA; have := h9.1; omega) hKm hN hPm hS rfl hl.1 rfl rfl (Nat.le_of_ble_eq_true rfl) ⟨by show _ ≤ room_1.cells; omega, by show _ ≤ room_1.slots; omega⟩ nd_Law_law_683 (fun H locs hPm h5 hS => ?_)
    have hPx := wdG_kept hPx (H1 := H) (fun i hi hlt => h5 _ hlt (fun hb9 => by have := xpi_lt i hi; have h6 : bX + 61 ≤ bX + xpi i := hb9.1; omega))
    have hO := oW_kept hO (H1 := H) (fun q9 g1 g2 => h5 q9 g1 (fun hb9 => by have h6 : q9 < bX + 61 + 21 := hb9.2; omega))
    have Y : LY s Dx Dm cA cB bX (h) (r.2) (va_up f 0 q) H locs := ⟨hPx, hPm, hO, hS⟩
    refine lv_lstore (lv' := [(6, .long (r.1)), (5, .int 0), (4, .int (nI (6 * j))), (3, .ref (bX + 82)), (2, .ref (gad (bX + 61) 0)), (1, .ref (xad bX 0)), (0, .ref b)]) hx hb nd_Law_law_686 hl (by decide) rfl (fun ls hl => ?_)
    refine lv_aload_n hx hb nd_Law_law_688 rfl (lv_at hl 4 rfl) ?_
    refine kf_V (As := []) (rest := []) (st1 := [.int (mh_vfault (r.2))]) ⟨hx, hb, hml, hown, hts⟩ (mc_M_thrown (bm_D (b := bX)) (r.2) (mh_vfault (r.2)) rfl) (kb_M_thrown hts (hts _ nw_806) ⟨Nat.le_of_ble_eq_true rfl, Nat.le_of_ble_eq_true rfl⟩) (mr_M hKm hPm) (fun q9 h9 => by unfold lA; have := h9.1; omega) hKm hN hPm hS rfl hl.1 rfl rfl (Nat.le_of_ble_eq_true rfl) ⟨by show _ ≤ room_1.cells; omega, by show _ ≤ room_1.slots; omega⟩ nd_Law_law_689 (fun H locs hPm h5 hS => ?_)
    have hPx := wdG_kept hPx (H1 := H) (fun i hi hlt => h5 _ hlt (fun hb9 => by have := xpi_lt i hi; have h6 : bX + 61 ≤ bX + xpi i := hb9.1; omega))
    have hO := oW_kept hO (H1 := H) (fun q9 g1 g2 => h5 q9 g1 (fun hb9 => by have h6 : q9 < bX + 61 + 21 := hb9.2; omega))
    have Y : LY s Dx Dm cA cB bX (h) (r.2) (va_up f 0 q) H locs := ⟨hPx, hPm, hO, hS⟩
    refine lv_iload hx hb nd_Law_law_692 (lv_at hl 1 rfl) ?_
    refine lv_icmp_eq (tgt := 699) hx hb nd_Law_law_694 rfl (fun _ => ?_) (fun hc => absurd hft hc)
    refine lv_iload hx hb nd_Law_law_699 (lv_at hl 1 rfl) ?_
    refine lv_if_ne (tgt := 715) hx hb nd_Law_law_701 rfl (fun hc => absurd rfl hc) (fun _ => ?_)
    refine lv_aload_n hx hb nd_Law_law_704 rfl (lv_at hl 3 rfl) ?_
    refine lv_iconst (v := 0) hx hb nd_Law_law_705 (by decide) ?_
    refine va_lald (f := (va_up f 0 q)) hx hb hKx hO 0 2 rfl rfl (i := 0) (show vp_in 0 1 by unfold vp_in; decide) nd_Law_law_706 ?_
    rw [show (va_up f 0 q) ((0 : Int32).toNatClampNeg) = q from up_eq]
    refine lv_lload hx hb nd_Law_law_707 (lv_at hl 0 rfl) ?_
    rw [heq]
    refine W.lcmp hx hb nd_Law_law_709 ?_
    refine lv_if_eq (tgt := 715) hx hb nd_Law_law_710 rfl (fun _ => ?_) (fun hc => absurd (lg_self _) hc)
    refine lv_goto hx hb nd_Law_law_715 (tgt := 1057) rfl ?_
    refine W.widen (k := cells + 1) (n := slots + 6) (by omega) (by omega) ?_
    exact kk H locs ls (h) (r.2) (va_up f 0 q) ⟨hPx, hPm, hO, hS⟩ hRel (lv_sub hl [2, 3, 4, 5, 6] rfl)
  · refine kl_H (kw_S (hh := [(0, 9, 12, 13)]) (As := [.ref (xad bX 0), .int (xs (6 * j + 1)), .int (xs (6 * j + 2)), .ref (bX + 82)]) (rest := []) ⟨hx, hb, hml, hown, hts⟩ (lt_value_1 (B := bx bX) hfl (xs (6 * j + 1)) (xs (6 * j + 2)) f h hq) rfl rfl (Nat.le_of_ble_eq_true rfl) (Nat.le_of_ble_eq_true rfl) (pay_in hts (wsH_good nw_666)) List.mem_cons_self (hts _ nw_666) (hts _ nw_0) ⟨by decide, by decide⟩ (n := 4) (by decide +kernel) (hts _ nw_664) (hts _ nw_665) ⟨HP_blind, fun U hU hW => ⟨rfl, by rw [hU]; exact hPx, by rw [hU]; exact hO, va_K.moved hW.alike hKx, NW.warm hW hN, TW.kept hW (fun q9 h9 => by rw [hU]; exact hS.2.1 q9 h9 (fun h8 => by unfold lA at h8; omega)) hTW, NC.moved hW.alike hNC⟩⟩ rfl hl.1 rfl (Nat.le_of_ble_eq_true rfl) nd_Law_law_665 ⟨by show _ ≤ room_1.cells; omega, by show _ ≤ room_1.slots; omega⟩) (fun q9 h9 => by unfold lA; exact h9.elim (fun h8 => by have := h8.1; omega) (fun h8 => by omega)) hS (fun H locs hPx hO h5 hS => ?_)
    have hPm := wdG_kept hPm (H1 := H) (fun i hi hlt => h5 _ hlt (fun hb9 => by have e9 : gad (bX + 61) i = bX + 61 + i := rfl; rw [e9] at hb9; exact hb9.elim (fun h8 => by have h6 : bX + 61 + i < bX + 61 := h8.2; omega) (fun h8 => by omega)))
    have Y : LY s Dx Dm cA cB bX (h) g f H locs := ⟨hPx, hPm, hO, hS⟩
    refine lv_istore (lv' := [(5, .int 1), (4, .int (nI (6 * j))), (3, .ref (bX + 82)), (2, .ref (gad (bX + 61) 0)), (1, .ref (xad bX 0)), (0, .ref b)]) hx hb nd_Law_law_668 hl (by decide) rfl (fun ls hl => ?_)
    refine lv_aload_n hx hb nd_Law_law_670 rfl (lv_at hl 3 rfl) ?_
    refine lv_aload_n hx hb nd_Law_law_671 rfl (lv_at hl 5 rfl) ?_
    refine lv_iload hx hb nd_Law_law_672 (lv_at hl 1 rfl) ?_
    refine lv_iconst (v := 1) hx hb nd_Law_law_674 (by decide) ?_
    refine lv_iadd hx hb nd_Law_law_675 ?_
    refine ks_ld X Y (n := 6 * j + 1) (by rw [show (1 : Int32) = nI 1 from rfl, nI_add]) (by omega) nd_Law_law_676 ?_
    refine lv_aload_n hx hb nd_Law_law_677 rfl (lv_at hl 5 rfl) ?_
    refine lv_iload hx hb nd_Law_law_678 (lv_at hl 1 rfl) ?_
    refine lv_iconst (v := 2) hx hb nd_Law_law_680 (by decide) ?_
    refine lv_iadd hx hb nd_Law_law_681 ?_
    refine ks_ld X Y (n := 6 * j + 2) (by rw [show (2 : Int32) = nI 2 from rfl, nI_add]) (by omega) nd_Law_law_682 ?_
    refine kf_V (As := [.int (xs (6 * j + 1)), .int (xs (6 * j + 2))]) (rest := []) (st1 := [.long (r.1)]) ⟨hx, hb, hml, hown, hts⟩ (mc_M_value (bm_D (b := bX)) (xs (6 * j + 1)) (xs (6 * j + 2)) g r hr) (kb_M_value hts (hts _ nw_981) ⟨Nat.le_of_ble_eq_true rfl, Nat.le_of_ble_eq_true rfl⟩) (mr_M hKm hPm) (fun q9 h9 => by unfold lA; have := h9.1; omega) hKm hN hPm hS rfl hl.1 rfl rfl (Nat.le_of_ble_eq_true rfl) ⟨by show _ ≤ room_1.cells; omega, by show _ ≤ room_1.slots; omega⟩ nd_Law_law_683 (fun H locs hPm h5 hS => ?_)
    have hPx := wdG_kept hPx (H1 := H) (fun i hi hlt => h5 _ hlt (fun hb9 => by have := xpi_lt i hi; have h6 : bX + 61 ≤ bX + xpi i := hb9.1; omega))
    have hO := oW_kept hO (H1 := H) (fun q9 g1 g2 => h5 q9 g1 (fun hb9 => by have h6 : q9 < bX + 61 + 21 := hb9.2; omega))
    have Y : LY s Dx Dm cA cB bX (h) (r.2) f H locs := ⟨hPx, hPm, hO, hS⟩
    refine lv_lstore (lv' := [(6, .long (r.1)), (5, .int 1), (4, .int (nI (6 * j))), (3, .ref (bX + 82)), (2, .ref (gad (bX + 61) 0)), (1, .ref (xad bX 0)), (0, .ref b)]) hx hb nd_Law_law_686 hl (by decide) rfl (fun ls hl => ?_)
    refine lv_aload_n hx hb nd_Law_law_688 rfl (lv_at hl 4 rfl) ?_
    refine kf_V (As := []) (rest := []) (st1 := [.int (mh_vfault (r.2))]) ⟨hx, hb, hml, hown, hts⟩ (mc_M_thrown (bm_D (b := bX)) (r.2) (mh_vfault (r.2)) rfl) (kb_M_thrown hts (hts _ nw_806) ⟨Nat.le_of_ble_eq_true rfl, Nat.le_of_ble_eq_true rfl⟩) (mr_M hKm hPm) (fun q9 h9 => by unfold lA; have := h9.1; omega) hKm hN hPm hS rfl hl.1 rfl rfl (Nat.le_of_ble_eq_true rfl) ⟨by show _ ≤ room_1.cells; omega, by show _ ≤ room_1.slots; omega⟩ nd_Law_law_689 (fun H locs hPm h5 hS => ?_)
    have hPx := wdG_kept hPx (H1 := H) (fun i hi hlt => h5 _ hlt (fun hb9 => by have := xpi_lt i hi; have h6 : bX + 61 ≤ bX + xpi i := hb9.1; omega))
    have hO := oW_kept hO (H1 := H) (fun q9 g1 g2 => h5 q9 g1 (fun hb9 => by have h6 : q9 < bX + 61 + 21 := hb9.2; omega))
    have Y : LY s Dx Dm cA cB bX (h) (r.2) f H locs := ⟨hPx, hPm, hO, hS⟩
    refine lv_iload hx hb nd_Law_law_692 (lv_at hl 1 rfl) ?_
    refine lv_icmp_eq (tgt := 699) hx hb nd_Law_law_694 rfl (fun _ => ?_) (fun hc => absurd hft hc)
    refine lv_iload hx hb nd_Law_law_699 (lv_at hl 1 rfl) ?_
    refine lv_if_ne (tgt := 715) hx hb nd_Law_law_701 rfl (fun _ => ?_) (fun hc => absurd hc (by decide))
    refine lv_goto hx hb nd_Law_law_715 (tgt := 1057) rfl ?_
    refine W.widen (k := cells + 1) (n := slots + 6) (by omega) (by omega) ?_
    exact kk H locs ls (h) (r.2) f ⟨hPx, hPm, hO, hS⟩ hRel (lv_sub hl [2, 3, 4, 5, 6] rfl)
set_option maxHeartbeats 4000000 in
set_option maxRecDepth 100000 in
theorem lc_count {p : Program} {l : Launch} {e : Env} {s : State} {m : MethodId} {below : List Frame} {meth : Method} {c : Code} {Q : State → Prop} {b L : Nat} {xs : Nat → Int32} {Dx Dm : va_G} {cA cB : Nat → ClassId} {bX : Nat} (X : LX p l s m c b L xs Dx Dm cA cB bX) {Rel : XH → MH → Prop} (hOK : OK_count Rel) {H : Heap} {locs : List Loc} {cells slots j : Nat} {ls : Array Slot} {h : XH} {g : MH} {f : Nat → Int64} (Y : LY s Dx Dm cA cB bX h g f H locs) (hR : Rel h g) (hj : 6 * j + 6 ≤ L) (hcs : cells + 1 ≤ room_1.cells ∧ slots + 6 ≤ room_1.slots) (hl : lv_has ls 8 [(4, .int (nI (6 * j))), (3, .ref (bX + 82)), (2, .ref (gad (bX + 61) 0)), (1, .ref (xad bX 0)), (0, .ref b)])
    (kk : ∀ (H : Heap) (locs : List Loc) (ls : Array Slot) (h : XH) (g : MH) (f : Nat → Int64), LY s Dx Dm cA cB bX h g f H locs → Rel h g → lv_has ls 8 [(4, .int (nI (6 * j))), (3, .ref (bX + 82)), (2, .ref (gad (bX + 61) 0)), (1, .ref (xad bX 0)), (0, .ref b)] → W p l e room_1 s m #[Value.ref b] below meth c H locs (cells + 1) (slots + 6) Q (F0 m 1057 ls [])) : W p l e room_1 s m #[Value.ref b] below meth c H locs cells slots Q (F0 m 718 ls []) := by
  have X0 := X
  obtain ⟨hx, hb, hml, hown, hts, hX, hbl, hKx, hKm, hN, hTW, hNC, hfl, hbX, hL⟩ := X0
  obtain ⟨hPx, hPm, hO, hS⟩ := Y
  have Y : LY s Dx Dm cA cB bX h g f H locs := ⟨hPx, hPm, hO, hS⟩
  obtain ⟨fx, fm, r, q, hr, hq, heq, hRel⟩ := hOK h g hR ((xs (6 * j + 1)))
  refine lv_aload_n hx hb nd_Law_law_718 rfl (lv_at hl 3 rfl) ?_
  refine lv_aload_n hx hb nd_Law_law_719 rfl (lv_at hl 4 rfl) ?_
  refine lv_iload hx hb nd_Law_law_720 (lv_at hl 0 rfl) ?_
  refine lv_iconst (v := 1) hx hb nd_Law_law_722 (by decide) ?_
  refine lv_iadd hx hb nd_Law_law_723 ?_
  refine ks_ld X Y (n := 6 * j + 1) (by rw [show (1 : Int32) = nI 1 from rfl, nI_add]) (by omega) nd_Law_law_724 ?_
  refine kf_V (As := [.int (xs (6 * j + 1))]) (rest := []) (st1 := [.int (q.1)]) ⟨hx, hb, hml, hown, hts⟩ (xc_P_count bx_D fx (xs (6 * j + 1)) h q hq) (kb_P_count hts (hts _ nw_269) ⟨Nat.le_of_ble_eq_true rfl, Nat.le_of_ble_eq_true rfl⟩) (xr_DP hKx hPx) (fun q9 h9 => by unfold lA; have := h9.1; omega) hKx hN hPx hS rfl hl.1 rfl rfl (Nat.le_of_ble_eq_true rfl) ⟨by show _ ≤ room_1.cells; omega, by show _ ≤ room_1.slots; omega⟩ nd_Law_law_725 (fun H locs hPx h5 hS => ?_)
  have hPm := wdG_kept hPm (H1 := H) (fun i hi hlt => h5 _ hlt (fun hb9 => by have h6 : bX + 61 + i < bX + 61 := hb9.2; omega))
  have hO := oW_kept hO (H1 := H) (fun q9 g1 g2 => h5 q9 g1 (fun hb9 => by have h6 : q9 < bX + 61 := hb9.2; omega))
  have Y : LY s Dx Dm cA cB bX (q.2) g f H locs := ⟨hPx, hPm, hO, hS⟩
  refine lv_aload_n hx hb nd_Law_law_728 rfl (lv_at hl 2 rfl) ?_
  refine lv_aload_n hx hb nd_Law_law_729 rfl (lv_at hl 4 rfl) ?_
  refine lv_iload hx hb nd_Law_law_730 (lv_at hl 0 rfl) ?_
  refine lv_iconst (v := 1) hx hb nd_Law_law_732 (by decide) ?_
  refine lv_iadd hx hb nd_Law_law_733 ?_
  refine ks_ld X Y (n := 6 * j + 1) (by rw [show (1 : Int32) = nI 1 from rfl, nI_add]) (by omega) nd_Law_law_734 ?_
  refine kf_V (As := [.int (xs (6 * j + 1))]) (rest := [.int (q.1)]) (st1 := [.int (r.1), .int (q.1)]) ⟨hx, hb, hml, hown, hts⟩ (mc_M_count (bm_D (b := bX)) fm (xs (6 * j + 1)) g r hr) (kb_M_count hts (hts _ nw_985) ⟨Nat.le_of_ble_eq_true rfl, Nat.le_of_ble_eq_true rfl⟩) (mr_M hKm hPm) (fun q9 h9 => by unfold lA; have := h9.1; omega) hKm hN hPm hS rfl hl.1 rfl rfl (Nat.le_of_ble_eq_true rfl) ⟨by show _ ≤ room_1.cells; omega, by show _ ≤ room_1.slots; omega⟩ nd_Law_law_735 (fun H locs hPm h5 hS => ?_)
  have hPx := wdG_kept hPx (H1 := H) (fun i hi hlt => h5 _ hlt (fun hb9 => by have := xpi_lt i hi; have h6 : bX + 61 ≤ bX + xpi i := hb9.1; omega))
  have hO := oW_kept hO (H1 := H) (fun q9 g1 g2 => h5 q9 g1 (fun hb9 => by have h6 : q9 < bX + 61 + 21 := hb9.2; omega))
  refine lv_icmp_eq (tgt := 1057) hx hb nd_Law_law_738 rfl (fun _ => ?_) (fun hc => absurd heq hc)
  refine W.widen (k := cells + 1) (n := slots + 6) (by omega) (by omega) ?_
  exact kk H locs ls (q.2) (r.2) f ⟨hPx, hPm, hO, hS⟩ hRel (lv_sub hl [0, 1, 2, 3, 4] rfl)
set_option maxHeartbeats 4000000 in
set_option maxRecDepth 100000 in
theorem lc_covers {p : Program} {l : Launch} {e : Env} {s : State} {m : MethodId} {below : List Frame} {meth : Method} {c : Code} {Q : State → Prop} {b L : Nat} {xs : Nat → Int32} {Dx Dm : va_G} {cA cB : Nat → ClassId} {bX : Nat} (X : LX p l s m c b L xs Dx Dm cA cB bX) {Rel : XH → MH → Prop} (hOK : OK_covers Rel) {H : Heap} {locs : List Loc} {cells slots j : Nat} {ls : Array Slot} {h : XH} {g : MH} {f : Nat → Int64} (Y : LY s Dx Dm cA cB bX h g f H locs) (hR : Rel h g) (hj : 6 * j + 6 ≤ L) (hcs : cells + 1 ≤ room_1.cells ∧ slots + 6 ≤ room_1.slots) (hl : lv_has ls 8 [(4, .int (nI (6 * j))), (3, .ref (bX + 82)), (2, .ref (gad (bX + 61) 0)), (1, .ref (xad bX 0)), (0, .ref b)])
    (kk : ∀ (H : Heap) (locs : List Loc) (ls : Array Slot) (h : XH) (g : MH) (f : Nat → Int64), LY s Dx Dm cA cB bX h g f H locs → Rel h g → lv_has ls 8 [(4, .int (nI (6 * j))), (3, .ref (bX + 82)), (2, .ref (gad (bX + 61) 0)), (1, .ref (xad bX 0)), (0, .ref b)] → W p l e room_1 s m #[Value.ref b] below meth c H locs (cells + 1) (slots + 6) Q (F0 m 1057 ls [])) : W p l e room_1 s m #[Value.ref b] below meth c H locs cells slots Q (F0 m 743 ls []) := by
  have X0 := X
  obtain ⟨hx, hb, hml, hown, hts, hX, hbl, hKx, hKm, hN, hTW, hNC, hfl, hbX, hL⟩ := X0
  obtain ⟨hPx, hPm, hO, hS⟩ := Y
  have Y : LY s Dx Dm cA cB bX h g f H locs := ⟨hPx, hPm, hO, hS⟩
  obtain ⟨fx, fm, r, hr, hall⟩ := hOK h g hR ((xs (6 * j + 1))) ((xs (6 * j + 2)))
  refine lv_aload_n hx hb nd_Law_law_743 rfl (lv_at hl 3 rfl) ?_
  refine lv_aload_n hx hb nd_Law_law_744 rfl (lv_at hl 4 rfl) ?_
  refine lv_iload hx hb nd_Law_law_745 (lv_at hl 0 rfl) ?_
  refine lv_iconst (v := 1) hx hb nd_Law_law_747 (by decide) ?_
  refine lv_iadd hx hb nd_Law_law_748 ?_
  refine ks_ld X Y (n := 6 * j + 1) (by rw [show (1 : Int32) = nI 1 from rfl, nI_add]) (by omega) nd_Law_law_749 ?_
  refine lv_aload_n hx hb nd_Law_law_750 rfl (lv_at hl 4 rfl) ?_
  refine lv_iload hx hb nd_Law_law_751 (lv_at hl 0 rfl) ?_
  refine lv_iconst (v := 2) hx hb nd_Law_law_753 (by decide) ?_
  refine lv_iadd hx hb nd_Law_law_754 ?_
  refine ks_ld X Y (n := 6 * j + 2) (by rw [show (2 : Int32) = nI 2 from rfl, nI_add]) (by omega) nd_Law_law_755 ?_
  refine lv_aload_n hx hb nd_Law_law_756 rfl (lv_at hl 1 rfl) ?_
  rcases hall with ⟨q, hq, hft, heq, hRel⟩ | ⟨hq, hft, hRel⟩
  · refine kl_H (kw_S (hh := [(0, 10, 13, 13)]) (As := [.ref (xad bX 0), .int (xs (6 * j + 1)), .int (xs (6 * j + 2)), .ref (bX + 82)]) (rest := []) ⟨hx, hb, hml, hown, hts⟩ (lr_covers bx_D (fun h9 => by have h6 : bX + 82 < bX + 61 := h9.2; omega) fx (xs (6 * j + 1)) (xs (6 * j + 2)) f h q hq) rfl rfl (Nat.le_of_ble_eq_true rfl) (Nat.le_of_ble_eq_true rfl) (pay_in hts (wsH_good nw_675)) List.mem_cons_self (hts _ nw_675) (hts _ nw_0) ⟨by decide, by decide⟩ (n := 4) (by decide +kernel) (hts _ nw_673) (hts _ nw_674) ⟨HP_blind, fun U hU hW => ⟨rfl, by rw [hU]; exact hPx, by rw [hU]; exact hO, va_K.moved hW.alike hKx, NW.warm hW hN, TW.kept hW (fun q9 h9 => by rw [hU]; exact hS.2.1 q9 h9 (fun h8 => by unfold lA at h8; omega)) hTW, NC.moved hW.alike hNC⟩⟩ rfl hl.1 rfl (Nat.le_of_ble_eq_true rfl) nd_Law_law_757 ⟨by show _ ≤ room_1.cells; omega, by show _ ≤ room_1.slots; omega⟩) (fun q9 h9 => by unfold lA; exact h9.elim (fun h8 => by have := h8.1; omega) (fun h8 => by omega)) hS (fun H locs hPx hO h5 hS => ?_)
    have hPm := wdG_kept hPm (H1 := H) (fun i hi hlt => h5 _ hlt (fun hb9 => by have e9 : gad (bX + 61) i = bX + 61 + i := rfl; rw [e9] at hb9; exact hb9.elim (fun h8 => by have h6 : bX + 61 + i < bX + 61 := h8.2; omega) (fun h8 => by omega)))
    have Y : LY s Dx Dm cA cB bX (h) g (va_up f 0 (q).toInt64) H locs := ⟨hPx, hPm, hO, hS⟩
    refine lv_istore (lv' := [(5, .int 0), (4, .int (nI (6 * j))), (3, .ref (bX + 82)), (2, .ref (gad (bX + 61) 0)), (1, .ref (xad bX 0)), (0, .ref b)]) hx hb nd_Law_law_760 hl (by decide) rfl (fun ls hl => ?_)
    refine lv_aload_n hx hb nd_Law_law_762 rfl (lv_at hl 3 rfl) ?_
    refine lv_aload_n hx hb nd_Law_law_763 rfl (lv_at hl 5 rfl) ?_
    refine lv_iload hx hb nd_Law_law_764 (lv_at hl 1 rfl) ?_
    refine lv_iconst (v := 1) hx hb nd_Law_law_766 (by decide) ?_
    refine lv_iadd hx hb nd_Law_law_767 ?_
    refine ks_ld X Y (n := 6 * j + 1) (by rw [show (1 : Int32) = nI 1 from rfl, nI_add]) (by omega) nd_Law_law_768 ?_
    refine lv_aload_n hx hb nd_Law_law_769 rfl (lv_at hl 5 rfl) ?_
    refine lv_iload hx hb nd_Law_law_770 (lv_at hl 1 rfl) ?_
    refine lv_iconst (v := 2) hx hb nd_Law_law_772 (by decide) ?_
    refine lv_iadd hx hb nd_Law_law_773 ?_
    refine ks_ld X Y (n := 6 * j + 2) (by rw [show (2 : Int32) = nI 2 from rfl, nI_add]) (by omega) nd_Law_law_774 ?_
    refine kf_V (As := [.int (xs (6 * j + 1)), .int (xs (6 * j + 2))]) (rest := []) (st1 := [.int (r.1)]) ⟨hx, hb, hml, hown, hts⟩ (mc_M_covers (bm_D (b := bX)) fm (xs (6 * j + 1)) (xs (6 * j + 2)) g r hr) (kb_M_covers hts (hts _ nw_1009) ⟨Nat.le_of_ble_eq_true rfl, Nat.le_of_ble_eq_true rfl⟩) (mr_M hKm hPm) (fun q9 h9 => by unfold lA; have := h9.1; omega) hKm hN hPm hS rfl hl.1 rfl rfl (Nat.le_of_ble_eq_true rfl) ⟨by show _ ≤ room_1.cells; omega, by show _ ≤ room_1.slots; omega⟩ nd_Law_law_775 (fun H locs hPm h5 hS => ?_)
    have hPx := wdG_kept hPx (H1 := H) (fun i hi hlt => h5 _ hlt (fun hb9 => by have := xpi_lt i hi; have h6 : bX + 61 ≤ bX + xpi i := hb9.1; omega))
    have hO := oW_kept hO (H1 := H) (fun q9 g1 g2 => h5 q9 g1 (fun hb9 => by have h6 : q9 < bX + 61 + 21 := hb9.2; omega))
    have Y : LY s Dx Dm cA cB bX (h) (r.2) (va_up f 0 (q).toInt64) H locs := ⟨hPx, hPm, hO, hS⟩
    refine lv_istore (lv' := [(6, .int (r.1)), (5, .int 0), (4, .int (nI (6 * j))), (3, .ref (bX + 82)), (2, .ref (gad (bX + 61) 0)), (1, .ref (xad bX 0)), (0, .ref b)]) hx hb nd_Law_law_778 hl (by decide) rfl (fun ls hl => ?_)
    refine lv_aload_n hx hb nd_Law_law_780 rfl (lv_at hl 4 rfl) ?_
    refine kf_V (As := []) (rest := []) (st1 := [.int (mh_vfault (r.2))]) ⟨hx, hb, hml, hown, hts⟩ (mc_M_thrown (bm_D (b := bX)) (r.2) (mh_vfault (r.2)) rfl) (kb_M_thrown hts (hts _ nw_806) ⟨Nat.le_of_ble_eq_true rfl, Nat.le_of_ble_eq_true rfl⟩) (mr_M hKm hPm) (fun q9 h9 => by unfold lA; have := h9.1; omega) hKm hN hPm hS rfl hl.1 rfl rfl (Nat.le_of_ble_eq_true rfl) ⟨by show _ ≤ room_1.cells; omega, by show _ ≤ room_1.slots; omega⟩ nd_Law_law_781 (fun H locs hPm h5 hS => ?_)
    have hPx := wdG_kept hPx (H1 := H) (fun i hi hlt => h5 _ hlt (fun hb9 => by have := xpi_lt i hi; have h6 : bX + 61 ≤ bX + xpi i := hb9.1; omega))
    have hO := oW_kept hO (H1 := H) (fun q9 g1 g2 => h5 q9 g1 (fun hb9 => by have h6 : q9 < bX + 61 + 21 := hb9.2; omega))
    have Y : LY s Dx Dm cA cB bX (h) (r.2) (va_up f 0 (q).toInt64) H locs := ⟨hPx, hPm, hO, hS⟩
    refine lv_iload hx hb nd_Law_law_784 (lv_at hl 1 rfl) ?_
    refine lv_icmp_eq (tgt := 791) hx hb nd_Law_law_786 rfl (fun _ => ?_) (fun hc => absurd hft hc)
    refine lv_iload hx hb nd_Law_law_791 (lv_at hl 1 rfl) ?_
    refine lv_if_ne (tgt := 808) hx hb nd_Law_law_793 rfl (fun hc => absurd rfl hc) (fun _ => ?_)
    refine lv_aload_n hx hb nd_Law_law_796 rfl (lv_at hl 3 rfl) ?_
    refine lv_iconst (v := 0) hx hb nd_Law_law_797 (by decide) ?_
    refine va_lald (f := (va_up f 0 (q).toInt64)) hx hb hKx hO 0 2 rfl rfl (i := 0) (show vp_in 0 1 by unfold vp_in; decide) nd_Law_law_798 ?_
    rw [show (va_up f 0 (q).toInt64) ((0 : Int32).toNatClampNeg) = (q).toInt64 from up_eq]
    refine lv_iload hx hb nd_Law_law_799 (lv_at hl 0 rfl) ?_
    refine lv_i2l hx hb nd_Law_law_801 rfl ?_
    rw [heq]
    refine W.lcmp hx hb nd_Law_law_802 ?_
    refine lv_if_eq (tgt := 808) hx hb nd_Law_law_803 rfl (fun _ => ?_) (fun hc => absurd (lg_self _) hc)
    refine lv_goto hx hb nd_Law_law_808 (tgt := 1057) rfl ?_
    refine W.widen (k := cells + 1) (n := slots + 6) (by omega) (by omega) ?_
    exact kk H locs ls (h) (r.2) (va_up f 0 (q).toInt64) ⟨hPx, hPm, hO, hS⟩ hRel (lv_sub hl [2, 3, 4, 5, 6] rfl)
  · refine kl_H (kw_S (hh := [(0, 10, 13, 13)]) (As := [.ref (xad bX 0), .int (xs (6 * j + 1)), .int (xs (6 * j + 2)), .ref (bX + 82)]) (rest := []) ⟨hx, hb, hml, hown, hts⟩ (lt_covers_1 (B := bx bX) hfl fx (xs (6 * j + 1)) (xs (6 * j + 2)) f h hq) rfl rfl (Nat.le_of_ble_eq_true rfl) (Nat.le_of_ble_eq_true rfl) (pay_in hts (wsH_good nw_675)) List.mem_cons_self (hts _ nw_675) (hts _ nw_0) ⟨by decide, by decide⟩ (n := 4) (by decide +kernel) (hts _ nw_673) (hts _ nw_674) ⟨HP_blind, fun U hU hW => ⟨rfl, by rw [hU]; exact hPx, by rw [hU]; exact hO, va_K.moved hW.alike hKx, NW.warm hW hN, TW.kept hW (fun q9 h9 => by rw [hU]; exact hS.2.1 q9 h9 (fun h8 => by unfold lA at h8; omega)) hTW, NC.moved hW.alike hNC⟩⟩ rfl hl.1 rfl (Nat.le_of_ble_eq_true rfl) nd_Law_law_757 ⟨by show _ ≤ room_1.cells; omega, by show _ ≤ room_1.slots; omega⟩) (fun q9 h9 => by unfold lA; exact h9.elim (fun h8 => by have := h8.1; omega) (fun h8 => by omega)) hS (fun H locs hPx hO h5 hS => ?_)
    have hPm := wdG_kept hPm (H1 := H) (fun i hi hlt => h5 _ hlt (fun hb9 => by have e9 : gad (bX + 61) i = bX + 61 + i := rfl; rw [e9] at hb9; exact hb9.elim (fun h8 => by have h6 : bX + 61 + i < bX + 61 := h8.2; omega) (fun h8 => by omega)))
    have Y : LY s Dx Dm cA cB bX (h) g f H locs := ⟨hPx, hPm, hO, hS⟩
    refine lv_istore (lv' := [(5, .int 1), (4, .int (nI (6 * j))), (3, .ref (bX + 82)), (2, .ref (gad (bX + 61) 0)), (1, .ref (xad bX 0)), (0, .ref b)]) hx hb nd_Law_law_760 hl (by decide) rfl (fun ls hl => ?_)
    refine lv_aload_n hx hb nd_Law_law_762 rfl (lv_at hl 3 rfl) ?_
    refine lv_aload_n hx hb nd_Law_law_763 rfl (lv_at hl 5 rfl) ?_
    refine lv_iload hx hb nd_Law_law_764 (lv_at hl 1 rfl) ?_
    refine lv_iconst (v := 1) hx hb nd_Law_law_766 (by decide) ?_
    refine lv_iadd hx hb nd_Law_law_767 ?_
    refine ks_ld X Y (n := 6 * j + 1) (by rw [show (1 : Int32) = nI 1 from rfl, nI_add]) (by omega) nd_Law_law_768 ?_
    refine lv_aload_n hx hb nd_Law_law_769 rfl (lv_at hl 5 rfl) ?_
    refine lv_iload hx hb nd_Law_law_770 (lv_at hl 1 rfl) ?_
    refine lv_iconst (v := 2) hx hb nd_Law_law_772 (by decide) ?_
    refine lv_iadd hx hb nd_Law_law_773 ?_
    refine ks_ld X Y (n := 6 * j + 2) (by rw [show (2 : Int32) = nI 2 from rfl, nI_add]) (by omega) nd_Law_law_774 ?_
    refine kf_V (As := [.int (xs (6 * j + 1)), .int (xs (6 * j + 2))]) (rest := []) (st1 := [.int (r.1)]) ⟨hx, hb, hml, hown, hts⟩ (mc_M_covers (bm_D (b := bX)) fm (xs (6 * j + 1)) (xs (6 * j + 2)) g r hr) (kb_M_covers hts (hts _ nw_1009) ⟨Nat.le_of_ble_eq_true rfl, Nat.le_of_ble_eq_true rfl⟩) (mr_M hKm hPm) (fun q9 h9 => by unfold lA; have := h9.1; omega) hKm hN hPm hS rfl hl.1 rfl rfl (Nat.le_of_ble_eq_true rfl) ⟨by show _ ≤ room_1.cells; omega, by show _ ≤ room_1.slots; omega⟩ nd_Law_law_775 (fun H locs hPm h5 hS => ?_)
    have hPx := wdG_kept hPx (H1 := H) (fun i hi hlt => h5 _ hlt (fun hb9 => by have := xpi_lt i hi; have h6 : bX + 61 ≤ bX + xpi i := hb9.1; omega))
    have hO := oW_kept hO (H1 := H) (fun q9 g1 g2 => h5 q9 g1 (fun hb9 => by have h6 : q9 < bX + 61 + 21 := hb9.2; omega))
    have Y : LY s Dx Dm cA cB bX (h) (r.2) f H locs := ⟨hPx, hPm, hO, hS⟩
    refine lv_istore (lv' := [(6, .int (r.1)), (5, .int 1), (4, .int (nI (6 * j))), (3, .ref (bX + 82)), (2, .ref (gad (bX + 61) 0)), (1, .ref (xad bX 0)), (0, .ref b)]) hx hb nd_Law_law_778 hl (by decide) rfl (fun ls hl => ?_)
    refine lv_aload_n hx hb nd_Law_law_780 rfl (lv_at hl 4 rfl) ?_
    refine kf_V (As := []) (rest := []) (st1 := [.int (mh_vfault (r.2))]) ⟨hx, hb, hml, hown, hts⟩ (mc_M_thrown (bm_D (b := bX)) (r.2) (mh_vfault (r.2)) rfl) (kb_M_thrown hts (hts _ nw_806) ⟨Nat.le_of_ble_eq_true rfl, Nat.le_of_ble_eq_true rfl⟩) (mr_M hKm hPm) (fun q9 h9 => by unfold lA; have := h9.1; omega) hKm hN hPm hS rfl hl.1 rfl rfl (Nat.le_of_ble_eq_true rfl) ⟨by show _ ≤ room_1.cells; omega, by show _ ≤ room_1.slots; omega⟩ nd_Law_law_781 (fun H locs hPm h5 hS => ?_)
    have hPx := wdG_kept hPx (H1 := H) (fun i hi hlt => h5 _ hlt (fun hb9 => by have := xpi_lt i hi; have h6 : bX + 61 ≤ bX + xpi i := hb9.1; omega))
    have hO := oW_kept hO (H1 := H) (fun q9 g1 g2 => h5 q9 g1 (fun hb9 => by have h6 : q9 < bX + 61 + 21 := hb9.2; omega))
    have Y : LY s Dx Dm cA cB bX (h) (r.2) f H locs := ⟨hPx, hPm, hO, hS⟩
    refine lv_iload hx hb nd_Law_law_784 (lv_at hl 1 rfl) ?_
    refine lv_icmp_eq (tgt := 791) hx hb nd_Law_law_786 rfl (fun _ => ?_) (fun hc => absurd hft hc)
    refine lv_iload hx hb nd_Law_law_791 (lv_at hl 1 rfl) ?_
    refine lv_if_ne (tgt := 808) hx hb nd_Law_law_793 rfl (fun _ => ?_) (fun hc => absurd hc (by decide))
    refine lv_goto hx hb nd_Law_law_808 (tgt := 1057) rfl ?_
    refine W.widen (k := cells + 1) (n := slots + 6) (by omega) (by omega) ?_
    exact kk H locs ls (h) (r.2) f ⟨hPx, hPm, hO, hS⟩ hRel (lv_sub hl [2, 3, 4, 5, 6] rfl)
set_option maxHeartbeats 4000000 in
set_option maxRecDepth 100000 in
theorem lc_block {p : Program} {l : Launch} {e : Env} {s : State} {m : MethodId} {below : List Frame} {meth : Method} {c : Code} {Q : State → Prop} {b L : Nat} {xs : Nat → Int32} {Dx Dm : va_G} {cA cB : Nat → ClassId} {bX : Nat} (X : LX p l s m c b L xs Dx Dm cA cB bX) {Rel : XH → MH → Prop} (hOK : OK_block Rel) {H : Heap} {locs : List Loc} {cells slots j : Nat} {ls : Array Slot} {h : XH} {g : MH} {f : Nat → Int64} (Y : LY s Dx Dm cA cB bX h g f H locs) (hR : Rel h g) (hj : 6 * j + 6 ≤ L) (hcs : cells + 1 ≤ room_1.cells ∧ slots + 6 ≤ room_1.slots) (hl : lv_has ls 8 [(4, .int (nI (6 * j))), (3, .ref (bX + 82)), (2, .ref (gad (bX + 61) 0)), (1, .ref (xad bX 0)), (0, .ref b)])
    (kk : ∀ (H : Heap) (locs : List Loc) (ls : Array Slot) (h : XH) (g : MH) (f : Nat → Int64), LY s Dx Dm cA cB bX h g f H locs → Rel h g → lv_has ls 8 [(4, .int (nI (6 * j))), (3, .ref (bX + 82)), (2, .ref (gad (bX + 61) 0)), (1, .ref (xad bX 0)), (0, .ref b)] → W p l e room_1 s m #[Value.ref b] below meth c H locs (cells + 1) (slots + 6) Q (F0 m 1057 ls [])) : W p l e room_1 s m #[Value.ref b] below meth c H locs cells slots Q (F0 m 811 ls []) := by
  have X0 := X
  obtain ⟨hx, hb, hml, hown, hts, hX, hbl, hKx, hKm, hN, hTW, hNC, hfl, hbX, hL⟩ := X0
  obtain ⟨hPx, hPm, hO, hS⟩ := Y
  have Y : LY s Dx Dm cA cB bX h g f H locs := ⟨hPx, hPm, hO, hS⟩
  obtain ⟨fx, fm, r, hr, hall⟩ := hOK h g hR ((xs (6 * j + 1))) ((xs (6 * j + 2))) ((xs (6 * j + 3))) ((xs (6 * j + 4))) ((xs (6 * j + 5)))
  refine lv_aload_n hx hb nd_Law_law_811 rfl (lv_at hl 3 rfl) ?_
  refine lv_aload_n hx hb nd_Law_law_812 rfl (lv_at hl 4 rfl) ?_
  refine lv_iload hx hb nd_Law_law_813 (lv_at hl 0 rfl) ?_
  refine lv_iconst (v := 1) hx hb nd_Law_law_815 (by decide) ?_
  refine lv_iadd hx hb nd_Law_law_816 ?_
  refine ks_ld X Y (n := 6 * j + 1) (by rw [show (1 : Int32) = nI 1 from rfl, nI_add]) (by omega) nd_Law_law_817 ?_
  refine lv_aload_n hx hb nd_Law_law_818 rfl (lv_at hl 4 rfl) ?_
  refine lv_iload hx hb nd_Law_law_819 (lv_at hl 0 rfl) ?_
  refine lv_iconst (v := 2) hx hb nd_Law_law_821 (by decide) ?_
  refine lv_iadd hx hb nd_Law_law_822 ?_
  refine ks_ld X Y (n := 6 * j + 2) (by rw [show (2 : Int32) = nI 2 from rfl, nI_add]) (by omega) nd_Law_law_823 ?_
  refine lv_aload_n hx hb nd_Law_law_824 rfl (lv_at hl 4 rfl) ?_
  refine lv_iload hx hb nd_Law_law_825 (lv_at hl 0 rfl) ?_
  refine lv_iconst (v := 3) hx hb nd_Law_law_827 (by decide) ?_
  refine lv_iadd hx hb nd_Law_law_828 ?_
  refine ks_ld X Y (n := 6 * j + 3) (by rw [show (3 : Int32) = nI 3 from rfl, nI_add]) (by omega) nd_Law_law_829 ?_
  refine lv_aload_n hx hb nd_Law_law_830 rfl (lv_at hl 4 rfl) ?_
  refine lv_iload hx hb nd_Law_law_831 (lv_at hl 0 rfl) ?_
  refine lv_iconst (v := 4) hx hb nd_Law_law_833 (by decide) ?_
  refine lv_iadd hx hb nd_Law_law_834 ?_
  refine ks_ld X Y (n := 6 * j + 4) (by rw [show (4 : Int32) = nI 4 from rfl, nI_add]) (by omega) nd_Law_law_835 ?_
  refine kl_bool (x := (xs (6 * j + 4))) hx hb nd_Law_law_836 nd_Law_law_839 nd_Law_law_840 nd_Law_law_843 (t1 := 843) (t2 := 844) rfl rfl rfl ?_
  refine lv_aload_n hx hb nd_Law_law_844 rfl (lv_at hl 4 rfl) ?_
  refine lv_iload hx hb nd_Law_law_845 (lv_at hl 0 rfl) ?_
  refine lv_iconst (v := 5) hx hb nd_Law_law_847 (by decide) ?_
  refine lv_iadd hx hb nd_Law_law_848 ?_
  refine ks_ld X Y (n := 6 * j + 5) (by rw [show (5 : Int32) = nI 5 from rfl, nI_add]) (by omega) nd_Law_law_849 ?_
  refine lv_aload_n hx hb nd_Law_law_850 rfl (lv_at hl 1 rfl) ?_
  rcases hall with ⟨q, hq, hft, heq, hRel⟩ | ⟨hq, hft, hRel⟩ | ⟨hq, hft, hRel⟩
  · refine kl_H (kw_S (hh := [(0, 16, 19, 13), (0, 16, 23, 15)]) (As := [.ref (xad bX 0), .int (xs (6 * j + 1)), .int (xs (6 * j + 2)), .int (xs (6 * j + 3)), .int (if (xs (6 * j + 4)) = 0 then (0 : Int32) else 1), .int (xs (6 * j + 5)), .ref (bX + 82)]) (rest := []) ⟨hx, hb, hml, hown, hts⟩ (lr_block bx_D (fun h9 => by have h6 : bX + 82 < bX + 61 := h9.2; omega) fx (xs (6 * j + 1)) (xs (6 * j + 2)) (xs (6 * j + 3)) (if (xs (6 * j + 4)) = 0 then (0 : Int32) else 1) (xs (6 * j + 5)) f h q hq) rfl rfl (Nat.le_of_ble_eq_true rfl) (Nat.le_of_ble_eq_true rfl) (pay_in hts (wsH_good nw_686)) List.mem_cons_self (hts _ nw_686) (hts _ nw_0) ⟨by decide, by decide⟩ (n := 7) (by decide +kernel) (hts _ nw_684) (hts _ nw_685) ⟨HP_blind, fun U hU hW => ⟨rfl, by rw [hU]; exact hPx, by rw [hU]; exact hO, va_K.moved hW.alike hKx, NW.warm hW hN, TW.kept hW (fun q9 h9 => by rw [hU]; exact hS.2.1 q9 h9 (fun h8 => by unfold lA at h8; omega)) hTW, NC.moved hW.alike hNC⟩⟩ rfl hl.1 rfl (Nat.le_of_ble_eq_true rfl) nd_Law_law_851 ⟨by show _ ≤ room_1.cells; omega, by show _ ≤ room_1.slots; omega⟩) (fun q9 h9 => by unfold lA; exact h9.elim (fun h8 => by have := h8.1; omega) (fun h8 => by omega)) hS (fun H locs hPx hO h5 hS => ?_)
    have hPm := wdG_kept hPm (H1 := H) (fun i hi hlt => h5 _ hlt (fun hb9 => by have e9 : gad (bX + 61) i = bX + 61 + i := rfl; rw [e9] at hb9; exact hb9.elim (fun h8 => by have h6 : bX + 61 + i < bX + 61 := h8.2; omega) (fun h8 => by omega)))
    have Y : LY s Dx Dm cA cB bX (h) g (va_up f 0 (q).toInt64) H locs := ⟨hPx, hPm, hO, hS⟩
    refine lv_istore (lv' := [(5, .int 0), (4, .int (nI (6 * j))), (3, .ref (bX + 82)), (2, .ref (gad (bX + 61) 0)), (1, .ref (xad bX 0)), (0, .ref b)]) hx hb nd_Law_law_854 hl (by decide) rfl (fun ls hl => ?_)
    refine lv_aload_n hx hb nd_Law_law_856 rfl (lv_at hl 3 rfl) ?_
    refine lv_aload_n hx hb nd_Law_law_857 rfl (lv_at hl 5 rfl) ?_
    refine lv_iload hx hb nd_Law_law_858 (lv_at hl 1 rfl) ?_
    refine lv_iconst (v := 1) hx hb nd_Law_law_860 (by decide) ?_
    refine lv_iadd hx hb nd_Law_law_861 ?_
    refine ks_ld X Y (n := 6 * j + 1) (by rw [show (1 : Int32) = nI 1 from rfl, nI_add]) (by omega) nd_Law_law_862 ?_
    refine lv_aload_n hx hb nd_Law_law_863 rfl (lv_at hl 5 rfl) ?_
    refine lv_iload hx hb nd_Law_law_864 (lv_at hl 1 rfl) ?_
    refine lv_iconst (v := 2) hx hb nd_Law_law_866 (by decide) ?_
    refine lv_iadd hx hb nd_Law_law_867 ?_
    refine ks_ld X Y (n := 6 * j + 2) (by rw [show (2 : Int32) = nI 2 from rfl, nI_add]) (by omega) nd_Law_law_868 ?_
    refine lv_aload_n hx hb nd_Law_law_869 rfl (lv_at hl 5 rfl) ?_
    refine lv_iload hx hb nd_Law_law_870 (lv_at hl 1 rfl) ?_
    refine lv_iconst (v := 3) hx hb nd_Law_law_872 (by decide) ?_
    refine lv_iadd hx hb nd_Law_law_873 ?_
    refine ks_ld X Y (n := 6 * j + 3) (by rw [show (3 : Int32) = nI 3 from rfl, nI_add]) (by omega) nd_Law_law_874 ?_
    refine lv_aload_n hx hb nd_Law_law_875 rfl (lv_at hl 5 rfl) ?_
    refine lv_iload hx hb nd_Law_law_876 (lv_at hl 1 rfl) ?_
    refine lv_iconst (v := 4) hx hb nd_Law_law_878 (by decide) ?_
    refine lv_iadd hx hb nd_Law_law_879 ?_
    refine ks_ld X Y (n := 6 * j + 4) (by rw [show (4 : Int32) = nI 4 from rfl, nI_add]) (by omega) nd_Law_law_880 ?_
    refine kl_bool (x := (xs (6 * j + 4))) hx hb nd_Law_law_881 nd_Law_law_884 nd_Law_law_885 nd_Law_law_888 (t1 := 888) (t2 := 889) rfl rfl rfl ?_
    refine lv_aload_n hx hb nd_Law_law_889 rfl (lv_at hl 5 rfl) ?_
    refine lv_iload hx hb nd_Law_law_890 (lv_at hl 1 rfl) ?_
    refine lv_iconst (v := 5) hx hb nd_Law_law_892 (by decide) ?_
    refine lv_iadd hx hb nd_Law_law_893 ?_
    refine ks_ld X Y (n := 6 * j + 5) (by rw [show (5 : Int32) = nI 5 from rfl, nI_add]) (by omega) nd_Law_law_894 ?_
    refine kf_V (As := [.int (xs (6 * j + 1)), .int (xs (6 * j + 2)), .int (xs (6 * j + 3)), .int (if (xs (6 * j + 4)) = 0 then (0 : Int32) else 1), .int (xs (6 * j + 5))]) (rest := []) (st1 := [.int (r.1)]) ⟨hx, hb, hml, hown, hts⟩ (mc_M_block (bm_D (b := bX)) fm (xs (6 * j + 1)) (xs (6 * j + 2)) (xs (6 * j + 3)) (if (xs (6 * j + 4)) = 0 then (0 : Int32) else 1) (xs (6 * j + 5)) g r hr) (kb_M_block hts (hts _ nw_1013) ⟨Nat.le_of_ble_eq_true rfl, Nat.le_of_ble_eq_true rfl⟩) (mr_M hKm hPm) (fun q9 h9 => by unfold lA; have := h9.1; omega) hKm hN hPm hS rfl hl.1 rfl rfl (Nat.le_of_ble_eq_true rfl) ⟨by show _ ≤ room_1.cells; omega, by show _ ≤ room_1.slots; omega⟩ nd_Law_law_895 (fun H locs hPm h5 hS => ?_)
    have hPx := wdG_kept hPx (H1 := H) (fun i hi hlt => h5 _ hlt (fun hb9 => by have := xpi_lt i hi; have h6 : bX + 61 ≤ bX + xpi i := hb9.1; omega))
    have hO := oW_kept hO (H1 := H) (fun q9 g1 g2 => h5 q9 g1 (fun hb9 => by have h6 : q9 < bX + 61 + 21 := hb9.2; omega))
    have Y : LY s Dx Dm cA cB bX (h) (r.2) (va_up f 0 (q).toInt64) H locs := ⟨hPx, hPm, hO, hS⟩
    refine lv_istore (lv' := [(6, .int (r.1)), (5, .int 0), (4, .int (nI (6 * j))), (3, .ref (bX + 82)), (2, .ref (gad (bX + 61) 0)), (1, .ref (xad bX 0)), (0, .ref b)]) hx hb nd_Law_law_898 hl (by decide) rfl (fun ls hl => ?_)
    refine lv_aload_n hx hb nd_Law_law_900 rfl (lv_at hl 4 rfl) ?_
    refine kf_V (As := []) (rest := []) (st1 := [.int (mh_vfault (r.2))]) ⟨hx, hb, hml, hown, hts⟩ (mc_M_thrown (bm_D (b := bX)) (r.2) (mh_vfault (r.2)) rfl) (kb_M_thrown hts (hts _ nw_806) ⟨Nat.le_of_ble_eq_true rfl, Nat.le_of_ble_eq_true rfl⟩) (mr_M hKm hPm) (fun q9 h9 => by unfold lA; have := h9.1; omega) hKm hN hPm hS rfl hl.1 rfl rfl (Nat.le_of_ble_eq_true rfl) ⟨by show _ ≤ room_1.cells; omega, by show _ ≤ room_1.slots; omega⟩ nd_Law_law_901 (fun H locs hPm h5 hS => ?_)
    have hPx := wdG_kept hPx (H1 := H) (fun i hi hlt => h5 _ hlt (fun hb9 => by have := xpi_lt i hi; have h6 : bX + 61 ≤ bX + xpi i := hb9.1; omega))
    have hO := oW_kept hO (H1 := H) (fun q9 g1 g2 => h5 q9 g1 (fun hb9 => by have h6 : q9 < bX + 61 + 21 := hb9.2; omega))
    have Y : LY s Dx Dm cA cB bX (h) (r.2) (va_up f 0 (q).toInt64) H locs := ⟨hPx, hPm, hO, hS⟩
    refine lv_iload hx hb nd_Law_law_904 (lv_at hl 1 rfl) ?_
    refine lv_icmp_eq (tgt := 911) hx hb nd_Law_law_906 rfl (fun _ => ?_) (fun hc => absurd hft hc)
    refine lv_iload hx hb nd_Law_law_911 (lv_at hl 1 rfl) ?_
    refine lv_if_ne (tgt := 928) hx hb nd_Law_law_913 rfl (fun hc => absurd rfl hc) (fun _ => ?_)
    refine lv_aload_n hx hb nd_Law_law_916 rfl (lv_at hl 3 rfl) ?_
    refine lv_iconst (v := 0) hx hb nd_Law_law_917 (by decide) ?_
    refine va_lald (f := (va_up f 0 (q).toInt64)) hx hb hKx hO 0 2 rfl rfl (i := 0) (show vp_in 0 1 by unfold vp_in; decide) nd_Law_law_918 ?_
    rw [show (va_up f 0 (q).toInt64) ((0 : Int32).toNatClampNeg) = (q).toInt64 from up_eq]
    refine lv_iload hx hb nd_Law_law_919 (lv_at hl 0 rfl) ?_
    refine lv_i2l hx hb nd_Law_law_921 rfl ?_
    rw [heq]
    refine W.lcmp hx hb nd_Law_law_922 ?_
    refine lv_if_eq (tgt := 928) hx hb nd_Law_law_923 rfl (fun _ => ?_) (fun hc => absurd (lg_self _) hc)
    refine lv_goto hx hb nd_Law_law_928 (tgt := 1057) rfl ?_
    refine W.widen (k := cells + 1) (n := slots + 6) (by omega) (by omega) ?_
    exact kk H locs ls (h) (r.2) (va_up f 0 (q).toInt64) ⟨hPx, hPm, hO, hS⟩ hRel (lv_sub hl [2, 3, 4, 5, 6] rfl)
  · refine kl_H (kw_S (hh := [(0, 16, 19, 13), (0, 16, 23, 15)]) (As := [.ref (xad bX 0), .int (xs (6 * j + 1)), .int (xs (6 * j + 2)), .int (xs (6 * j + 3)), .int (if (xs (6 * j + 4)) = 0 then (0 : Int32) else 1), .int (xs (6 * j + 5)), .ref (bX + 82)]) (rest := []) ⟨hx, hb, hml, hown, hts⟩ (lt_block_1 (B := bx bX) hfl fx (xs (6 * j + 1)) (xs (6 * j + 2)) (xs (6 * j + 3)) (if (xs (6 * j + 4)) = 0 then (0 : Int32) else 1) (xs (6 * j + 5)) f h hq) rfl rfl (Nat.le_of_ble_eq_true rfl) (Nat.le_of_ble_eq_true rfl) (pay_in hts (wsH_good nw_686)) List.mem_cons_self (hts _ nw_686) (hts _ nw_0) ⟨by decide, by decide⟩ (n := 7) (by decide +kernel) (hts _ nw_684) (hts _ nw_685) ⟨HP_blind, fun U hU hW => ⟨rfl, by rw [hU]; exact hPx, by rw [hU]; exact hO, va_K.moved hW.alike hKx, NW.warm hW hN, TW.kept hW (fun q9 h9 => by rw [hU]; exact hS.2.1 q9 h9 (fun h8 => by unfold lA at h8; omega)) hTW, NC.moved hW.alike hNC⟩⟩ rfl hl.1 rfl (Nat.le_of_ble_eq_true rfl) nd_Law_law_851 ⟨by show _ ≤ room_1.cells; omega, by show _ ≤ room_1.slots; omega⟩) (fun q9 h9 => by unfold lA; exact h9.elim (fun h8 => by have := h8.1; omega) (fun h8 => by omega)) hS (fun H locs hPx hO h5 hS => ?_)
    have hPm := wdG_kept hPm (H1 := H) (fun i hi hlt => h5 _ hlt (fun hb9 => by have e9 : gad (bX + 61) i = bX + 61 + i := rfl; rw [e9] at hb9; exact hb9.elim (fun h8 => by have h6 : bX + 61 + i < bX + 61 := h8.2; omega) (fun h8 => by omega)))
    have Y : LY s Dx Dm cA cB bX (h) g f H locs := ⟨hPx, hPm, hO, hS⟩
    refine lv_istore (lv' := [(5, .int 1), (4, .int (nI (6 * j))), (3, .ref (bX + 82)), (2, .ref (gad (bX + 61) 0)), (1, .ref (xad bX 0)), (0, .ref b)]) hx hb nd_Law_law_854 hl (by decide) rfl (fun ls hl => ?_)
    refine lv_aload_n hx hb nd_Law_law_856 rfl (lv_at hl 3 rfl) ?_
    refine lv_aload_n hx hb nd_Law_law_857 rfl (lv_at hl 5 rfl) ?_
    refine lv_iload hx hb nd_Law_law_858 (lv_at hl 1 rfl) ?_
    refine lv_iconst (v := 1) hx hb nd_Law_law_860 (by decide) ?_
    refine lv_iadd hx hb nd_Law_law_861 ?_
    refine ks_ld X Y (n := 6 * j + 1) (by rw [show (1 : Int32) = nI 1 from rfl, nI_add]) (by omega) nd_Law_law_862 ?_
    refine lv_aload_n hx hb nd_Law_law_863 rfl (lv_at hl 5 rfl) ?_
    refine lv_iload hx hb nd_Law_law_864 (lv_at hl 1 rfl) ?_
    refine lv_iconst (v := 2) hx hb nd_Law_law_866 (by decide) ?_
    refine lv_iadd hx hb nd_Law_law_867 ?_
    refine ks_ld X Y (n := 6 * j + 2) (by rw [show (2 : Int32) = nI 2 from rfl, nI_add]) (by omega) nd_Law_law_868 ?_
    refine lv_aload_n hx hb nd_Law_law_869 rfl (lv_at hl 5 rfl) ?_
    refine lv_iload hx hb nd_Law_law_870 (lv_at hl 1 rfl) ?_
    refine lv_iconst (v := 3) hx hb nd_Law_law_872 (by decide) ?_
    refine lv_iadd hx hb nd_Law_law_873 ?_
    refine ks_ld X Y (n := 6 * j + 3) (by rw [show (3 : Int32) = nI 3 from rfl, nI_add]) (by omega) nd_Law_law_874 ?_
    refine lv_aload_n hx hb nd_Law_law_875 rfl (lv_at hl 5 rfl) ?_
    refine lv_iload hx hb nd_Law_law_876 (lv_at hl 1 rfl) ?_
    refine lv_iconst (v := 4) hx hb nd_Law_law_878 (by decide) ?_
    refine lv_iadd hx hb nd_Law_law_879 ?_
    refine ks_ld X Y (n := 6 * j + 4) (by rw [show (4 : Int32) = nI 4 from rfl, nI_add]) (by omega) nd_Law_law_880 ?_
    refine kl_bool (x := (xs (6 * j + 4))) hx hb nd_Law_law_881 nd_Law_law_884 nd_Law_law_885 nd_Law_law_888 (t1 := 888) (t2 := 889) rfl rfl rfl ?_
    refine lv_aload_n hx hb nd_Law_law_889 rfl (lv_at hl 5 rfl) ?_
    refine lv_iload hx hb nd_Law_law_890 (lv_at hl 1 rfl) ?_
    refine lv_iconst (v := 5) hx hb nd_Law_law_892 (by decide) ?_
    refine lv_iadd hx hb nd_Law_law_893 ?_
    refine ks_ld X Y (n := 6 * j + 5) (by rw [show (5 : Int32) = nI 5 from rfl, nI_add]) (by omega) nd_Law_law_894 ?_
    refine kf_V (As := [.int (xs (6 * j + 1)), .int (xs (6 * j + 2)), .int (xs (6 * j + 3)), .int (if (xs (6 * j + 4)) = 0 then (0 : Int32) else 1), .int (xs (6 * j + 5))]) (rest := []) (st1 := [.int (r.1)]) ⟨hx, hb, hml, hown, hts⟩ (mc_M_block (bm_D (b := bX)) fm (xs (6 * j + 1)) (xs (6 * j + 2)) (xs (6 * j + 3)) (if (xs (6 * j + 4)) = 0 then (0 : Int32) else 1) (xs (6 * j + 5)) g r hr) (kb_M_block hts (hts _ nw_1013) ⟨Nat.le_of_ble_eq_true rfl, Nat.le_of_ble_eq_true rfl⟩) (mr_M hKm hPm) (fun q9 h9 => by unfold lA; have := h9.1; omega) hKm hN hPm hS rfl hl.1 rfl rfl (Nat.le_of_ble_eq_true rfl) ⟨by show _ ≤ room_1.cells; omega, by show _ ≤ room_1.slots; omega⟩ nd_Law_law_895 (fun H locs hPm h5 hS => ?_)
    have hPx := wdG_kept hPx (H1 := H) (fun i hi hlt => h5 _ hlt (fun hb9 => by have := xpi_lt i hi; have h6 : bX + 61 ≤ bX + xpi i := hb9.1; omega))
    have hO := oW_kept hO (H1 := H) (fun q9 g1 g2 => h5 q9 g1 (fun hb9 => by have h6 : q9 < bX + 61 + 21 := hb9.2; omega))
    have Y : LY s Dx Dm cA cB bX (h) (r.2) f H locs := ⟨hPx, hPm, hO, hS⟩
    refine lv_istore (lv' := [(6, .int (r.1)), (5, .int 1), (4, .int (nI (6 * j))), (3, .ref (bX + 82)), (2, .ref (gad (bX + 61) 0)), (1, .ref (xad bX 0)), (0, .ref b)]) hx hb nd_Law_law_898 hl (by decide) rfl (fun ls hl => ?_)
    refine lv_aload_n hx hb nd_Law_law_900 rfl (lv_at hl 4 rfl) ?_
    refine kf_V (As := []) (rest := []) (st1 := [.int (mh_vfault (r.2))]) ⟨hx, hb, hml, hown, hts⟩ (mc_M_thrown (bm_D (b := bX)) (r.2) (mh_vfault (r.2)) rfl) (kb_M_thrown hts (hts _ nw_806) ⟨Nat.le_of_ble_eq_true rfl, Nat.le_of_ble_eq_true rfl⟩) (mr_M hKm hPm) (fun q9 h9 => by unfold lA; have := h9.1; omega) hKm hN hPm hS rfl hl.1 rfl rfl (Nat.le_of_ble_eq_true rfl) ⟨by show _ ≤ room_1.cells; omega, by show _ ≤ room_1.slots; omega⟩ nd_Law_law_901 (fun H locs hPm h5 hS => ?_)
    have hPx := wdG_kept hPx (H1 := H) (fun i hi hlt => h5 _ hlt (fun hb9 => by have := xpi_lt i hi; have h6 : bX + 61 ≤ bX + xpi i := hb9.1; omega))
    have hO := oW_kept hO (H1 := H) (fun q9 g1 g2 => h5 q9 g1 (fun hb9 => by have h6 : q9 < bX + 61 + 21 := hb9.2; omega))
    have Y : LY s Dx Dm cA cB bX (h) (r.2) f H locs := ⟨hPx, hPm, hO, hS⟩
    refine lv_iload hx hb nd_Law_law_904 (lv_at hl 1 rfl) ?_
    refine lv_icmp_eq (tgt := 911) hx hb nd_Law_law_906 rfl (fun _ => ?_) (fun hc => absurd hft hc)
    refine lv_iload hx hb nd_Law_law_911 (lv_at hl 1 rfl) ?_
    refine lv_if_ne (tgt := 928) hx hb nd_Law_law_913 rfl (fun _ => ?_) (fun hc => absurd hc (by decide))
    refine lv_goto hx hb nd_Law_law_928 (tgt := 1057) rfl ?_
    refine W.widen (k := cells + 1) (n := slots + 6) (by omega) (by omega) ?_
    exact kk H locs ls (h) (r.2) f ⟨hPx, hPm, hO, hS⟩ hRel (lv_sub hl [2, 3, 4, 5, 6] rfl)
  · refine kl_H (kw_S (hh := [(0, 16, 19, 13), (0, 16, 23, 15)]) (As := [.ref (xad bX 0), .int (xs (6 * j + 1)), .int (xs (6 * j + 2)), .int (xs (6 * j + 3)), .int (if (xs (6 * j + 4)) = 0 then (0 : Int32) else 1), .int (xs (6 * j + 5)), .ref (bX + 82)]) (rest := []) ⟨hx, hb, hml, hown, hts⟩ (lt_block_2 (B := bx bX) hfl fx (xs (6 * j + 1)) (xs (6 * j + 2)) (xs (6 * j + 3)) (if (xs (6 * j + 4)) = 0 then (0 : Int32) else 1) (xs (6 * j + 5)) f h hq) rfl rfl (Nat.le_of_ble_eq_true rfl) (Nat.le_of_ble_eq_true rfl) (pay_in hts (wsH_good nw_686)) List.mem_cons_self (hts _ nw_686) (hts _ nw_0) ⟨by decide, by decide⟩ (n := 7) (by decide +kernel) (hts _ nw_684) (hts _ nw_685) ⟨HP_blind, fun U hU hW => ⟨rfl, by rw [hU]; exact hPx, by rw [hU]; exact hO, va_K.moved hW.alike hKx, NW.warm hW hN, TW.kept hW (fun q9 h9 => by rw [hU]; exact hS.2.1 q9 h9 (fun h8 => by unfold lA at h8; omega)) hTW, NC.moved hW.alike hNC⟩⟩ rfl hl.1 rfl (Nat.le_of_ble_eq_true rfl) nd_Law_law_851 ⟨by show _ ≤ room_1.cells; omega, by show _ ≤ room_1.slots; omega⟩) (fun q9 h9 => by unfold lA; exact h9.elim (fun h8 => by have := h8.1; omega) (fun h8 => by omega)) hS (fun H locs hPx hO h5 hS => ?_)
    have hPm := wdG_kept hPm (H1 := H) (fun i hi hlt => h5 _ hlt (fun hb9 => by have e9 : gad (bX + 61) i = bX + 61 + i := rfl; rw [e9] at hb9; exact hb9.elim (fun h8 => by have h6 : bX + 61 + i < bX + 61 := h8.2; omega) (fun h8 => by omega)))
    have Y : LY s Dx Dm cA cB bX (h) g f H locs := ⟨hPx, hPm, hO, hS⟩
    refine lv_istore (lv' := [(5, .int 2), (4, .int (nI (6 * j))), (3, .ref (bX + 82)), (2, .ref (gad (bX + 61) 0)), (1, .ref (xad bX 0)), (0, .ref b)]) hx hb nd_Law_law_854 hl (by decide) rfl (fun ls hl => ?_)
    refine lv_aload_n hx hb nd_Law_law_856 rfl (lv_at hl 3 rfl) ?_
    refine lv_aload_n hx hb nd_Law_law_857 rfl (lv_at hl 5 rfl) ?_
    refine lv_iload hx hb nd_Law_law_858 (lv_at hl 1 rfl) ?_
    refine lv_iconst (v := 1) hx hb nd_Law_law_860 (by decide) ?_
    refine lv_iadd hx hb nd_Law_law_861 ?_
    refine ks_ld X Y (n := 6 * j + 1) (by rw [show (1 : Int32) = nI 1 from rfl, nI_add]) (by omega) nd_Law_law_862 ?_
    refine lv_aload_n hx hb nd_Law_law_863 rfl (lv_at hl 5 rfl) ?_
    refine lv_iload hx hb nd_Law_law_864 (lv_at hl 1 rfl) ?_
    refine lv_iconst (v := 2) hx hb nd_Law_law_866 (by decide) ?_
    refine lv_iadd hx hb nd_Law_law_867 ?_
    refine ks_ld X Y (n := 6 * j + 2) (by rw [show (2 : Int32) = nI 2 from rfl, nI_add]) (by omega) nd_Law_law_868 ?_
    refine lv_aload_n hx hb nd_Law_law_869 rfl (lv_at hl 5 rfl) ?_
    refine lv_iload hx hb nd_Law_law_870 (lv_at hl 1 rfl) ?_
    refine lv_iconst (v := 3) hx hb nd_Law_law_872 (by decide) ?_
    refine lv_iadd hx hb nd_Law_law_873 ?_
    refine ks_ld X Y (n := 6 * j + 3) (by rw [show (3 : Int32) = nI 3 from rfl, nI_add]) (by omega) nd_Law_law_874 ?_
    refine lv_aload_n hx hb nd_Law_law_875 rfl (lv_at hl 5 rfl) ?_
    refine lv_iload hx hb nd_Law_law_876 (lv_at hl 1 rfl) ?_
    refine lv_iconst (v := 4) hx hb nd_Law_law_878 (by decide) ?_
    refine lv_iadd hx hb nd_Law_law_879 ?_
    refine ks_ld X Y (n := 6 * j + 4) (by rw [show (4 : Int32) = nI 4 from rfl, nI_add]) (by omega) nd_Law_law_880 ?_
    refine kl_bool (x := (xs (6 * j + 4))) hx hb nd_Law_law_881 nd_Law_law_884 nd_Law_law_885 nd_Law_law_888 (t1 := 888) (t2 := 889) rfl rfl rfl ?_
    refine lv_aload_n hx hb nd_Law_law_889 rfl (lv_at hl 5 rfl) ?_
    refine lv_iload hx hb nd_Law_law_890 (lv_at hl 1 rfl) ?_
    refine lv_iconst (v := 5) hx hb nd_Law_law_892 (by decide) ?_
    refine lv_iadd hx hb nd_Law_law_893 ?_
    refine ks_ld X Y (n := 6 * j + 5) (by rw [show (5 : Int32) = nI 5 from rfl, nI_add]) (by omega) nd_Law_law_894 ?_
    refine kf_V (As := [.int (xs (6 * j + 1)), .int (xs (6 * j + 2)), .int (xs (6 * j + 3)), .int (if (xs (6 * j + 4)) = 0 then (0 : Int32) else 1), .int (xs (6 * j + 5))]) (rest := []) (st1 := [.int (r.1)]) ⟨hx, hb, hml, hown, hts⟩ (mc_M_block (bm_D (b := bX)) fm (xs (6 * j + 1)) (xs (6 * j + 2)) (xs (6 * j + 3)) (if (xs (6 * j + 4)) = 0 then (0 : Int32) else 1) (xs (6 * j + 5)) g r hr) (kb_M_block hts (hts _ nw_1013) ⟨Nat.le_of_ble_eq_true rfl, Nat.le_of_ble_eq_true rfl⟩) (mr_M hKm hPm) (fun q9 h9 => by unfold lA; have := h9.1; omega) hKm hN hPm hS rfl hl.1 rfl rfl (Nat.le_of_ble_eq_true rfl) ⟨by show _ ≤ room_1.cells; omega, by show _ ≤ room_1.slots; omega⟩ nd_Law_law_895 (fun H locs hPm h5 hS => ?_)
    have hPx := wdG_kept hPx (H1 := H) (fun i hi hlt => h5 _ hlt (fun hb9 => by have := xpi_lt i hi; have h6 : bX + 61 ≤ bX + xpi i := hb9.1; omega))
    have hO := oW_kept hO (H1 := H) (fun q9 g1 g2 => h5 q9 g1 (fun hb9 => by have h6 : q9 < bX + 61 + 21 := hb9.2; omega))
    have Y : LY s Dx Dm cA cB bX (h) (r.2) f H locs := ⟨hPx, hPm, hO, hS⟩
    refine lv_istore (lv' := [(6, .int (r.1)), (5, .int 2), (4, .int (nI (6 * j))), (3, .ref (bX + 82)), (2, .ref (gad (bX + 61) 0)), (1, .ref (xad bX 0)), (0, .ref b)]) hx hb nd_Law_law_898 hl (by decide) rfl (fun ls hl => ?_)
    refine lv_aload_n hx hb nd_Law_law_900 rfl (lv_at hl 4 rfl) ?_
    refine kf_V (As := []) (rest := []) (st1 := [.int (mh_vfault (r.2))]) ⟨hx, hb, hml, hown, hts⟩ (mc_M_thrown (bm_D (b := bX)) (r.2) (mh_vfault (r.2)) rfl) (kb_M_thrown hts (hts _ nw_806) ⟨Nat.le_of_ble_eq_true rfl, Nat.le_of_ble_eq_true rfl⟩) (mr_M hKm hPm) (fun q9 h9 => by unfold lA; have := h9.1; omega) hKm hN hPm hS rfl hl.1 rfl rfl (Nat.le_of_ble_eq_true rfl) ⟨by show _ ≤ room_1.cells; omega, by show _ ≤ room_1.slots; omega⟩ nd_Law_law_901 (fun H locs hPm h5 hS => ?_)
    have hPx := wdG_kept hPx (H1 := H) (fun i hi hlt => h5 _ hlt (fun hb9 => by have := xpi_lt i hi; have h6 : bX + 61 ≤ bX + xpi i := hb9.1; omega))
    have hO := oW_kept hO (H1 := H) (fun q9 g1 g2 => h5 q9 g1 (fun hb9 => by have h6 : q9 < bX + 61 + 21 := hb9.2; omega))
    have Y : LY s Dx Dm cA cB bX (h) (r.2) f H locs := ⟨hPx, hPm, hO, hS⟩
    refine lv_iload hx hb nd_Law_law_904 (lv_at hl 1 rfl) ?_
    refine lv_icmp_eq (tgt := 911) hx hb nd_Law_law_906 rfl (fun _ => ?_) (fun hc => absurd hft hc)
    refine lv_iload hx hb nd_Law_law_911 (lv_at hl 1 rfl) ?_
    refine lv_if_ne (tgt := 928) hx hb nd_Law_law_913 rfl (fun _ => ?_) (fun hc => absurd hc (by decide))
    refine lv_goto hx hb nd_Law_law_928 (tgt := 1057) rfl ?_
    refine W.widen (k := cells + 1) (n := slots + 6) (by omega) (by omega) ?_
    exact kk H locs ls (h) (r.2) f ⟨hPx, hPm, hO, hS⟩ hRel (lv_sub hl [2, 3, 4, 5, 6] rfl)
set_option maxHeartbeats 4000000 in
set_option maxRecDepth 100000 in
theorem lc_lost {p : Program} {l : Launch} {e : Env} {s : State} {m : MethodId} {below : List Frame} {meth : Method} {c : Code} {Q : State → Prop} {b L : Nat} {xs : Nat → Int32} {Dx Dm : va_G} {cA cB : Nat → ClassId} {bX : Nat} (X : LX p l s m c b L xs Dx Dm cA cB bX) {Rel : XH → MH → Prop} (hOK : OK_lost Rel) {H : Heap} {locs : List Loc} {cells slots j : Nat} {ls : Array Slot} {h : XH} {g : MH} {f : Nat → Int64} (Y : LY s Dx Dm cA cB bX h g f H locs) (hR : Rel h g) (hj : 6 * j + 6 ≤ L) (hcs : cells + 1 ≤ room_1.cells ∧ slots + 6 ≤ room_1.slots) (hl : lv_has ls 8 [(4, .int (nI (6 * j))), (3, .ref (bX + 82)), (2, .ref (gad (bX + 61) 0)), (1, .ref (xad bX 0)), (0, .ref b)])
    (kk : ∀ (H : Heap) (locs : List Loc) (ls : Array Slot) (h : XH) (g : MH) (f : Nat → Int64), LY s Dx Dm cA cB bX h g f H locs → Rel h g → lv_has ls 8 [(4, .int (nI (6 * j))), (3, .ref (bX + 82)), (2, .ref (gad (bX + 61) 0)), (1, .ref (xad bX 0)), (0, .ref b)] → W p l e room_1 s m #[Value.ref b] below meth c H locs (cells + 1) (slots + 6) Q (F0 m 1057 ls [])) : W p l e room_1 s m #[Value.ref b] below meth c H locs cells slots Q (F0 m 931 ls []) := by
  have X0 := X
  obtain ⟨hx, hb, hml, hown, hts, hX, hbl, hKx, hKm, hN, hTW, hNC, hfl, hbX, hL⟩ := X0
  obtain ⟨hPx, hPm, hO, hS⟩ := Y
  have Y : LY s Dx Dm cA cB bX h g f H locs := ⟨hPx, hPm, hO, hS⟩
  obtain ⟨fx, fm, r, hr, hall⟩ := hOK h g hR ((xs (6 * j + 1))) ((xs (6 * j + 2)))
  refine lv_aload_n hx hb nd_Law_law_931 rfl (lv_at hl 3 rfl) ?_
  refine lv_aload_n hx hb nd_Law_law_932 rfl (lv_at hl 4 rfl) ?_
  refine lv_iload hx hb nd_Law_law_933 (lv_at hl 0 rfl) ?_
  refine lv_iconst (v := 1) hx hb nd_Law_law_935 (by decide) ?_
  refine lv_iadd hx hb nd_Law_law_936 ?_
  refine ks_ld X Y (n := 6 * j + 1) (by rw [show (1 : Int32) = nI 1 from rfl, nI_add]) (by omega) nd_Law_law_937 ?_
  refine lv_aload_n hx hb nd_Law_law_938 rfl (lv_at hl 4 rfl) ?_
  refine lv_iload hx hb nd_Law_law_939 (lv_at hl 0 rfl) ?_
  refine lv_iconst (v := 2) hx hb nd_Law_law_941 (by decide) ?_
  refine lv_iadd hx hb nd_Law_law_942 ?_
  refine ks_ld X Y (n := 6 * j + 2) (by rw [show (2 : Int32) = nI 2 from rfl, nI_add]) (by omega) nd_Law_law_943 ?_
  refine lv_aload_n hx hb nd_Law_law_944 rfl (lv_at hl 1 rfl) ?_
  rcases hall with ⟨q, hq, hft, heq, hRel⟩ | ⟨hq, hft, hRel⟩
  · refine kl_H (kw_S (hh := [(0, 17, 20, 13)]) (As := [.ref (xad bX 0), .int (xs (6 * j + 1)), .int (xs (6 * j + 2)), .ref (bX + 82)]) (rest := []) ⟨hx, hb, hml, hown, hts⟩ (lr_lost bx_D (fun h9 => by have h6 : bX + 82 < bX + 61 := h9.2; omega) fx (xs (6 * j + 1)) (xs (6 * j + 2)) f h q hq) rfl rfl (Nat.le_of_ble_eq_true rfl) (Nat.le_of_ble_eq_true rfl) (pay_in hts (wsH_good nw_696)) List.mem_cons_self (hts _ nw_696) (hts _ nw_0) ⟨by decide, by decide⟩ (n := 4) (by decide +kernel) (hts _ nw_694) (hts _ nw_695) ⟨HP_blind, fun U hU hW => ⟨rfl, by rw [hU]; exact hPx, by rw [hU]; exact hO, va_K.moved hW.alike hKx, NW.warm hW hN, TW.kept hW (fun q9 h9 => by rw [hU]; exact hS.2.1 q9 h9 (fun h8 => by unfold lA at h8; omega)) hTW, NC.moved hW.alike hNC⟩⟩ rfl hl.1 rfl (Nat.le_of_ble_eq_true rfl) nd_Law_law_945 ⟨by show _ ≤ room_1.cells; omega, by show _ ≤ room_1.slots; omega⟩) (fun q9 h9 => by unfold lA; exact h9.elim (fun h8 => by have := h8.1; omega) (fun h8 => by omega)) hS (fun H locs hPx hO h5 hS => ?_)
    have hPm := wdG_kept hPm (H1 := H) (fun i hi hlt => h5 _ hlt (fun hb9 => by have e9 : gad (bX + 61) i = bX + 61 + i := rfl; rw [e9] at hb9; exact hb9.elim (fun h8 => by have h6 : bX + 61 + i < bX + 61 := h8.2; omega) (fun h8 => by omega)))
    have Y : LY s Dx Dm cA cB bX (q.2) g (va_up f 0 (if q.1 = 0 then (0 : Int64) else 1)) H locs := ⟨hPx, hPm, hO, hS⟩
    refine lv_istore (lv' := [(5, .int 0), (4, .int (nI (6 * j))), (3, .ref (bX + 82)), (2, .ref (gad (bX + 61) 0)), (1, .ref (xad bX 0)), (0, .ref b)]) hx hb nd_Law_law_948 hl (by decide) rfl (fun ls hl => ?_)
    refine lv_aload_n hx hb nd_Law_law_950 rfl (lv_at hl 3 rfl) ?_
    refine lv_aload_n hx hb nd_Law_law_951 rfl (lv_at hl 5 rfl) ?_
    refine lv_iload hx hb nd_Law_law_952 (lv_at hl 1 rfl) ?_
    refine lv_iconst (v := 1) hx hb nd_Law_law_954 (by decide) ?_
    refine lv_iadd hx hb nd_Law_law_955 ?_
    refine ks_ld X Y (n := 6 * j + 1) (by rw [show (1 : Int32) = nI 1 from rfl, nI_add]) (by omega) nd_Law_law_956 ?_
    refine lv_aload_n hx hb nd_Law_law_957 rfl (lv_at hl 5 rfl) ?_
    refine lv_iload hx hb nd_Law_law_958 (lv_at hl 1 rfl) ?_
    refine lv_iconst (v := 2) hx hb nd_Law_law_960 (by decide) ?_
    refine lv_iadd hx hb nd_Law_law_961 ?_
    refine ks_ld X Y (n := 6 * j + 2) (by rw [show (2 : Int32) = nI 2 from rfl, nI_add]) (by omega) nd_Law_law_962 ?_
    refine kf_V (As := [.int (xs (6 * j + 1)), .int (xs (6 * j + 2))]) (rest := []) (st1 := [.int (r.1)]) ⟨hx, hb, hml, hown, hts⟩ (mc_M_lost (bm_D (b := bX)) fm (xs (6 * j + 1)) (xs (6 * j + 2)) g r hr) (kb_M_lost hts (hts _ nw_1017) ⟨Nat.le_of_ble_eq_true rfl, Nat.le_of_ble_eq_true rfl⟩) (mr_M hKm hPm) (fun q9 h9 => by unfold lA; have := h9.1; omega) hKm hN hPm hS rfl hl.1 rfl rfl (Nat.le_of_ble_eq_true rfl) ⟨by show _ ≤ room_1.cells; omega, by show _ ≤ room_1.slots; omega⟩ nd_Law_law_963 (fun H locs hPm h5 hS => ?_)
    have hPx := wdG_kept hPx (H1 := H) (fun i hi hlt => h5 _ hlt (fun hb9 => by have := xpi_lt i hi; have h6 : bX + 61 ≤ bX + xpi i := hb9.1; omega))
    have hO := oW_kept hO (H1 := H) (fun q9 g1 g2 => h5 q9 g1 (fun hb9 => by have h6 : q9 < bX + 61 + 21 := hb9.2; omega))
    have Y : LY s Dx Dm cA cB bX (q.2) (r.2) (va_up f 0 (if q.1 = 0 then (0 : Int64) else 1)) H locs := ⟨hPx, hPm, hO, hS⟩
    refine lv_istore (lv' := [(6, .int (r.1)), (5, .int 0), (4, .int (nI (6 * j))), (3, .ref (bX + 82)), (2, .ref (gad (bX + 61) 0)), (1, .ref (xad bX 0)), (0, .ref b)]) hx hb nd_Law_law_966 hl (by decide) rfl (fun ls hl => ?_)
    refine lv_aload_n hx hb nd_Law_law_968 rfl (lv_at hl 4 rfl) ?_
    refine kf_V (As := []) (rest := []) (st1 := [.int (mh_vfault (r.2))]) ⟨hx, hb, hml, hown, hts⟩ (mc_M_thrown (bm_D (b := bX)) (r.2) (mh_vfault (r.2)) rfl) (kb_M_thrown hts (hts _ nw_806) ⟨Nat.le_of_ble_eq_true rfl, Nat.le_of_ble_eq_true rfl⟩) (mr_M hKm hPm) (fun q9 h9 => by unfold lA; have := h9.1; omega) hKm hN hPm hS rfl hl.1 rfl rfl (Nat.le_of_ble_eq_true rfl) ⟨by show _ ≤ room_1.cells; omega, by show _ ≤ room_1.slots; omega⟩ nd_Law_law_969 (fun H locs hPm h5 hS => ?_)
    have hPx := wdG_kept hPx (H1 := H) (fun i hi hlt => h5 _ hlt (fun hb9 => by have := xpi_lt i hi; have h6 : bX + 61 ≤ bX + xpi i := hb9.1; omega))
    have hO := oW_kept hO (H1 := H) (fun q9 g1 g2 => h5 q9 g1 (fun hb9 => by have h6 : q9 < bX + 61 + 21 := hb9.2; omega))
    have Y : LY s Dx Dm cA cB bX (q.2) (r.2) (va_up f 0 (if q.1 = 0 then (0 : Int64) else 1)) H locs := ⟨hPx, hPm, hO, hS⟩
    refine lv_iload hx hb nd_Law_law_972 (lv_at hl 1 rfl) ?_
    refine lv_icmp_eq (tgt := 979) hx hb nd_Law_law_974 rfl (fun _ => ?_) (fun hc => absurd hft hc)
    refine lv_iload hx hb nd_Law_law_979 (lv_at hl 1 rfl) ?_
    refine lv_if_ne (tgt := 1003) hx hb nd_Law_law_981 rfl (fun hc => absurd rfl hc) (fun _ => ?_)
    refine lv_aload_n hx hb nd_Law_law_984 rfl (lv_at hl 3 rfl) ?_
    refine lv_iconst (v := 0) hx hb nd_Law_law_985 (by decide) ?_
    refine va_lald (f := (va_up f 0 (if q.1 = 0 then (0 : Int64) else 1))) hx hb hKx hO 0 2 rfl rfl (i := 0) (show vp_in 0 1 by unfold vp_in; decide) nd_Law_law_986 ?_
    rw [show (va_up f 0 (if q.1 = 0 then (0 : Int64) else 1)) ((0 : Int32).toNatClampNeg) = (if q.1 = 0 then (0 : Int64) else 1) from up_eq]
    refine lv_iload hx hb nd_Law_law_987 (lv_at hl 0 rfl) ?_
    refine lv_if_eq (tgt := 996) hx hb nd_Law_law_989 rfl (fun hc => ?_) (fun hc => ?_)
    · rw [if_pos (heq.mpr hc)]
      refine lv_lconst (v := 0) hx hb nd_Law_law_996 (by decide) ?_
      refine W.lcmp hx hb nd_Law_law_997 ?_
      refine lv_if_eq (tgt := 1003) hx hb nd_Law_law_998 rfl (fun _ => ?_) (fun hc => absurd (lg_self _) hc)
      refine lv_goto hx hb nd_Law_law_1003 (tgt := 1057) rfl ?_
      refine W.widen (k := cells + 1) (n := slots + 6) (by omega) (by omega) ?_
      exact kk H locs ls (q.2) (r.2) (va_up f 0 (if q.1 = 0 then (0 : Int64) else 1)) ⟨hPx, hPm, hO, hS⟩ hRel (lv_sub hl [2, 3, 4, 5, 6] rfl)
    · rw [if_neg (fun h9 => hc (heq.mp h9))]
      refine lv_lconst (v := 1) hx hb nd_Law_law_992 (by decide) ?_
      refine lv_goto hx hb nd_Law_law_993 (tgt := 997) rfl ?_
      refine W.lcmp hx hb nd_Law_law_997 ?_
      refine lv_if_eq (tgt := 1003) hx hb nd_Law_law_998 rfl (fun _ => ?_) (fun hc => absurd (lg_self _) hc)
      refine lv_goto hx hb nd_Law_law_1003 (tgt := 1057) rfl ?_
      refine W.widen (k := cells + 1) (n := slots + 6) (by omega) (by omega) ?_
      exact kk H locs ls (q.2) (r.2) (va_up f 0 (if q.1 = 0 then (0 : Int64) else 1)) ⟨hPx, hPm, hO, hS⟩ hRel (lv_sub hl [2, 3, 4, 5, 6] rfl)
  · refine kl_H (kw_S (hh := [(0, 17, 20, 13)]) (As := [.ref (xad bX 0), .int (xs (6 * j + 1)), .int (xs (6 * j + 2)), .ref (bX + 82)]) (rest := []) ⟨hx, hb, hml, hown, hts⟩ (lt_lost_1 (B := bx bX) hfl fx (xs (6 * j + 1)) (xs (6 * j + 2)) f h hq) rfl rfl (Nat.le_of_ble_eq_true rfl) (Nat.le_of_ble_eq_true rfl) (pay_in hts (wsH_good nw_696)) List.mem_cons_self (hts _ nw_696) (hts _ nw_0) ⟨by decide, by decide⟩ (n := 4) (by decide +kernel) (hts _ nw_694) (hts _ nw_695) ⟨HP_blind, fun U hU hW => ⟨rfl, by rw [hU]; exact hPx, by rw [hU]; exact hO, va_K.moved hW.alike hKx, NW.warm hW hN, TW.kept hW (fun q9 h9 => by rw [hU]; exact hS.2.1 q9 h9 (fun h8 => by unfold lA at h8; omega)) hTW, NC.moved hW.alike hNC⟩⟩ rfl hl.1 rfl (Nat.le_of_ble_eq_true rfl) nd_Law_law_945 ⟨by show _ ≤ room_1.cells; omega, by show _ ≤ room_1.slots; omega⟩) (fun q9 h9 => by unfold lA; exact h9.elim (fun h8 => by have := h8.1; omega) (fun h8 => by omega)) hS (fun H locs hPx hO h5 hS => ?_)
    have hPm := wdG_kept hPm (H1 := H) (fun i hi hlt => h5 _ hlt (fun hb9 => by have e9 : gad (bX + 61) i = bX + 61 + i := rfl; rw [e9] at hb9; exact hb9.elim (fun h8 => by have h6 : bX + 61 + i < bX + 61 := h8.2; omega) (fun h8 => by omega)))
    have Y : LY s Dx Dm cA cB bX (h) g f H locs := ⟨hPx, hPm, hO, hS⟩
    refine lv_istore (lv' := [(5, .int 1), (4, .int (nI (6 * j))), (3, .ref (bX + 82)), (2, .ref (gad (bX + 61) 0)), (1, .ref (xad bX 0)), (0, .ref b)]) hx hb nd_Law_law_948 hl (by decide) rfl (fun ls hl => ?_)
    refine lv_aload_n hx hb nd_Law_law_950 rfl (lv_at hl 3 rfl) ?_
    refine lv_aload_n hx hb nd_Law_law_951 rfl (lv_at hl 5 rfl) ?_
    refine lv_iload hx hb nd_Law_law_952 (lv_at hl 1 rfl) ?_
    refine lv_iconst (v := 1) hx hb nd_Law_law_954 (by decide) ?_
    refine lv_iadd hx hb nd_Law_law_955 ?_
    refine ks_ld X Y (n := 6 * j + 1) (by rw [show (1 : Int32) = nI 1 from rfl, nI_add]) (by omega) nd_Law_law_956 ?_
    refine lv_aload_n hx hb nd_Law_law_957 rfl (lv_at hl 5 rfl) ?_
    refine lv_iload hx hb nd_Law_law_958 (lv_at hl 1 rfl) ?_
    refine lv_iconst (v := 2) hx hb nd_Law_law_960 (by decide) ?_
    refine lv_iadd hx hb nd_Law_law_961 ?_
    refine ks_ld X Y (n := 6 * j + 2) (by rw [show (2 : Int32) = nI 2 from rfl, nI_add]) (by omega) nd_Law_law_962 ?_
    refine kf_V (As := [.int (xs (6 * j + 1)), .int (xs (6 * j + 2))]) (rest := []) (st1 := [.int (r.1)]) ⟨hx, hb, hml, hown, hts⟩ (mc_M_lost (bm_D (b := bX)) fm (xs (6 * j + 1)) (xs (6 * j + 2)) g r hr) (kb_M_lost hts (hts _ nw_1017) ⟨Nat.le_of_ble_eq_true rfl, Nat.le_of_ble_eq_true rfl⟩) (mr_M hKm hPm) (fun q9 h9 => by unfold lA; have := h9.1; omega) hKm hN hPm hS rfl hl.1 rfl rfl (Nat.le_of_ble_eq_true rfl) ⟨by show _ ≤ room_1.cells; omega, by show _ ≤ room_1.slots; omega⟩ nd_Law_law_963 (fun H locs hPm h5 hS => ?_)
    have hPx := wdG_kept hPx (H1 := H) (fun i hi hlt => h5 _ hlt (fun hb9 => by have := xpi_lt i hi; have h6 : bX + 61 ≤ bX + xpi i := hb9.1; omega))
    have hO := oW_kept hO (H1 := H) (fun q9 g1 g2 => h5 q9 g1 (fun hb9 => by have h6 : q9 < bX + 61 + 21 := hb9.2; omega))
    have Y : LY s Dx Dm cA cB bX (h) (r.2) f H locs := ⟨hPx, hPm, hO, hS⟩
    refine lv_istore (lv' := [(6, .int (r.1)), (5, .int 1), (4, .int (nI (6 * j))), (3, .ref (bX + 82)), (2, .ref (gad (bX + 61) 0)), (1, .ref (xad bX 0)), (0, .ref b)]) hx hb nd_Law_law_966 hl (by decide) rfl (fun ls hl => ?_)
    refine lv_aload_n hx hb nd_Law_law_968 rfl (lv_at hl 4 rfl) ?_
    refine kf_V (As := []) (rest := []) (st1 := [.int (mh_vfault (r.2))]) ⟨hx, hb, hml, hown, hts⟩ (mc_M_thrown (bm_D (b := bX)) (r.2) (mh_vfault (r.2)) rfl) (kb_M_thrown hts (hts _ nw_806) ⟨Nat.le_of_ble_eq_true rfl, Nat.le_of_ble_eq_true rfl⟩) (mr_M hKm hPm) (fun q9 h9 => by unfold lA; have := h9.1; omega) hKm hN hPm hS rfl hl.1 rfl rfl (Nat.le_of_ble_eq_true rfl) ⟨by show _ ≤ room_1.cells; omega, by show _ ≤ room_1.slots; omega⟩ nd_Law_law_969 (fun H locs hPm h5 hS => ?_)
    have hPx := wdG_kept hPx (H1 := H) (fun i hi hlt => h5 _ hlt (fun hb9 => by have := xpi_lt i hi; have h6 : bX + 61 ≤ bX + xpi i := hb9.1; omega))
    have hO := oW_kept hO (H1 := H) (fun q9 g1 g2 => h5 q9 g1 (fun hb9 => by have h6 : q9 < bX + 61 + 21 := hb9.2; omega))
    have Y : LY s Dx Dm cA cB bX (h) (r.2) f H locs := ⟨hPx, hPm, hO, hS⟩
    refine lv_iload hx hb nd_Law_law_972 (lv_at hl 1 rfl) ?_
    refine lv_icmp_eq (tgt := 979) hx hb nd_Law_law_974 rfl (fun _ => ?_) (fun hc => absurd hft hc)
    refine lv_iload hx hb nd_Law_law_979 (lv_at hl 1 rfl) ?_
    refine lv_if_ne (tgt := 1003) hx hb nd_Law_law_981 rfl (fun _ => ?_) (fun hc => absurd hc (by decide))
    refine lv_goto hx hb nd_Law_law_1003 (tgt := 1057) rfl ?_
    refine W.widen (k := cells + 1) (n := slots + 6) (by omega) (by omega) ?_
    exact kk H locs ls (h) (r.2) f ⟨hPx, hPm, hO, hS⟩ hRel (lv_sub hl [2, 3, 4, 5, 6] rfl)
set_option maxHeartbeats 4000000 in
set_option maxRecDepth 100000 in
theorem lc_output {p : Program} {l : Launch} {e : Env} {s : State} {m : MethodId} {below : List Frame} {meth : Method} {c : Code} {Q : State → Prop} {b L : Nat} {xs : Nat → Int32} {Dx Dm : va_G} {cA cB : Nat → ClassId} {bX : Nat} (X : LX p l s m c b L xs Dx Dm cA cB bX) {Rel : XH → MH → Prop} (hOK : OK_output Rel) {H : Heap} {locs : List Loc} {cells slots j : Nat} {ls : Array Slot} {h : XH} {g : MH} {f : Nat → Int64} (Y : LY s Dx Dm cA cB bX h g f H locs) (hR : Rel h g) (hj : 6 * j + 6 ≤ L) (hcs : cells + 1 ≤ room_1.cells ∧ slots + 6 ≤ room_1.slots) (hl : lv_has ls 8 [(4, .int (nI (6 * j))), (3, .ref (bX + 82)), (2, .ref (gad (bX + 61) 0)), (1, .ref (xad bX 0)), (0, .ref b)])
    (kk : ∀ (H : Heap) (locs : List Loc) (ls : Array Slot) (h : XH) (g : MH) (f : Nat → Int64), LY s Dx Dm cA cB bX h g f H locs → Rel h g → lv_has ls 8 [(4, .int (nI (6 * j))), (3, .ref (bX + 82)), (2, .ref (gad (bX + 61) 0)), (1, .ref (xad bX 0)), (0, .ref b)] → W p l e room_1 s m #[Value.ref b] below meth c H locs (cells + 1) (slots + 6) Q (F0 m 1057 ls [])) : W p l e room_1 s m #[Value.ref b] below meth c H locs cells slots Q (F0 m 1006 ls []) := by
  have X0 := X
  obtain ⟨hx, hb, hml, hown, hts, hX, hbl, hKx, hKm, hN, hTW, hNC, hfl, hbX, hL⟩ := X0
  obtain ⟨hPx, hPm, hO, hS⟩ := Y
  have Y : LY s Dx Dm cA cB bX h g f H locs := ⟨hPx, hPm, hO, hS⟩
  obtain ⟨fx, fm, r, q, hr, hq, heq, hRel⟩ := hOK h g hR
  refine lv_aload_n hx hb nd_Law_law_1006 rfl (lv_at hl 3 rfl) ?_
  refine kf_V (As := []) (rest := []) (st1 := [.int (q.1)]) ⟨hx, hb, hml, hown, hts⟩ (xc_P_output bx_D h q hq) (kb_P_output hts (hts _ nw_325) ⟨Nat.le_of_ble_eq_true rfl, Nat.le_of_ble_eq_true rfl⟩) (xr_DP hKx hPx) (fun q9 h9 => by unfold lA; have := h9.1; omega) hKx hN hPx hS rfl hl.1 rfl rfl (Nat.le_of_ble_eq_true rfl) ⟨by show _ ≤ room_1.cells; omega, by show _ ≤ room_1.slots; omega⟩ nd_Law_law_1007 (fun H locs hPx h5 hS => ?_)
  have hPm := wdG_kept hPm (H1 := H) (fun i hi hlt => h5 _ hlt (fun hb9 => by have h6 : bX + 61 + i < bX + 61 := hb9.2; omega))
  have hO := oW_kept hO (H1 := H) (fun q9 g1 g2 => h5 q9 g1 (fun hb9 => by have h6 : q9 < bX + 61 := hb9.2; omega))
  have Y : LY s Dx Dm cA cB bX (q.2) g f H locs := ⟨hPx, hPm, hO, hS⟩
  refine lv_aload_n hx hb nd_Law_law_1010 rfl (lv_at hl 2 rfl) ?_
  refine kf_V (As := []) (rest := [.int (q.1)]) (st1 := [.int (r.1), .int (q.1)]) ⟨hx, hb, hml, hown, hts⟩ (mc_M_output (bm_D (b := bX)) fm g r hr) (kb_M_output hts (hts _ nw_1021) ⟨Nat.le_of_ble_eq_true rfl, Nat.le_of_ble_eq_true rfl⟩) (mr_M hKm hPm) (fun q9 h9 => by unfold lA; have := h9.1; omega) hKm hN hPm hS rfl hl.1 rfl rfl (Nat.le_of_ble_eq_true rfl) ⟨by show _ ≤ room_1.cells; omega, by show _ ≤ room_1.slots; omega⟩ nd_Law_law_1011 (fun H locs hPm h5 hS => ?_)
  have hPx := wdG_kept hPx (H1 := H) (fun i hi hlt => h5 _ hlt (fun hb9 => by have := xpi_lt i hi; have h6 : bX + 61 ≤ bX + xpi i := hb9.1; omega))
  have hO := oW_kept hO (H1 := H) (fun q9 g1 g2 => h5 q9 g1 (fun hb9 => by have h6 : q9 < bX + 61 + 21 := hb9.2; omega))
  refine lv_icmp_eq (tgt := 1057) hx hb nd_Law_law_1014 rfl (fun _ => ?_) (fun hc => absurd heq hc)
  refine W.widen (k := cells + 1) (n := slots + 6) (by omega) (by omega) ?_
  exact kk H locs ls (q.2) (r.2) f ⟨hPx, hPm, hO, hS⟩ hRel (lv_sub hl [0, 1, 2, 3, 4] rfl)
set_option maxHeartbeats 4000000 in
set_option maxRecDepth 100000 in
theorem lc_length {p : Program} {l : Launch} {e : Env} {s : State} {m : MethodId} {below : List Frame} {meth : Method} {c : Code} {Q : State → Prop} {b L : Nat} {xs : Nat → Int32} {Dx Dm : va_G} {cA cB : Nat → ClassId} {bX : Nat} (X : LX p l s m c b L xs Dx Dm cA cB bX) {Rel : XH → MH → Prop} (hOK : OK_length Rel) {H : Heap} {locs : List Loc} {cells slots j : Nat} {ls : Array Slot} {h : XH} {g : MH} {f : Nat → Int64} (Y : LY s Dx Dm cA cB bX h g f H locs) (hR : Rel h g) (hj : 6 * j + 6 ≤ L) (hcs : cells + 1 ≤ room_1.cells ∧ slots + 6 ≤ room_1.slots) (hl : lv_has ls 8 [(4, .int (nI (6 * j))), (3, .ref (bX + 82)), (2, .ref (gad (bX + 61) 0)), (1, .ref (xad bX 0)), (0, .ref b)])
    (kk : ∀ (H : Heap) (locs : List Loc) (ls : Array Slot) (h : XH) (g : MH) (f : Nat → Int64), LY s Dx Dm cA cB bX h g f H locs → Rel h g → lv_has ls 8 [(4, .int (nI (6 * j))), (3, .ref (bX + 82)), (2, .ref (gad (bX + 61) 0)), (1, .ref (xad bX 0)), (0, .ref b)] → W p l e room_1 s m #[Value.ref b] below meth c H locs (cells + 1) (slots + 6) Q (F0 m 1057 ls [])) : W p l e room_1 s m #[Value.ref b] below meth c H locs cells slots Q (F0 m 1019 ls []) := by
  have X0 := X
  obtain ⟨hx, hb, hml, hown, hts, hX, hbl, hKx, hKm, hN, hTW, hNC, hfl, hbX, hL⟩ := X0
  obtain ⟨hPx, hPm, hO, hS⟩ := Y
  have Y : LY s Dx Dm cA cB bX h g f H locs := ⟨hPx, hPm, hO, hS⟩
  obtain ⟨fx, fm, r, q, hr, hq, heq, hRel⟩ := hOK h g hR
  refine lv_aload_n hx hb nd_Law_law_1019 rfl (lv_at hl 3 rfl) ?_
  refine kf_V (As := []) (rest := []) (st1 := [.int (q)]) ⟨hx, hb, hml, hown, hts⟩ (xc_P_length (A := bx bX) h q hq) (kb_P_length hts (hts _ nw_339) ⟨Nat.le_of_ble_eq_true rfl, Nat.le_of_ble_eq_true rfl⟩) (xr_DP hKx hPx) (fun q9 h9 => by unfold lA; have := h9.1; omega) hKx hN hPx hS rfl hl.1 rfl rfl (Nat.le_of_ble_eq_true rfl) ⟨by show _ ≤ room_1.cells; omega, by show _ ≤ room_1.slots; omega⟩ nd_Law_law_1020 (fun H locs hPx h5 hS => ?_)
  have hPm := wdG_kept hPm (H1 := H) (fun i hi hlt => h5 _ hlt (fun hb9 => by have h6 : bX + 61 + i < bX + 61 := hb9.2; omega))
  have hO := oW_kept hO (H1 := H) (fun q9 g1 g2 => h5 q9 g1 (fun hb9 => by have h6 : q9 < bX + 61 := hb9.2; omega))
  have Y : LY s Dx Dm cA cB bX (h) g f H locs := ⟨hPx, hPm, hO, hS⟩
  refine lv_aload_n hx hb nd_Law_law_1023 rfl (lv_at hl 2 rfl) ?_
  refine kf_V (As := []) (rest := [.int (q)]) (st1 := [.int (r.1), .int (q)]) ⟨hx, hb, hml, hown, hts⟩ (mc_M_length (bm_D (b := bX)) g r hr) (kb_M_length hts (hts _ nw_1025) ⟨Nat.le_of_ble_eq_true rfl, Nat.le_of_ble_eq_true rfl⟩) (mr_M hKm hPm) (fun q9 h9 => by unfold lA; have := h9.1; omega) hKm hN hPm hS rfl hl.1 rfl rfl (Nat.le_of_ble_eq_true rfl) ⟨by show _ ≤ room_1.cells; omega, by show _ ≤ room_1.slots; omega⟩ nd_Law_law_1024 (fun H locs hPm h5 hS => ?_)
  have hPx := wdG_kept hPx (H1 := H) (fun i hi hlt => h5 _ hlt (fun hb9 => by have := xpi_lt i hi; have h6 : bX + 61 ≤ bX + xpi i := hb9.1; omega))
  have hO := oW_kept hO (H1 := H) (fun q9 g1 g2 => h5 q9 g1 (fun hb9 => by have h6 : q9 < bX + 61 + 21 := hb9.2; omega))
  refine lv_icmp_eq (tgt := 1057) hx hb nd_Law_law_1027 rfl (fun _ => ?_) (fun hc => absurd heq hc)
  refine W.widen (k := cells + 1) (n := slots + 6) (by omega) (by omega) ?_
  exact kk H locs ls (h) (r.2) f ⟨hPx, hPm, hO, hS⟩ hRel (lv_sub hl [0, 1, 2, 3, 4] rfl)
set_option maxHeartbeats 4000000 in
set_option maxRecDepth 100000 in
theorem lc_charAt {p : Program} {l : Launch} {e : Env} {s : State} {m : MethodId} {below : List Frame} {meth : Method} {c : Code} {Q : State → Prop} {b L : Nat} {xs : Nat → Int32} {Dx Dm : va_G} {cA cB : Nat → ClassId} {bX : Nat} (X : LX p l s m c b L xs Dx Dm cA cB bX) {Rel : XH → MH → Prop} (hOK : OK_charAt Rel) {H : Heap} {locs : List Loc} {cells slots j : Nat} {ls : Array Slot} {h : XH} {g : MH} {f : Nat → Int64} (Y : LY s Dx Dm cA cB bX h g f H locs) (hR : Rel h g) (hj : 6 * j + 6 ≤ L) (hcs : cells + 1 ≤ room_1.cells ∧ slots + 6 ≤ room_1.slots) (hl : lv_has ls 8 [(4, .int (nI (6 * j))), (3, .ref (bX + 82)), (2, .ref (gad (bX + 61) 0)), (1, .ref (xad bX 0)), (0, .ref b)])
    (kk : ∀ (H : Heap) (locs : List Loc) (ls : Array Slot) (h : XH) (g : MH) (f : Nat → Int64), LY s Dx Dm cA cB bX h g f H locs → Rel h g → lv_has ls 8 [(4, .int (nI (6 * j))), (3, .ref (bX + 82)), (2, .ref (gad (bX + 61) 0)), (1, .ref (xad bX 0)), (0, .ref b)] → W p l e room_1 s m #[Value.ref b] below meth c H locs (cells + 1) (slots + 6) Q (F0 m 1057 ls [])) : W p l e room_1 s m #[Value.ref b] below meth c H locs cells slots Q (F0 m 1032 ls []) := by
  have X0 := X
  obtain ⟨hx, hb, hml, hown, hts, hX, hbl, hKx, hKm, hN, hTW, hNC, hfl, hbX, hL⟩ := X0
  obtain ⟨hPx, hPm, hO, hS⟩ := Y
  have Y : LY s Dx Dm cA cB bX h g f H locs := ⟨hPx, hPm, hO, hS⟩
  obtain ⟨fx, fm, r, q, hr, hq, heq, hRel⟩ := hOK h g hR ((xs (6 * j + 1)))
  refine lv_aload_n hx hb nd_Law_law_1032 rfl (lv_at hl 3 rfl) ?_
  refine lv_aload_n hx hb nd_Law_law_1033 rfl (lv_at hl 4 rfl) ?_
  refine lv_iload hx hb nd_Law_law_1034 (lv_at hl 0 rfl) ?_
  refine lv_iconst (v := 1) hx hb nd_Law_law_1036 (by decide) ?_
  refine lv_iadd hx hb nd_Law_law_1037 ?_
  refine ks_ld X Y (n := 6 * j + 1) (by rw [show (1 : Int32) = nI 1 from rfl, nI_add]) (by omega) nd_Law_law_1038 ?_
  refine kf_V (As := [.int (xs (6 * j + 1))]) (rest := []) (st1 := [.int (q)]) ⟨hx, hb, hml, hown, hts⟩ (xc_P_charAt (A := bx bX) (xs (6 * j + 1)) h q hq) (kb_P_charAt hts (hts _ nw_343) ⟨Nat.le_of_ble_eq_true rfl, Nat.le_of_ble_eq_true rfl⟩) (xr_DP hKx hPx) (fun q9 h9 => by unfold lA; have := h9.1; omega) hKx hN hPx hS rfl hl.1 rfl rfl (Nat.le_of_ble_eq_true rfl) ⟨by show _ ≤ room_1.cells; omega, by show _ ≤ room_1.slots; omega⟩ nd_Law_law_1039 (fun H locs hPx h5 hS => ?_)
  have hPm := wdG_kept hPm (H1 := H) (fun i hi hlt => h5 _ hlt (fun hb9 => by have h6 : bX + 61 + i < bX + 61 := hb9.2; omega))
  have hO := oW_kept hO (H1 := H) (fun q9 g1 g2 => h5 q9 g1 (fun hb9 => by have h6 : q9 < bX + 61 := hb9.2; omega))
  have Y : LY s Dx Dm cA cB bX (h) g f H locs := ⟨hPx, hPm, hO, hS⟩
  refine lv_aload_n hx hb nd_Law_law_1042 rfl (lv_at hl 2 rfl) ?_
  refine lv_aload_n hx hb nd_Law_law_1043 rfl (lv_at hl 4 rfl) ?_
  refine lv_iload hx hb nd_Law_law_1044 (lv_at hl 0 rfl) ?_
  refine lv_iconst (v := 1) hx hb nd_Law_law_1046 (by decide) ?_
  refine lv_iadd hx hb nd_Law_law_1047 ?_
  refine ks_ld X Y (n := 6 * j + 1) (by rw [show (1 : Int32) = nI 1 from rfl, nI_add]) (by omega) nd_Law_law_1048 ?_
  refine kf_V (As := [.int (xs (6 * j + 1))]) (rest := [.int (q)]) (st1 := [.int (r.1), .int (q)]) ⟨hx, hb, hml, hown, hts⟩ (mc_M_charAt (bm_D (b := bX)) (xs (6 * j + 1)) g r hr) (kb_M_charAt hts (hts _ nw_1029) ⟨Nat.le_of_ble_eq_true rfl, Nat.le_of_ble_eq_true rfl⟩) (mr_M hKm hPm) (fun q9 h9 => by unfold lA; have := h9.1; omega) hKm hN hPm hS rfl hl.1 rfl rfl (Nat.le_of_ble_eq_true rfl) ⟨by show _ ≤ room_1.cells; omega, by show _ ≤ room_1.slots; omega⟩ nd_Law_law_1049 (fun H locs hPm h5 hS => ?_)
  have hPx := wdG_kept hPx (H1 := H) (fun i hi hlt => h5 _ hlt (fun hb9 => by have := xpi_lt i hi; have h6 : bX + 61 ≤ bX + xpi i := hb9.1; omega))
  have hO := oW_kept hO (H1 := H) (fun q9 g1 g2 => h5 q9 g1 (fun hb9 => by have h6 : q9 < bX + 61 + 21 := hb9.2; omega))
  refine lv_icmp_eq (tgt := 1057) hx hb nd_Law_law_1052 rfl (fun _ => ?_) (fun hc => absurd heq hc)
  refine W.widen (k := cells + 1) (n := slots + 6) (by omega) (by omega) ?_
  exact kk H locs ls (h) (r.2) f ⟨hPx, hPm, hO, hS⟩ hRel (lv_sub hl [0, 1, 2, 3, 4] rfl)
