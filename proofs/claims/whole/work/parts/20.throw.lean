/-! methods that throw: nothing old is changed, the thrown object is new and of the class X -/
def rmT (f n : Nat) : Room := { frames := f, cells := 1, slots := 6, locals := n }
def TQ (X : String) : Array Value → State → Outcome → State → Prop := fun _ st o t =>
  ∃ (q : Addr) (ce : Cell), o = .threw q ∧ st.heap.size ≤ q ∧ t.heap[q]? = some ce ∧ ce.vm.isStatics = false ∧ st.vm.findClass X = some ce.cls ∧ st.WarmedH t.vm ∧ st.sameButNew ({ t with vm := st.vm } : State) [] 1 6
def MQT (below : List Frame) (X : String) (a : Array Value) (s : State) : State → Prop := fun t => ∃ o, t.status = .running ∧ Ended t below o ∧ TQ X a s o t
def WT (p : Program) (l : Launch) (e : Env) (R : Room) (s : State) (m : MethodId) (args : Array Value) (below : List Frame) (meth : Method) (c : Code) (H : Heap) (locs : List Loc) (cells slots : Nat) (Q : State → Prop) (x : Addr) (g : JFrame) : Prop :=
  ∀ T : State, T.heap = H → Stand p l e R s m args below meth c T locs cells slots → ∃ t, Steps p.tables e below ((T.setTop g).pushFrame (.throwing x)) t ∧ Q t
def TW1 (C n d : String) (U : State) : Prop := (Cond.laysStatic C n d).before #[] U = true ∧ (Cond.isRef (.static C n d)).before #[] U = true
theorem TW1.kept {C n d : String} {s U : State} (hW : s.WarmedH U.vm) (hk : ∀ q : Nat, q < s.heap.size → U.heap[q]? = s.heap[q]?) (h : TW1 C n d s) : TW1 C n d U := by
  obtain ⟨c, k, i, f, a, cell, hc, hi, hst, ha, hcell, hs, hcls, hlt, hty⟩ := Cond.laysStatic_spec (show (Cond.laysStatic C n d).holds #[] s none s [] = true from h.1)
  obtain ⟨k', hi', hek⟩ := State.fieldFound?_setVm hW.alike hi
  have hiU : U.fieldFound? C n d = some (c, k', i, f) := hi'
  have hcU : U.heap[a]? = some cell := by rw [hk a (Array.getElem?_eq_some_iff.mp hcell).1]; exact hcell
  have haU : k'.statics = some a := by rw [hek]; exact ha
  refine ⟨Cond.laysStatic_of (s := U) (by rw [hW.alike.findClass]; exact hc) hiU hst haU hcU hs hcls hlt (by rw [hek]; exact hty), ?_⟩
  have es : (Term.static C n d).eval #[] s none [] s = cell.slots[f.slot]? := by simp [Term.eval, State.fieldNamed?, hi, hst, ha, hcell, hs]
  have eU : (Term.static C n d).eval #[] U none [] U = cell.slots[f.slot]? := by simp [Term.eval, State.fieldNamed?, hiU, hst, haU, hcU, hs]
  have h2 := h.2
  simp only [Cond.before, Cond.holds, Cond.value, es] at h2
  simp only [Cond.before, Cond.holds, Cond.value, eU]
  exact h2
def TW (U : State) : Prop := TW1 "java/lang/Throwable" "UNASSIGNED_STACK" "[Ljava/lang/StackTraceElement;" U ∧ TW1 "java/lang/Throwable" "SUPPRESSED_SENTINEL" "Ljava/util/List;" U
theorem TW.kept {s U : State} (hW : s.WarmedH U.vm) (hk : ∀ q : Nat, q < s.heap.size → U.heap[q]? = s.heap[q]?) (h : TW s) : TW U := ⟨h.1.kept hW hk, h.2.kept hW hk⟩
theorem TW.same {s U : State} (hv : s.vm = U.vm) (hh : U.heap = s.heap) (h : TW s) : TW U := h.kept (by rw [← hv]; exact State.WarmedH.refl s) (fun q _ => by rw [hh])
def lw_thr : List Cond := [.laysStatic "java/lang/Throwable" "UNASSIGNED_STACK" "[Ljava/lang/StackTraceElement;", .laysStatic "java/lang/Throwable" "SUPPRESSED_SENTINEL" "Ljava/util/List;", .isRef (.static "java/lang/Throwable" "UNASSIGNED_STACK" "[Ljava/lang/StackTraceElement;"), .isRef (.static "java/lang/Throwable" "SUPPRESSED_SENTINEL" "Ljava/util/List;")]
theorem oth_use {s : State} {args : Array Value} (hN : NW s) {w : Cond} (hw : w ∈ lw_oth) : w.before args s = true := by
  have h1 := hN.1 w hw
  have h2 := lw_oth_ok w hw
  cases w <;> first
    | exact va_Nw.use rfl h1
    | (simp [lw_okK] at h2; done)
theorem thr_use {s : State} {args : Array Value} (hT : TW s) {w : Cond} (hw : w ∈ lw_thr) : w.before args s = true := by
  rcases List.mem_cons.mp hw with rfl | hw
  · exact hT.1.1
  rcases List.mem_cons.mp hw with rfl | hw
  · exact hT.2.1
  rcases List.mem_cons.mp hw with rfl | hw
  · exact hT.1.2
  rcases List.mem_cons.mp hw with rfl | hw
  · exact hT.2.2
  cases hw
abbrev thN : List String := ["java/lang/RuntimeException", "java/lang/Exception"]
def OWA (ic : Nat) (X : String) : Prop := ∀ w ∈ Bundle.ownAtoms "DrawnPaths" ic X thN, w ∈ lw_wd ∨ w ∈ lw_oth ∨ w ∈ lw_thr
def CtPT (D : va_G) (cl : List vw_C) (tys : List (ClassId × FieldType)) (av : List Value) (pre : va_W) : Array Value → State → Prop := va_Pc av (fun U => va_P D cl pre U.heap ∧ va_K D cl tys U ∧ NW U ∧ TW U)
def CTT (l : Launch) (D : va_G) (cl : List vw_C) (tys : List (ClassId × FieldType)) (y : MethodName) (ws : List Cond) (rm : Room) (av : List Value) (pre : va_W) (X : String) : Prop :=
  MetFree l y (headSpec ws rm) (CtPT D cl tys av pre) (fun _ _ _ _ _ => True) (TQ X)
theorem CtPT_blind {D : va_G} {cl : List vw_C} {tys : List (ClassId × FieldType)} {av : List Value} {pre : va_W} : FrameBlind (CtPT D cl tys av pre) := by
  intro a U g mk q
  exact ⟨q.1, q.2.1, va_K.moved (u := U) (U := U.calling g mk a) (Vm.Alike.refl U.vm) q.2.2.1, NW.same (u := U) (U := U.calling g mk a) rfl q.2.2.2.1, TW.same (s := U) (U := U.calling g mk a) rfl rfl q.2.2.2.2⟩
/-- old cells are the very same where no place of an old cell is named -/
theorem same_old {s t : State} {k n : Nat} (h : s.sameButNew ({ t with vm := s.vm } : State) [] k n) (q : Nat) (hq : q < s.heap.size) : t.heap[q]? = s.heap[q]? := by
  obtain ⟨-, -, -, -, -, h6⟩ := h
  have hc : s.heap[q]? = some s.heap[q] := Array.getElem?_eq_getElem hq
  obtain ⟨c', h7, h8, h9, h10⟩ := h6 q _ hc
  have e : c'.slots = s.heap[q].slots := by
    apply Array.ext_getElem?
    intro i
    exact h10 i (by simp)
  rw [hc]
  show t.heap[q]? = _
  have h7' : t.heap[q]? = some c' := h7
  rw [h7', h8, e]
theorem same_size {s t : State} {k n : Nat} {L : List Loc} (h : s.sameButNew ({ t with vm := s.vm } : State) L k n) : s.heap.size ≤ t.heap.size := h.2.1
theorem ofWT {l : Launch} {y : MethodName} {ws ws' : List Cond} {rm : Room} {Pc : Array Value → State → Prop} {X : String} {cc : ByteArray} {maxL : Nat} {ret : Option FieldType}
    (hy : plainName y.cls = true) (hw : ws = Cond.code y cc maxL ret :: ws')
    (body : ∀ p e s m args below meth c s₁, BodyLoose p l y (headSpec ws rm) cc maxL ret e s m args below meth c s₁ → c.maxLocals = maxL → Pc args s → c.exceptionTable.toList = [] →
      W p l e (headSpec ws rm).room s m args below meth c s.heap [] 0 0 (MQT below X args s) (entryFrame m args maxL)) : MetFree l y (headSpec ws rm) Pc (fun _ _ _ _ _ => True) (TQ X) := by
  refine MetFree.of_bodyS (code := cc) (maxLocals := maxL) (ret := ret) hy (fun args s m h hn => ?_) (fun p e s m args below meth c s₁ B hml hP _ => ?_)
  · obtain ⟨meth, c, h1, h2, h3, h4, h5, h6, -, -⟩ := Cond.code_spec hn (atoms_spec (ws := ws) h _ (by rw [hw]; exact List.mem_cons_self))
    exact ⟨meth, c, h1, h2, h3, h4, h5, h6⟩
  · have X0 := Stand.of_body B
    have hemp : c.exceptionTable.toList = [] := by
      obtain ⟨meth', c', h1, h2, -, -, -, -, h7, -⟩ := Cond.code_spec B.named (atoms_spec (ws := ws) B.pre _ (by rw [hw]; exact List.mem_cons_self))
      cases B.method.symm.trans h1
      cases X0.code.symm.trans h2
      have h0 : c.exceptionTable.size = 0 := by simpa [Array.isEmpty] using h7
      exact List.eq_nil_of_length_eq_zero (by simpa using h0)
    obtain ⟨t, a1, o, b1, b2, b3⟩ := body p e s m args below meth c s₁ B hml hP hemp s₁ (by rw [B.state]; rfl) X0
    exact ⟨t, o, a1, b1, b2, b3⟩
section KT
variable {p : Program} {l : Launch} {e : Env} {R : Room} {s : State} {m : MethodId} {args : Array Value} {below : List Frame} {meth : Method} {c : Code} {H : Heap} {locs : List Loc} {cells slots : Nat} {Q : State → Prop}
variable {D : va_G} {cl : List vw_C} {tys : List (ClassId × FieldType)} {A : Nat → Prop} {pre post : va_W} {v : Option Value} {H0 : Heap} {pc : Nat} {ls : Array Slot} {st0 st1 rest As : List Value}
variable {y : MethodName} {bytes cc : ByteArray} {maxL nL n index : Nat} {ret : Option FieldType} {ws : List Cond} {rm : Room} {Ts : List Cond} {own C host X : String} {b : Addr}
/-- new X("..") is made and thrown -/
theorem kt_throw {ic ix ik : Nat} {tx : String} (hfl : l.flags = flags0) (hx : p.tables.exec = Jvm.exec) (hb : c.code = cc) (hml : c.maxLocals = nL) (hz : ls.size = nL) (hown : s.vm.findClass "DrawnPaths" = some m.cls) (hts : ∀ w ∈ lw_wd, w.before args s = true) (hN : NW s) (hT : TW s) (hlocks : meth.locks = false) (hemp : c.exceptionTable.toList = [])
    (hX : Bundle.fit X = true) (hO : OWA ic X) (hcl : (Cond.classLink "DrawnPaths" ix X).before args s = true) (hin : (Cond.instantiable X 6).before args s = true) (hini : (Cond.initialized X).before args s = true) (hS : (ik, tx) ∈ lw_strs)
    (hR : 6 ≤ R.frames ∧ 100 ≤ R.locals ∧ 1 ≤ R.cells ∧ 6 ≤ R.slots) (hro : (rest.map fun v => v.category).sum ≤ 8)
    (d0 : decode cc pc = .ok (.new ix, 3)) (d1 : decode cc (pc + 3) = .ok (.dup, 1)) (d2 : decode cc (pc + 3 + 1) = .ok (.ldc ik, 2)) (d3 : decode cc (pc + 3 + 1 + 2) = .ok (.invokespecial ic, 3)) (d4 : decode cc (pc + 3 + 1 + 2 + 3) = .ok (.athrow, 1)) :
    W p l e R s m args below meth c s.heap [] 0 0 (MQT below X args s) (F0 m pc ls rest) := by
  obtain ⟨cC, kC0, hfc, hkC0, -⟩ := Cond.instantiable_spec hin
  refine W.newcK hx hb hown hcl hin hini rfl d0 (by omega) (by omega) hfc rfl (fun H' kC h1 h2 h3 h4 => ?_)
  refine W.eq (g2 := F0 m (pc + 3) ls (.ref s.heap.size :: rest)) rfl ?_
  refine lv_dup hx hb d1 rfl ?_
  obtain ⟨a, ha⟩ := hN.2 (ik, tx) hS
  refine va_ldcS hx hb hown ha d2 ?_
  intro T hT2 X2
  have htr : e.platform.stackTraces = false := Launch.traces_off hfl X2.admits
  have hall : ∀ w ∈ Bundle.ownAtoms "DrawnPaths" ic X thN, w.before args s = true := fun w hw => by
    rcases hO w hw with h | h | h
    · exact hts w h
    · exact oth_use hN h
    · exact thr_use hT h
  obtain ⟨U, st, hrun, hend, hW, hsame, ce, hce, hown2⟩ := X2.ctorThrowS hx htr hown hX (by decide) hall (fun x hx => absurd hx List.not_mem_nil) hfc h1 (a := s.heap.size) (by rw [hT2]; exact h2) (Nat.le_refl _) (msg := .ref a) rfl (g := F0 m (pc + 3 + 1 + 2) ls (.ref a :: .ref s.heap.size :: .ref s.heap.size :: rest)) rfl (by rw [hml]; exact hz) rfl rfl (rest := rest) rfl (by rw [hb]; exact d3) (by rw [hb]; exact d4) (fun x hx => by rw [hemp] at hx; cases hx) (by show 2 + 3 < _; omega) (by rw [List.map_cons, List.sum_cons]; show 2 * 0 + (1 + _) + (13 * (2 + 1) + 42) ≤ _; omega)
  exact ⟨U, st, .threw s.heap.size, hrun, hend, s.heap.size, ce, rfl, Nat.le_refl _, hce, by rw [hown2.vm]; rfl, hown2.cls, hW, hsame⟩
/-- the callee throws: the frame with the note over it -/
theorem kt_go {mk : MethodId} {T : State} {g : JFrame} {ig : Instr} {a : Array Value} {Pc : Array Value → State → Prop} (X1 : Stand p l e R s m args below meth c T locs cells slots) (hM : MetFree l y (headSpec ws rm) Pc (fun _ _ _ _ _ => True) (TQ X)) (hblind : FrameBlind Pc)
    (hrc : rm.cells = 1) (hrs : rm.slots = 6) (hframes : rm.frames + 1 ≤ R.frames) (hlocals : 8 + (maxL + 11) + rm.locals ≤ R.locals) (hws : ∀ w ∈ ws, ∀ (a' : Array Value) (U : State), s.WarmedH U.vm → w.before a' U = true) (hcode : Cond.code y bytes maxL ret ∈ ws) (hinit : ∀ (a' : Array Value) (U : State), s.WarmedH U.vm → (Cond.initialized y.cls).before a' U = true)
    (hg : g.method = m) (hsize : g.locals.size = c.maxLocals) (hdg : decode c.code g.pc = .ok (ig, 3)) (hW : 2 * g.monitorRoom + (g.stack.map fun v => v.category).sum ≤ 8) (hn : T.methodNamed? y = some mk) (hp : Pc a T) (hf : cells + 1 ≤ R.cells ∧ slots + 6 ≤ R.slots) :
    ∃ (x : Addr) (ce : Cell) (T' : State), Stand p l e R s m args below meth c T' locs (cells + 1) (slots + 6) ∧ T.heap.size ≤ x ∧ T'.heap[x]? = some ce ∧ ce.vm.isStatics = false ∧ T.vm.findClass X = some ce.cls ∧ (∀ q, q < T.heap.size → T'.heap[q]? = T.heap[q]?) ∧ T.heap.size ≤ T'.heap.size ∧
      Steps p.tables e below (doInvoke e (T.setTop g) [] mk a).1 ((T'.setTop g).pushFrame (.throwing x)) := by
  have h2 : (Cond.code y bytes maxL ret).before a T = true := hws _ hcode _ _ X1.warmed
  obtain ⟨methY, cY, hmY, hcY, -, hlY, -⟩ := Cond.code_spec hn h2
  obtain ⟨kY, hkY, -⟩ := className_of_methodNamed hn
  have hinitY : kY.init = .initialized := Cond.initialized_spec (findClass_of_methodNamed hn) hkY (hinit a T X1.warmed)
  have h : At T g.method c below := by rw [hg]; exact X1.here
  have happ : (headSpec ws rm).appliesLoose y e.platform (T.calling g mk a) = true :=
    Spec.appliesLoose_calling (g := g) h hdg hn hkY hinitY
      (X1.room_calling (g := g) (R' := rm) hsize hmY hcY hframes (by rw [hlY]; omega) (by rw [hrc]; exact hf.1) (by rw [hrs]; exact hf.2)) (atoms_intro fun w hw => hws w hw _ _ X1.warmed)
  obtain ⟨mid, hmid⟩ := h.above
  have hfr : (T.setTop g).frames = (.java g :: mid) ++ below := by rw [State.frames_setTop' g h.top, hmid]; rfl
  obtain ⟨o, s₂, hsteps, -, hend, hq⟩ := Steps.callFree hM p X1.admits X1.cas X1.clock (acts := []) hfr happ (hblind _ _ _ _ hp) trivial
  have hq' : TQ X a (T.calling g mk a) o s₂ := hq
  obtain ⟨x, ce, rfl, q1, q2, q3, q4, q5, q6⟩ := hq'
  have hend' : Ended s₂ (.java g :: below) (.threw x) := by
    rw [State.frames_setTop' g h.top, X1.tail] at hend
    exact hend
  obtain ⟨T', X', hW', hB, ht⟩ := X1.outOfThrown hg hend' q5 q6
  have hh : T'.heap = s₂.heap := by rw [ht, Stand.throwing_heap]
  refine ⟨x, ce, T', by simpa using X', q1, by rw [hh]; exact q2, q3, q4, fun q hq => same_old (t := T') hB q hq, same_size (t := T') hB, ?_⟩
  rw [← ht]
  exact hsteps
theorem kt_S {Pc : Array Value → State → Prop} (S : CallFix p m c cc nL s args Ts own) (hM : MetFree l y (headSpec ws rm) Pc (fun _ _ _ _ _ => True) (TQ X)) (hblind : FrameBlind Pc) (cw : CallB R s args own index y bytes maxL ret ws rm 1 6 n ∧ (Cond.static y).before args s = true)
    (hp : ∀ U : State, U.heap = H → s.WarmedH U.vm → Pc As.toArray U) (hn : As.length = n) (hz : ls.size = nL) (h0 : st0 = As.reverse ++ rest) (hro : (rest.map fun v => v.category).sum ≤ 8) (hf : cells + 1 ≤ R.cells ∧ slots + 6 ≤ R.slots) (hdg : decode cc pc = .ok (.invokestatic index, 3))
    (kk : ∀ (x : Addr) (ce : Cell) (H1 : Heap), H.size ≤ x → H1[x]? = some ce → ce.vm.isStatics = false → s.vm.findClass X = some ce.cls → (∀ q, q < H.size → H1[q]? = H[q]?) → H.size ≤ H1.size → WT p l e R s m args below meth c H1 locs (cells + 1) (slots + 6) Q x (F0 m pc ls rest)) : W p l e R s m args below meth c H locs cells slots Q (F0 m pc ls st0) := by
  obtain ⟨⟨hrc, hrs, hfr, hlo, hws, hcw, hcode, hini, hy, hlen, hl⟩, hstt⟩ := cw
  obtain ⟨hx, hb, hml, ho, -⟩ := S
  intro T hT X1
  obtain ⟨mk, hnamed⟩ := Cond.code_named hcode
  obtain ⟨methM, cM, hmethM, -, -, -, -, -, -, hsigM⟩ := Cond.code_spec hnamed hcode
  have hstatic : methM.isStatic = true := Cond.static_spec hnamed hmethM hstt
  obtain ⟨kP, hkP, -⟩ := className_of_methodNamed hnamed
  have hinitP : kP.init = .initialized := Cond.initialized_spec (findClass_of_methodNamed hnamed) hkP hini
  obtain ⟨vm₁, X₁, hstep₁⟩ := X1.invokestatic hx ho hl hnamed hmethM hstatic hkP hinitP hy (g := F0 m pc ls st0) rfl (argsL := As) (rest := rest) (hn.trans (hlen _ hsigM)) h0 (by rw [hb]; exact hdg)
  have hinitW : ∀ (a' : Array Value) (U : State), s.WarmedH U.vm → (Cond.initialized y.cls).before a' U = true := fun a' U hW => word_at hW (Or.inl (by first | rfl | simp [Cond.onTables, Cond.keeps, Cond.steady])) hini
  obtain ⟨x, ce, T', X', q1, q2, q3, q4, q5, q6, st⟩ := kt_go X₁ hM hblind hrc hrs hfr hlo hws hcw hinitW (g := F0 m pc ls rest) (ig := .invokestatic index) (a := As.toArray) rfl (hz.trans hml.symm) (by rw [hb]; exact hdg) (lv_room hro) (X₁.named hnamed) (hp _ hT X₁.warmed) hf
  have hTs : (T.setVm vm₁).heap = H := hT
  rw [hTs] at q1 q5 q6
  obtain ⟨t, a1, b1⟩ := kk x ce T'.heap q1 q2 q3 (by rw [← X₁.warmed.alike.findClass]; exact q4) q5 q6 T' rfl X'
  exact ⟨t, hstep₁ _ fun acts => by rw [doInvoke_state]; exact st.trans a1, b1⟩
theorem kt_V {Pc : Array Value → State → Prop} (S : CallFix p m c cc nL s args Ts own) (hM : MetFree l y (headSpec ws rm) Pc (fun _ _ _ _ _ => True) (TQ X)) (hblind : FrameBlind Pc) (cw : CallW R s args own C index y bytes maxL ret ws rm 1 6 n)
    (hv : ∃ cell : Cell, H[b]? = some cell ∧ cell.vm.isStatics = false ∧ s.vm.findClass C = some cell.cls)
    (hp : ∀ U : State, U.heap = H → s.WarmedH U.vm → Pc (Value.ref b :: As).toArray U) (hn : As.length = n) (hz : ls.size = nL) (h0 : st0 = As.reverse ++ .ref b :: rest) (hro : (rest.map fun v => v.category).sum ≤ 8) (hf : cells + 1 ≤ R.cells ∧ slots + 6 ≤ R.slots) (hdg : decode cc pc = .ok (.invokevirtual index, 3))
    (kk : ∀ (x : Addr) (ce : Cell) (H1 : Heap), H.size ≤ x → H1[x]? = some ce → ce.vm.isStatics = false → s.vm.findClass X = some ce.cls → (∀ q, q < H.size → H1[q]? = H[q]?) → H.size ≤ H1.size → WT p l e R s m args below meth c H1 locs (cells + 1) (slots + 6) Q x (F0 m pc ls rest)) : W p l e R s m args below meth c H locs cells slots Q (F0 m pc ls st0) := by
  obtain ⟨⟨hrc, hrs, hfr, hlo, hws, hcw, hcode, hini, hy, hlen, hl⟩, hinst, hsel⟩ := cw
  obtain ⟨hx, hb, hml, ho, -⟩ := S
  obtain ⟨cellB, hcB, hoB, hclB⟩ := hv
  intro T hT X1
  obtain ⟨mk, methM, hnamed, hmethM, hstM, habM⟩ := Cond.instanceMethod_spec hinst
  obtain ⟨methM', cM, hmethM', -, -, -, -, -, -, hsigM⟩ := Cond.code_spec hnamed hcode
  cases hmethM.symm.trans hmethM'
  obtain ⟨c2, r2, m2, q1, q2, q3, q4, kP, hkP, hkPi⟩ := Cond.selects_spec hsel
  cases hclB.symm.trans q1
  cases (State.methodFound?_of_named hnamed hy).symm.trans q2
  cases hnamed.symm.trans q3
  have hselP : selectMethod e.platform s.vm cellB.cls mk = .method mk := by rw [Launch.admits_selectMethod X1.admits]; exact q4
  obtain ⟨vm₁, X₁, hstep₁⟩ := X1.invokevirtual hx ho hl hnamed hmethM hstM hkP hkPi hy (a := b) (cell := cellB) (by rw [hT]; exact hcB)
    (fun z h => by rw [h] at hoB; cases hoB) hselP hmethM habM hkP hkPi (g := F0 m pc ls st0) rfl (argsL := As) (rest := rest) (hn.trans (hlen _ hsigM)) h0 (by rw [hb]; exact hdg)
  have hinitW : ∀ (a' : Array Value) (U : State), s.WarmedH U.vm → (Cond.initialized y.cls).before a' U = true := fun a' U hW => word_at hW (Or.inl (by first | rfl | simp [Cond.onTables, Cond.keeps, Cond.steady])) hini
  obtain ⟨x, ce, T', X', q1, q2, q3, q4, q5, q6, st⟩ := kt_go X₁ hM hblind hrc hrs hfr hlo hws hcw hinitW (g := F0 m pc ls rest) (ig := .invokevirtual index) (a := (Value.ref b :: As).toArray) rfl (hz.trans hml.symm) (by rw [hb]; exact hdg) (lv_room hro) (X₁.named hnamed) (hp _ hT X₁.warmed) hf
  have hTs : (T.setVm vm₁).heap = H := hT
  rw [hTs] at q1 q5 q6
  obtain ⟨t, a1, b1⟩ := kk x ce T'.heap q1 q2 q3 (by rw [← X₁.warmed.alike.findClass]; exact q4) q5 q6 T' rfl X'
  exact ⟨t, hstep₁ _ fun acts => by rw [doInvoke_state]; exact st.trans a1, b1⟩
/-- a call that changes nothing -/
theorem kp_go {a : Array Value} (hr : va_Run p l e R s m args below meth c s.heap [] 0 0 0 0 (F0 m pc ls st0) rest (RetQ D cl tys (fun _ => False) v post a) (fun _ => False)) (h1 : v.toList ++ rest = st1)
    (kk : W p l e R s m args below meth c s.heap [] 0 0 Q (F0 m (pc + 3) ls st1)) : W p l e R s m args below meth c s.heap [] 0 0 Q (F0 m pc ls st0) := by
  intro T hT X1
  obtain ⟨w, st₀, t, T', L, h0, X', hL, e1, e2, ⟨hv, hP1, hK1, hz, hk⟩, st⟩ := hr T hT X1
  cases hv
  subst h1
  have hL0 : L = [] := List.eq_nil_iff_forall_not_mem.mpr fun q hq => hL q hq
  subst hL0
  rw [h0] at hz hk
  have hsz : T'.heap.size ≤ s.heap.size + 0 := X'.heapSize
  have hh : T'.heap = s.heap := by
    apply Array.ext_getElem?
    intro q
    by_cases hq : q < s.heap.size
    · rw [e1, hk q hq (fun h => h)]
    · rw [Array.getElem?_eq_none (by omega), Array.getElem?_eq_none (by omega)]
  obtain ⟨t2, a1, b1⟩ := kk T' hh X'
  exact ⟨t2, st t2 a1, b1⟩
theorem kp_S (S : CallFix p m c cc nL s args Ts own) (hM : CT l D cl tys (fun _ => False) y ws rm As pre post v) (cw : CallB R s args own index y bytes maxL ret ws rm 0 0 n ∧ (Cond.static y).before args s = true)
    (hK : va_K D cl tys s) (hN : NW s) (hP : va_P D cl pre s.heap) (hn : As.length = n) (hz : ls.size = nL) (h0 : st0 = As.reverse ++ rest) (h1 : v.toList ++ rest = st1) (hro : (rest.map fun v => v.category).sum ≤ 8) (hdg : decode cc pc = .ok (.invokestatic index, 3))
    (kk : W p l e R s m args below meth c s.heap [] 0 0 Q (F0 m (pc + 3) ls st1)) : W p l e R s m args below meth c s.heap [] 0 0 Q (F0 m pc ls st0) :=
  kp_go (va_runS S hM cw ⟨CtP_blind, fun U hU hW => ⟨rfl, by rw [hU]; exact hP, va_K.moved hW.alike hK, NW.warm hW hN⟩⟩ rfl hn hz h0 (lv_room hro) hdg ⟨Nat.zero_le _, Nat.zero_le _⟩) h1 kk
theorem kp_V (S : CallFix p m c cc nL s args Ts own) (hM : CT l D cl tys (fun _ => False) y ws rm (.ref b :: As) pre post v) (cw : CallW R s args own C index y bytes maxL ret ws rm 0 0 n)
    (hv : ∃ cell : Cell, s.heap[b]? = some cell ∧ cell.vm.isStatics = false ∧ s.vm.findClass C = some cell.cls)
    (hK : va_K D cl tys s) (hN : NW s) (hP : va_P D cl pre s.heap) (hn : As.length = n) (hz : ls.size = nL) (h0 : st0 = As.reverse ++ .ref b :: rest) (h1 : v.toList ++ rest = st1) (hro : (rest.map fun v => v.category).sum ≤ 8) (hdg : decode cc pc = .ok (.invokevirtual index, 3))
    (kk : W p l e R s m args below meth c s.heap [] 0 0 Q (F0 m (pc + 3) ls st1)) : W p l e R s m args below meth c s.heap [] 0 0 Q (F0 m pc ls st0) :=
  kp_go (va_runV S hM cw ⟨CtP_blind, hv, fun U hU hW => ⟨rfl, by rw [hU]; exact hP, va_K.moved hW.alike hK, NW.warm hW hN⟩⟩ rfl hn hz h0 (lv_room hro) hdg ⟨Nat.zero_le _, Nat.zero_le _⟩) h1 kk
/-- not caught here: the method throws -/
theorem kt_leave {x : Addr} {ce : Cell} {st : List Value} (hlocks : meth.locks = false) (hemp : c.exceptionTable.toList = []) (h1 : s.heap.size ≤ x) (h2 : H[x]? = some ce) (h3 : ce.vm.isStatics = false) (h4 : s.vm.findClass X = some ce.cls) : WT p l e R s m args below meth c H [] (0 + 1) (0 + 6) (MQT below X args s) x (F0 m pc ls st) := by
  intro T hT X1
  obtain ⟨st, hrun, hend, hW, hsame⟩ := X1.leaveThrown x (g := F0 m pc ls st) rfl rfl rfl (fun z hz => by rw [hemp] at hz; cases hz) hlocks
  exact ⟨_, st, .threw x, hrun, hend, x, ce, rfl, h1, by show T.heap[x]? = _; rw [hT]; exact h2, h3, h4, hW, hsame⟩
end KT
def exN (q : Nat) : String := match q with
  | 1 => "java/lang/IndexOutOfBoundsException"
  | 2 => "java/lang/IllegalArgumentException"
  | _ => "java/lang/IllegalStateException"
theorem ow_1 : OWA 163 "java/lang/IndexOutOfBoundsException" := by unfold OWA; decide +kernel
theorem ow_2 : OWA 65 "java/lang/IllegalArgumentException" := by unfold OWA; decide +kernel
theorem ow_3 : OWA 102 "java/lang/IllegalStateException" := by unfold OWA; decide +kernel
