/-! an exception is caught; its catch type may be resolved here for the first time -/
section KTC
variable {p : Program} {l : Launch} {e : Env} {R : Room} {s : State} {m : MethodId} {args : Array Value} {below : List Frame} {meth : Method} {c : Code} {H : Heap} {locs : List Loc} {cells slots : Nat} {Q : State → Prop} {pc : Nat} {ls : Array Slot} {st : List Value}
theorem cf_go {e : Env} {s : State} {f : JFrame} {a : Addr} {d : Bool} {acts : List Action} {Q : Handler → Pre} {E : CtlPost} {x : ExceptionTableEntry} {t : List ExceptionTableEntry} {c : ClassId} {vm' : Vm} (hx : covers x f.pc = true) (h0 : x.catchType ≠ 0)
    (hg : (Jvm.resolveClass f.method.cls x.catchType).Gives e.toSetting s.vm (.ok c) vm') (hr : vm'.classReady f.method.cls x.catchType c) (hsz : vm'.classes.size ≤ s.vm.classes.size) :
    wp (findHandler.go f a (x :: t)) Q E e d acts s ↔ wp (findHandler.go f a (x :: t)) Q E e d acts (s.setVm vm') := by
  simp only [covers] at hx
  obtain ⟨ha, ht⟩ := hg.op (op := VmOp.resolveClass f.method.cls x.catchType) rfl
  obtain ⟨k, hkd, hres⟩ := hr
  have hm := resolveClass_memo e hkd hres
  simp [findHandler.go, hx, h0, ha, ht, hsz, hm, VmOp.dirties, VmOp.acts]
  exact Iff.rfl
theorem cf_step {e : Env} {s : State} {a : Addr} {f : JFrame} {r : List Frame} {pc : Nat} {vm' : Vm} (hfind : ∀ (Q : Handler → Pre) (E : CtlPost) (d : Bool) (acts : List Action), wp (findHandler f a) Q E e d acts s ↔ Q (.found pc) d acts (s.setVm vm')) :
    (stepThrowing e s a (.java f :: r)).Is ((s.setVm vm').setFrames (.java { f with pc := pc, stack := [.ref a] } :: r)) [] := by
  simp only [stepThrowing, searchFrame, vmDo]
  generalize hr : Sem.go _ e false [] s = res
  obtain ⟨as, rfl, ha⟩ := Sem.eq_ok_of hr (a := Handler.found pc) (s' := s.setVm vm') (acts' := []) (by simp [hfind _ _ _ _])
  exact ⟨rfl, ha⟩
theorem cf_caught {tb : Tables} {e : Env} {s target : State} {g : JFrame} {c : Code} {below : List Frame} {a : Addr} {vm' : Vm} (h : At s g.method c below) {pc : Nat} (hfind : ∀ (Q : Handler → Pre) (E : CtlPost) (d : Bool) (acts : List Action), wp (findHandler g a) Q E e d acts ((s.setTop g).pushFrame (.throwing a)) ↔ Q (.found pc) d acts (((s.setTop g).pushFrame (.throwing a)).setVm vm'))
    (hrest : Steps tb e below ((s.setVm vm').setTop { g with pc := pc, stack := [.ref a] }) target) :
    Steps tb e below ((s.setTop g).pushFrame (.throwing a)) target := by
  obtain ⟨hgo, hw⟩ := h.throwing a
  refine Steps.head hgo hw ?_
  rw [stepThread_throwing (frames_entered h.top _), (cf_step (s := (s.setTop g).pushFrame (.throwing a)) hfind).1]
  obtain ⟨g₀, hg⟩ := Option.isSome_iff_exists.mp h.top
  obtain ⟨r, hr⟩ := State.topJava?_eq_some.mp hg
  have hr' : (s.setVm vm').frames = .java g₀ :: r := hr
  rw [State.setTop_of_frames _ hr'] at hrest
  have e1 : (((s.setTop g).pushFrame (.throwing a)).setVm vm').setFrames (.java { g with pc := pc, stack := [.ref a] } :: s.frames.tail) = (s.setVm vm').setFrames (.java { g with pc := pc, stack := [.ref a] } :: r) := by
    rw [State.pushFrame, State.setTop_of_frames _ hr, hr]
    show (((s.setFrames _).setFrames _).setVm vm').setFrames _ = _
    rw [State.setFrames_setFrames]
    show ((s.setFrames _).setFrames _).setVm vm' = _
    rw [State.setFrames_setFrames]
    rfl
  rw [e1]
  exact hrest
/-- the first entry of the table takes it -/
theorem kt_catch1 {own X : String} {i hp : Nat} {x : ExceptionTableEntry} {rs : List ExceptionTableEntry} {q : Addr} {ce : Cell} (hown : s.vm.findClass own = some m.cls) (hlink : (Cond.classLink own i X).before args s = true) (htab : c.exceptionTable.toList = x :: rs) (hcov : covers x pc = true) (hct : x.catchType = i) (hi : i ≠ 0) (hhp : x.handlerPc = hp)
    (hcell : H[q]? = some ce) (hst : ce.vm.isStatics = false) (hcls : s.vm.findClass X = some ce.cls) (kk : W p l e R s m args below meth c H locs cells slots Q (F0 m hp ls [.ref q])) : WT p l e R s m args below meth c H locs cells slots Q q (F0 m pc ls st) := by
  intro T hT X1
  subst hct
  subst hhp
  have hpl : e.platform.magicAccessors = ({} : Platform).magicAccessors := by rw [X1.admits.platform]
  obtain ⟨c', hc', hcl⟩ := Cond.classLink_spec hown hlink e.platform hpl
  cases hcls.symm.trans hc'
  obtain ⟨dk, _, _, kt, hd, _, _, _, _, hkt, _, hopen⟩ := hcl.here
  have hcl₀ := X1.warmed.classLinks hcl
  have hW' : s.WarmedH (T.vm.noted m.cls x.catchType (.cls ce.cls)) := X1.warmed.noted hd hopen (State.rightAt_cls hcl)
  obtain ⟨kt', hkt', -⟩ := hW'.alike.2.2 _ _ hkt
  obtain ⟨t, a1, b1⟩ := kk (T.setVm (T.vm.noted m.cls x.catchType (.cls ce.cls))) hT (X1.noted hW')
  refine ⟨t, cf_caught (g := F0 m pc ls st) (vm' := T.vm.noted m.cls x.catchType (.cls ce.cls)) X1.here (pc := x.handlerPc) (fun Q E d acts => ?_) a1, b1⟩
  have hm : ((T.setTop (F0 m pc ls st)).pushFrame (.throwing q)).vm.method? (F0 m pc ls st).method = some meth := by rw [Stand.throwing_vm]; exact X1.method'
  rw [W.findHandler_eq hm X1.code, htab]
  rw [cf_go (f := F0 m pc ls st) (vm' := T.vm.noted m.cls x.catchType (.cls ce.cls)) (c := ce.cls) hcov hi (by rw [Stand.throwing_vm]; exact resolveClass_links e.toSetting hcl₀) hcl₀.ready (by rw [Stand.throwing_vm]; simp)]
  rw [W.findHandler_go_class (c := ce.cls) (cell := ce) hcov hi hcl₀.ready (by show ((T.setTop (F0 m pc ls st)).pushFrame (.throwing q)).heap[q]? = _; rw [Stand.throwing_heap, hT]; exact hcell) (fun k h => by rw [h] at hst; cases hst) ⟨kt', hkt'⟩ ⟨kt', hkt'⟩]
  rw [if_pos (va_asg _ _)]
/-- the first entry's class is another; the second takes it -/
theorem kt_catch2 {own X X0 : String} {i i0 hp : Nat} {x x0 : ExceptionTableEntry} {rs : List ExceptionTableEntry} {q : Addr} {ce : Cell} (hown : s.vm.findClass own = some m.cls) (hlink0 : (Cond.classLink own i0 X0).before args s = true) (hlink : (Cond.classLink own i X).before args s = true) (htab : c.exceptionTable.toList = x0 :: x :: rs) (hcov0 : covers x0 pc = true) (hct0 : x0.catchType = i0) (hi0 : i0 ≠ 0) (hcov : covers x pc = true) (hct : x.catchType = i) (hi : i ≠ 0) (hhp : x.handlerPc = hp)
    (hno : ∀ c0, s.vm.findClass X0 = some c0 → s.vm.assignable ce.cls c0 = false)
    (hcell : H[q]? = some ce) (hst : ce.vm.isStatics = false) (hcls : s.vm.findClass X = some ce.cls) (kk : W p l e R s m args below meth c H locs cells slots Q (F0 m hp ls [.ref q])) : WT p l e R s m args below meth c H locs cells slots Q q (F0 m pc ls st) := by
  intro T hT X1
  subst hct
  subst hct0
  subst hhp
  have hpl : e.platform.magicAccessors = ({} : Platform).magicAccessors := by rw [X1.admits.platform]
  obtain ⟨c0, hc0, hcl0⟩ := Cond.classLink_spec hown hlink0 e.platform hpl
  obtain ⟨dk0, _, _, kt0, hd0, _, _, _, _, hkt0, _, hopen0⟩ := hcl0.here
  have hcl₀0 := X1.warmed.classLinks hcl0
  have hW0 : s.WarmedH (T.vm.noted m.cls x0.catchType (.cls c0)) := X1.warmed.noted hd0 hopen0 (State.rightAt_cls hcl0)
  have X2 := X1.noted hW0
  obtain ⟨c', hc', hcl⟩ := Cond.classLink_spec hown hlink e.platform hpl
  cases hcls.symm.trans hc'
  obtain ⟨dk, _, _, kt, hd, _, _, _, _, hkt, _, hopen⟩ := hcl.here
  have hcl₀ := X2.warmed.classLinks hcl
  have hW' : s.WarmedH ((T.vm.noted m.cls x0.catchType (.cls c0)).noted m.cls x.catchType (.cls ce.cls)) := X2.warmed.noted hd hopen (State.rightAt_cls hcl)
  obtain ⟨kt', hkt', -⟩ := hW'.alike.2.2 _ _ hkt
  obtain ⟨kt0', hkt0', -⟩ := hW0.alike.2.2 _ _ hkt0
  obtain ⟨kt1', hkt1', -⟩ := hW0.alike.2.2 _ _ hkt
  obtain ⟨t, a1, b1⟩ := kk (T.setVm ((T.vm.noted m.cls x0.catchType (.cls c0)).noted m.cls x.catchType (.cls ce.cls))) hT (X2.noted hW')
  refine ⟨t, cf_caught (g := F0 m pc ls st) (vm' := (T.vm.noted m.cls x0.catchType (.cls c0)).noted m.cls x.catchType (.cls ce.cls)) X1.here (pc := x.handlerPc) (fun Q E d acts => ?_) a1, b1⟩
  have hm : ((T.setTop (F0 m pc ls st)).pushFrame (.throwing q)).vm.method? (F0 m pc ls st).method = some meth := by rw [Stand.throwing_vm]; exact X1.method'
  have hheap : ((T.setTop (F0 m pc ls st)).pushFrame (.throwing q)).heap[q]? = some ce := by rw [Stand.throwing_heap, hT]; exact hcell
  rw [W.findHandler_eq hm X1.code, htab]
  rw [cf_go (f := F0 m pc ls st) (vm' := T.vm.noted m.cls x0.catchType (.cls c0)) (c := c0) hcov0 hi0 (by rw [Stand.throwing_vm]; exact resolveClass_links e.toSetting hcl₀0) hcl₀0.ready (by rw [Stand.throwing_vm]; simp)]
  rw [W.findHandler_go_class (s := ((T.setTop (F0 m pc ls st)).pushFrame (.throwing q)).setVm (T.vm.noted m.cls x0.catchType (.cls c0))) (f := F0 m pc ls st) (c := c0) (cell := ce) hcov0 hi0 hcl₀0.ready hheap (fun k h => by rw [h] at hst; cases hst) ⟨kt1', hkt1'⟩ ⟨kt0', hkt0'⟩]
  rw [if_neg (by rw [show (((T.setTop (F0 m pc ls st)).pushFrame (.throwing q)).setVm (T.vm.noted m.cls x0.catchType (.cls c0))).vm.assignable ce.cls c0 = (T.vm.noted m.cls x0.catchType (.cls c0)).assignable ce.cls c0 from rfl, hW0.alike.assignable, hno c0 hc0]; decide)]
  rw [cf_go (s := ((T.setTop (F0 m pc ls st)).pushFrame (.throwing q)).setVm (T.vm.noted m.cls x0.catchType (.cls c0))) (f := F0 m pc ls st) (vm' := (T.vm.noted m.cls x0.catchType (.cls c0)).noted m.cls x.catchType (.cls ce.cls)) (c := ce.cls) hcov hi (resolveClass_links e.toSetting hcl₀) hcl₀.ready (by show _ ≤ (T.vm.noted m.cls x0.catchType (.cls c0)).classes.size; simp)]
  rw [W.findHandler_go_class (s := (((T.setTop (F0 m pc ls st)).pushFrame (.throwing q)).setVm (T.vm.noted m.cls x0.catchType (.cls c0))).setVm ((T.vm.noted m.cls x0.catchType (.cls c0)).noted m.cls x.catchType (.cls ce.cls))) (f := F0 m pc ls st) (c := ce.cls) (cell := ce) hcov hi hcl₀.ready hheap (fun k h => by rw [h] at hst; cases hst) ⟨kt', hkt'⟩ ⟨kt', hkt'⟩]
  rw [if_pos (va_asg _ _)]
  exact Iff.rfl
end KTC
