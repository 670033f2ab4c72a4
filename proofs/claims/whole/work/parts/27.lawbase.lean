/-! the law: calls with a frame; its methods with an exception table -/
def NC (U : State) : Prop := ∀ c1 c0, U.vm.findClass "java/lang/IllegalArgumentException" = some c1 → U.vm.findClass "java/lang/IndexOutOfBoundsException" = some c0 → U.vm.assignable c1 c0 = false
theorem NC.moved {u U : State} (hvm : u.vm.Alike U.vm) (h : NC u) : NC U := fun c1 c0 h1 h2 => by
  rw [hvm.assignable]
  exact h c1 c0 (by rw [← hvm.findClass]; exact h1) (by rw [← hvm.findClass]; exact h2)
theorem tab1 {l : List ExceptionTableEntry} {a b h t : Nat} (hm : l.map (fun h => (h.startPc, h.endPc, h.handlerPc, h.catchType)) = [(a, b, h, t)]) : ∃ x, l = [x] ∧ x.startPc = a ∧ x.endPc = b ∧ x.handlerPc = h ∧ x.catchType = t := by
  cases l with
  | nil => cases hm
  | cons x r =>
    cases r with
    | nil =>
      simp only [List.map_cons, List.map_nil, List.cons.injEq, Prod.mk.injEq] at hm
      exact ⟨x, rfl, hm.1.1, hm.1.2.1, hm.1.2.2.1, hm.1.2.2.2⟩
    | cons y r => simp at hm
theorem tab2 {l : List ExceptionTableEntry} {a b h t a' b' h' t' : Nat} (hm : l.map (fun h => (h.startPc, h.endPc, h.handlerPc, h.catchType)) = [(a, b, h, t), (a', b', h', t')]) : ∃ x y, l = [x, y] ∧ (x.startPc = a ∧ x.endPc = b ∧ x.handlerPc = h ∧ x.catchType = t) ∧ y.startPc = a' ∧ y.endPc = b' ∧ y.handlerPc = h' ∧ y.catchType = t' := by
  cases l with
  | nil => cases hm
  | cons x r =>
    obtain ⟨y, hy, h2⟩ := tab1 (l := r) (a := a') (b := b') (h := h') (t := t') (by simpa using (List.cons.inj hm).2)
    have h1 := (List.cons.inj hm).1
    simp only [Prod.mk.injEq] at h1
    subst hy
    exact ⟨x, y, rfl, ⟨h1.1, h1.2.1, h1.2.2.1, h1.2.2.2⟩, h2⟩
theorem cov {x : ExceptionTableEntry} {a b pc : Nat} (h1 : x.startPc = a) (h2 : x.endPc = b) (h3 : a ≤ pc) (h4 : pc < b) : covers x pc = true := by
  simp [covers, h1, h2, h3, h4]
def wsH (y : MethodName) (cd : ByteArray) (n : Nat) (r : Option FieldType) (hh : List (Nat × Nat × Nat × Nat)) : List Cond := Cond.codeWith y cd n r hh :: lw_wd
theorem wsH_good {y : MethodName} {cd : ByteArray} {n : Nat} {r : Option FieldType} {hh : List (Nat × Nat × Nat × Nat)} (h : Cond.codeWith y cd n r hh ∈ lw_wd) : GoodIn lw_wd (wsH y cd n r hh) := fun w hw => by
  have hm : w ∈ lw_wd := (List.mem_cons.mp hw).elim (fun e => e ▸ h) id
  exact ⟨hm, good_of_word (List.all_eq_true.mp lw_allgood w hm)⟩
theorem tabOf {p : Program} {l : Launch} {y : MethodName} {cd : ByteArray} {n : Nat} {r : Option FieldType} {hh : List (Nat × Nat × Nat × Nat)} {rm : Room} {e : Env} {s : State} {m : MethodId} {args : Array Value} {below : List Frame} {meth : Method} {c : Code} {s₁ : State} (B : BodyLoose p l y (headSpec (wsH y cd n r hh) rm) cd n r e s m args below meth c s₁) :
    c.exceptionTable.toList.map (fun h => (h.startPc, h.endPc, h.handlerPc, h.catchType)) = hh := by
  obtain ⟨m9, meth', c', h0, h1, h2, -, -, h5, -⟩ := Cond.codeWith_spec (atoms_spec (ws := wsH y cd n r hh) B.pre _ List.mem_cons_self)
  cases B.named.symm.trans h0
  cases B.method.symm.trans h1
  cases (Stand.of_body B).code.symm.trans h2
  exact h5
section KF
variable {p : Program} {l : Launch} {e : Env} {R : Room} {s : State} {m : MethodId} {args : Array Value} {below : List Frame} {meth : Method} {c : Code} {H : Heap} {locs : List Loc} {cells slots : Nat} {Q : State → Prop}
variable {D : va_G} {cl : List vw_C} {tys : List (ClassId × FieldType)} {A B : Nat → Prop} {pre post : va_W} {v : Option Value} {H0 : Heap} {pc : Nat} {ls : Array Slot} {st0 st1 rest As : List Value}
variable {y : MethodName} {bytes cc : ByteArray} {maxL nL n index : Nat} {ret : Option FieldType} {ws : List Cond} {rm : Room} {Ts : List Cond} {own C host : String} {b : Addr}
theorem kf_go {a : Array Value} (hr : va_Run p l e R s m args below meth c H locs cells slots 0 0 (F0 m pc ls st0) rest (RetQ D cl tys B v post a) B) (hBA : ∀ q, B q → A q) (hS : va_S A H0 H locs) (h1 : v.toList ++ rest = st1)
    (kk : ∀ (H1 : Heap) (locs1 : List Loc), va_P D cl post H1 → (∀ q, q < H.size → ¬ B q → H1[q]? = H[q]?) → va_S A H0 H1 locs1 → W p l e R s m args below meth c H1 locs1 cells slots Q (F0 m (pc + 3) ls st1)) : W p l e R s m args below meth c H locs cells slots Q (F0 m pc ls st0) := by
  intro T hT X
  obtain ⟨w, st₀, t, T', L, h0, X', hL, e1, e2, ⟨hv, hP1, hK1, hz, hk⟩, st⟩ := hr T hT X
  cases hv
  subst h1
  rw [h0] at hz hk
  obtain ⟨t2, a1, b1⟩ := kk T'.heap (locs ++ L) (by rw [e1]; exact hP1) (fun q h1 h2 => by rw [e1]; exact hk q h1 h2)
    ⟨Nat.le_trans hS.1 (by rw [e1]; exact hz), fun q h1 h2 => by rw [e1, hk q (Nat.lt_of_lt_of_le h1 hS.1) (fun h => h2 (hBA q h))]; exact hS.2.1 q h1 h2, fun q hq => by
      rcases List.mem_append.mp hq with h | h
      · exact hS.2.2 q h
      · exact hBA _ (hL q h)⟩ T' rfl X'
  exact ⟨t2, st t2 a1, b1⟩
theorem kf_V (S : CallFix p m c cc nL s args Ts own) (hM : CT l D cl tys B y ws rm (.ref b :: As) pre post v) (cw : CallW R s args own C index y bytes maxL ret ws rm 0 0 n)
    (hv : ∃ cell : Cell, H[b]? = some cell ∧ cell.vm.isStatics = false ∧ s.vm.findClass C = some cell.cls) (hBA : ∀ q, B q → A q)
    (hK : va_K D cl tys s) (hN : NW s) (hP : va_P D cl pre H) (hS : va_S A H0 H locs) (hn : As.length = n) (hz : ls.size = nL) (h0 : st0 = As.reverse ++ .ref b :: rest) (h1 : v.toList ++ rest = st1) (hro : (rest.map fun v => v.category).sum ≤ 8) (hf : cells ≤ R.cells ∧ slots ≤ R.slots) (hdg : decode cc pc = .ok (.invokevirtual index, 3))
    (kk : ∀ (H1 : Heap) (locs1 : List Loc), va_P D cl post H1 → (∀ q, q < H.size → ¬ B q → H1[q]? = H[q]?) → va_S A H0 H1 locs1 → W p l e R s m args below meth c H1 locs1 cells slots Q (F0 m (pc + 3) ls st1)) : W p l e R s m args below meth c H locs cells slots Q (F0 m pc ls st0) :=
  kf_go (va_runV S hM cw ⟨CtP_blind, hv, fun U hU hW => ⟨rfl, by rw [hU]; exact hP, va_K.moved hW.alike hK, NW.warm hW hN⟩⟩ rfl hn hz h0 (lv_room hro) hdg hf) hBA hS h1 kk
/-- a static method with an exception table is called -/
theorem kw_S {hh : List (Nat × Nat × Nat × Nat)} {Pc : Array Value → State → Prop} {Qc : Array Value → State → Outcome → State → Prop} {mc ms : Nat} {free : Addr → Prop} (S : CallFix p m c cc nL s args Ts own) (hM : Met l y ws rm Pc Qc mc ms free) (hrc : rm.cells = mc) (hrs : rm.slots = ms) (hfr : rm.frames + 1 ≤ R.frames) (hlo : 8 + (maxL + 11) + rm.locals ≤ R.locals)
    (hws : ∀ w ∈ ws, ∀ (a' : Array Value) (U : State), s.WarmedH U.vm → w.before a' U = true) (hcw : Cond.codeWith y bytes maxL ret hh ∈ ws) (hcode : (Cond.codeWith y bytes maxL ret hh).before args s = true) (hini : (Cond.initialized y.cls).before args s = true) (hy : y.cls ≠ "java/lang/invoke/MethodHandle" ∧ y.cls ≠ "java/lang/invoke/VarHandle") (hlen : (parseMethodDescriptor y.desc).map (fun d => d.parameters.length) = some n) (hl : (Cond.methodLink own index y).before args s = true) (hstat : (Cond.static y).before args s = true)
    (hp : PreS s H Pc As) (hn : As.length = n) (hz : ls.size = nL) (h0 : st0 = As.reverse ++ rest) (hro : (rest.map fun v => v.category).sum ≤ 8) (hdg : decode cc pc = .ok (.invokestatic index, 3)) (hf : cells + mc ≤ R.cells ∧ slots + ms ≤ R.slots) :
    va_Run p l e R s m args below meth c H locs cells slots mc ms (F0 m pc ls st0) rest (Qc As.toArray) free := by
  have hK : Back l R p e below s args y 3 8 (PreOf R mc ms Pc) (PostOf Qc mc ms free) := va_backW (hh := hh) (bytes := bytes) (maxL := maxL) (ret := ret) hM hp.1 hrc hrs hfr hlo hws hcw (fun a' U hW => word_at hW (Or.inl (by first | rfl | simp [Cond.onTables, Cond.keeps, Cond.steady])) hini)
  obtain ⟨hx, hb, hml, ho, -⟩ := S
  intro T hT X
  obtain ⟨mk, methM, cM, hnamed, hmethM, -, -, -, -, -, -, hsigM⟩ := Cond.codeWith_spec hcode
  have hstatic : methM.isStatic = true := Cond.static_spec hnamed hmethM hstat
  obtain ⟨kP, hkP, -⟩ := className_of_methodNamed hnamed
  have hinitP : kP.init = .initialized := Cond.initialized_spec (findClass_of_methodNamed hnamed) hkP hini
  have hlen' : As.length = methM.sig.parameters.length := by
    rw [hsigM] at hlen
    exact hn.trans (Option.some.inj hlen).symm
  obtain ⟨vm₁, X₁, hstep₁⟩ := X.invokestatic hx ho hl hnamed hmethM hstatic hkP hinitP hy (g := F0 m pc ls st0) rfl (argsL := As) (rest := rest) hlen' h0 (by rw [hb]; exact hdg)
  obtain ⟨v, ⟨U', l2, c2, s2⟩, X', ⟨g', mk', t, L, e1, e2, hq, h1, hL, h2, h3⟩, hsteps⟩ := hK m meth c ⟨T.setVm vm₁, locs, cells, slots⟩ (F0 m pc ls rest) (.invokestatic index) mk As.toArray X₁ rfl (hz.trans hml.symm) (by rw [hb]; exact hdg) (lv_room hro) (X₁.named hnamed) ⟨hf.1, hf.2, hp.2 (T.setVm vm₁) hT X₁.warmed⟩
  dsimp only [Pt.U, Pt.locs, Pt.cells, Pt.slots] at X' e1 e2 h1 h2 h3 hsteps
  subst h1; subst h2; subst h3
  exact ⟨v, (T.setVm vm₁).calling g' mk' As.toArray, t, U', L, hT, X', hL, e1, e2, hq, fun target h => hstep₁ _ fun acts => by rw [doInvoke_state]; exact hsteps.trans h⟩
end KF
/-! the law's helpers: the class's world, the array out -/
def oW (cA : Nat → ClassId) (o : Nat) (f : Nat → Int64) : va_W := [(o, .inl (cA 2, 1, .inr (.inl f)))]
def HP (D : va_G) (cA : Nat → ClassId) (ad : Nat → Nat) (o : Nat) (f : Nat → Int64) (h : XH) (av : List Value) : Array Value → State → Prop := va_Pc av (fun U => va_P D vwCl (xW cA ad h) U.heap ∧ va_P D vwCl (oW cA o f) U.heap ∧ va_K D vwCl (xtys cA) U ∧ NW U ∧ TW U ∧ NC U)
def HQ (D : va_G) (cA : Nat → ClassId) (ad : Nat → Nat) (B : Nat → Prop) (o : Nat) (k : Int32) (f : Nat → Int64) (h : XH) : Array Value → State → Outcome → State → Prop := fun _ st oc t =>
  oc = .returned (some (.int k)) ∧ va_P D vwCl (xW cA ad h) t.heap ∧ va_P D vwCl (oW cA o f) t.heap ∧ va_F (fun q => B q ∨ q = o) st t
def HT (l : Launch) (D : va_G) (cA : Nat → ClassId) (ad : Nat → Nat) (B : Nat → Prop) (o : Nat) (y : MethodName) (ws : List Cond) (rm : Room) (mc ms : Nat) (av : List Value) (f : Nat → Int64) (h : XH) (k : Int32) (f' : Nat → Int64) (h' : XH) : Prop :=
  Met l y ws rm (HP D cA ad o f h av) (HQ D cA ad B o k f' h') mc ms (fun q => B q ∨ q = o)
theorem HP_blind {D : va_G} {cA : Nat → ClassId} {ad : Nat → Nat} {o : Nat} {f : Nat → Int64} {h : XH} {av : List Value} : FrameBlind (HP D cA ad o f h av) := by
  intro a U g mk q
  exact ⟨q.1, q.2.1, q.2.2.1, va_K.moved (u := U) (U := U.calling g mk a) (Vm.Alike.refl U.vm) q.2.2.2.1, NW.same (u := U) (U := U.calling g mk a) rfl q.2.2.2.2.1, TW.same (s := U) (U := U.calling g mk a) rfl rfl q.2.2.2.2.2.1, NC.moved (u := U) (U := U.calling g mk a) (Vm.Alike.refl U.vm) q.2.2.2.2.2.2⟩
theorem oW_kept {D : va_G} {cA : Nat → ClassId} {o : Nat} {f : Nat → Int64} {H H1 : Heap} (h : va_P D vwCl (oW cA o f) H) (hk : ∀ q, q < H.size → q = o → H1[q]? = H[q]?) : va_P D vwCl (oW cA o f) H1 := h.kept fun k q hq => by
  have hk0 : k < 1 := (List.getElem?_eq_some_iff.mp hq).1
  have h0 : k = 0 := by omega
  subst h0
  have hlt := (h 0 q hq).lt
  cases hq
  exact hk o hlt rfl
theorem oW_lt {D : va_G} {cA : Nat → ClassId} {o : Nat} {f : Nat → Int64} {H : Heap} (h : va_P D vwCl (oW cA o f) H) : o < H.size := (h 0 _ rfl).lt
theorem xW_kept {D : va_G} {cA : Nat → ClassId} {ad : Nat → Nat} {h : XH} {H H1 : Heap} (hP : va_P D vwCl (xW cA ad h) H) (hk : ∀ q, q < H.size → H1[q]? = H[q]?) : va_P D vwCl (xW cA ad h) H1 := hP.kept fun k q hq => hk _ (hP k q hq).lt
section KH
variable {p : Program} {l : Launch} {e : Env} {R : Room} {s : State} {m : MethodId} {args : Array Value} {below : List Frame} {meth : Method} {c : Code} {H : Heap} {locs : List Loc} {cells slots : Nat} {Q : State → Prop}
variable {D : va_G} {cA : Nat → ClassId} {ad : Nat → Nat} {B : Nat → Prop} {H0 : Heap} {pc : Nat} {ls : Array Slot} {rest : List Value} {cc : ByteArray} {o : Nat} {f : Nat → Int64} {h : XH}
/-- out[0] = v -/
theorem kh_store (hx : p.tables.exec = Jvm.exec) (hb : c.code = cc) (hK : va_K D vwCl (xtys cA) s) (hD : wdD 61 B ad) (ho : ¬ B o) (hP : va_P D vwCl (xW cA ad h) H) (hO : va_P D vwCl (oW cA o f) H) (hS : va_S (fun q => B q ∨ q = o) H0 H locs) {v : Int64} (hdg : decode cc pc = .ok (.lastore, 1))
    (kk : ∀ (H1 : Heap) (locs1 : List Loc), va_P D vwCl (xW cA ad h) H1 → va_P D vwCl (oW cA o (va_up f 0 v)) H1 → va_S (fun q => B q ∨ q = o) H0 H1 locs1 → W p l e R s m args below meth c H1 locs1 cells slots Q (F0 m (pc + 1) ls rest)) : W p l e R s m args below meth c H locs cells slots Q (F0 m pc ls (.long v :: .int 0 :: .ref o :: rest)) := by
  have hlen : (xW cA ad h).length = 61 := by simp [xW, wdG]
  have hDa : va_D (fun q => B q ∨ q = o) (xW cA ad h ++ oW cA o f) := by
    have hDx := hD (xct cA ad h)
    refine ⟨fun i j x z hi hj hq => ?_, fun k q hq => ?_⟩
    · by_cases h1 : i < 61
      · rw [List.getElem?_append_left (by omega)] at hi
        by_cases h2 : j < 61
        · rw [List.getElem?_append_left (by omega)] at hj
          exact hDx.1 i j x z hi hj hq
        · rw [List.getElem?_append_right (by omega)] at hj
          have h3 : j - 61 < 1 := by rw [← hlen]; exact (List.getElem?_eq_some_iff.mp hj).1
          rw [hlen, show j - 61 = 0 by omega] at hj
          cases hj
          have hq' : x.1 = o := hq
          exact absurd (by rw [← hq']; exact hDx.2 i x hi) ho
      · rw [List.getElem?_append_right (by omega)] at hi
        have h3 : i - 61 < 1 := by rw [← hlen]; exact (List.getElem?_eq_some_iff.mp hi).1
        by_cases h2 : j < 61
        · rw [List.getElem?_append_left (by omega)] at hj
          rw [hlen, show i - 61 = 0 by omega] at hi
          cases hi
          have hq' : o = z.1 := hq
          exact absurd (by rw [hq']; exact hDx.2 j z hj) ho
        · rw [List.getElem?_append_right (by omega)] at hj
          have h4 : j - 61 < 1 := by rw [← hlen]; exact (List.getElem?_eq_some_iff.mp hj).1
          omega
    · by_cases h1 : k < 61
      · rw [List.getElem?_append_left (by omega)] at hq
        exact Or.inl (hDx.2 k q hq)
      · rw [List.getElem?_append_right (by omega)] at hq
        have h3 : k - 61 < 1 := by rw [← hlen]; exact (List.getElem?_eq_some_iff.mp hq).1
        rw [hlen, show k - 61 = 0 by omega] at hq
        cases hq
        exact Or.inr rfl
  have hat : (xW cA ad h ++ oW cA o f)[61]? = some (o, .inl (cA 2, 1, .inr (.inl f))) := by
    rw [List.getElem?_append_right (by omega), hlen]
    rfl
  refine va_last (i := 0) hx hb hK (hP.app hO) hDa hS 61 2 hat rfl (show vp_in 0 1 by unfold vp_in; decide) hdg (fun H1 locs1 hP1 _ hS1 => ?_)
  have es : (xW cA ad h ++ oW cA o f).set 61 (o, .inl (cA 2, 1, .inr (.inl (vp_updL f (0 : Int32).toNatClampNeg v)))) = xW cA ad h ++ oW cA o (va_up f 0 v) := by
    rw [List.set_append_right _ _ (by omega), hlen]
    rfl
  rw [es] at hP1
  refine kk H1 locs1 (fun k q hq => hP1 k q ?_) (fun k q hq => hP1 (61 + k) q ?_) hS1
  · rw [List.getElem?_append_left (List.getElem?_eq_some_iff.mp hq).1]
    exact hq
  · rw [List.getElem?_append_right (by omega), hlen, Nat.add_sub_cancel_left]
    exact hq
end KH
