theorem goodIn_r {big : List Cond} (ws : List Cond) (ps : List Nat) (hp : ws = ps.filterMap (fun i => big[i]?)) (h : ws.all goodWord = true) : GoodIn big ws := by
  intro w hw
  have h1 := List.all_eq_true.mp h w hw
  rw [hp] at hw
  obtain ⟨i, -, hi⟩ := List.mem_filterMap.mp hw
  have hm : w ∈ big := by first | exact List.mem_of_getElem? hi | exact List.getElem?_mem hi
  exact ⟨hm, good_of_word h1⟩
theorem goodIn_app {big a b : List Cond} (ha : GoodIn big a) (hb : GoodIn big b) : GoodIn big (a ++ b) := fun w h => (List.mem_append.mp h).elim (ha w) (hb w)
theorem goodIn_ca {big a b : List Cond} {c : Cond} (ha : GoodIn big (c :: a)) (hb : GoodIn big b) : GoodIn big (c :: (a ++ b)) := fun w h => (List.mem_cons.mp h).elim (fun e => ha w (List.mem_cons.mpr (Or.inl e))) (fun h => (List.mem_append.mp h).elim (fun h => ha w (List.mem_cons.mpr (Or.inr h))) (hb w))
theorem goodIn_sub {big ws : List Cond} (hm : ∀ w ∈ ws, w ∈ big) (h : ws.all goodWord = true) : GoodIn big ws := fun w hw => ⟨hm w hw, good_of_word (List.all_eq_true.mp h w hw)⟩

/-! guards of the functions: an index within an array, a number that names a cell, a call that may throw -/
def gd (n : Nat) (i : Int32) : Option Nat := if i < 0 ∨ n ≤ i.toNatClampNeg then none else some i.toNatClampNeg
theorem gd_eq {n : Nat} {i : Int32} {j : Nat} (h : gd n i = some j) : vp_in i n ∧ i.toNatClampNeg = j ∧ j < n := by
  unfold gd at h
  by_cases hc : i < 0 ∨ n ≤ i.toNatClampNeg
  · rw [if_pos hc] at h; cases h
  · rw [if_neg hc] at h
    have e := Option.some.inj h
    exact ⟨hc, e, by rw [← e]; exact Nat.not_le.mp fun q => hc (Or.inr q)⟩
def gn (n : Nat) (k : Nat) : Option Nat := if k < n then some k else none
theorem gn_eq {n k j : Nat} (h : gn n k = some j) : k = j ∧ j < n := by
  unfold gn at h
  by_cases hc : k < n
  · rw [if_pos hc] at h
    have e := Option.some.inj h
    exact ⟨e, by rw [← e]; exact hc⟩
  · rw [if_neg hc] at h; cases h
def nc (v : Int32) : Option Int32 := if vp_nar .char v = v then some v else none
theorem nc_eq {v r : Int32} (h : nc v = some r) : v = r ∧ vp_nar .char v = v := by
  unfold nc at h
  by_cases hc : vp_nar .char v = v
  · rw [if_pos hc] at h
    exact ⟨Option.some.inj h, hc⟩
  · rw [if_neg hc] at h; cases h
def obr {α : Type} (o : Option Nat) (A : Option α) (B : Nat → Option α) : Option α := match o with
  | none => A
  | some k => B k
theorem obr_eq {α : Type} {o : Option Nat} {A : Option α} {B : Nat → Option α} {q : α} (h : obr o A B = some q) : (o = none ∧ A = some q) ∨ ∃ k, o = some k ∧ B k = some q := by
  cases o with
  | none => exact Or.inl ⟨rfl, h⟩
  | some k => exact Or.inr ⟨k, rfl, h⟩
def sbd {α β : Type} (o : Nat ⊕ α) (f : α → Option (Nat ⊕ β)) : Option (Nat ⊕ β) := match o with
  | .inl c => some (.inl c)
  | .inr a => f a
theorem sbd_inr {α β : Type} {o : Nat ⊕ α} {f : α → Option (Nat ⊕ β)} {q : β} (h : sbd o f = some (.inr q)) : ∃ a, o = .inr a ∧ f a = some (.inr q) := by
  cases o with
  | inl c => cases h
  | inr a => exact ⟨a, rfl, h⟩
theorem sbd_inl {α β : Type} {o : Nat ⊕ α} {f : α → Option (Nat ⊕ β)} {q : Nat} (h : sbd o f = some (.inl q)) : o = .inl q ∨ ∃ a, o = .inr a ∧ f a = some (.inl q) := by
  cases o with
  | inl c => cases h; exact Or.inl rfl
  | inr a => exact Or.inr ⟨a, rfl, h⟩
def obd {α β : Type} (o : Option (Nat ⊕ α)) (f : α → Option (Nat ⊕ β)) : Option (Nat ⊕ β) := o.bind fun x => sbd x f
theorem obd_inr {α β : Type} {o : Option (Nat ⊕ α)} {f : α → Option (Nat ⊕ β)} {q : β} (h : obd o f = some (.inr q)) : ∃ a, o = some (.inr a) ∧ f a = some (.inr q) := by
  cases o with
  | none => cases h
  | some x =>
    obtain ⟨a, h1, h2⟩ := sbd_inr (o := x) h
    exact ⟨a, by rw [h1], h2⟩
theorem obd_inl {α β : Type} {o : Option (Nat ⊕ α)} {f : α → Option (Nat ⊕ β)} {q : Nat} (h : obd o f = some (.inl q)) : o = some (.inl q) ∨ ∃ a, o = some (.inr a) ∧ f a = some (.inl q) := by
  cases o with
  | none => cases h
  | some x =>
    rcases sbd_inl (o := x) h with h1 | ⟨a, h1, h2⟩
    · exact Or.inl (by rw [h1])
    · exact Or.inr ⟨a, by rw [h1], h2⟩
theorem map_inr {α : Type} {o : Option α} {q : α} (h : o.map (Sum.inr (α := Nat)) = some (Sum.inr q)) : o = some q := by
  cases o with
  | none => cases h
  | some x => cases h; rfl
theorem no_inl {α : Type} (o : Option α) (q : Nat) : ¬ o.map (Sum.inr (α := Nat)) = some (Sum.inl q) := by
  intro h
  cases o with
  | none => cases h
  | some x => cases h
/-! what of the library the functions name -/
def jk_min (x y : Int32) : Int32 := if y < x then y else x
def jk_abs (x : Int64) : Int64 := if 0 < x then x else -x
theorem narrow_c {v : Int32} (h : vp_nar .char v = v) : narrow .char (.int v) = .int v := by
  have e : narrow .char (.int v) = .int (vp_nar .char v) := rfl
  rw [e, h]
theorem nc_nar {v : Int32} (h : vp_nar .char v = v) : narrow .char (.int v) = .int v := narrow_c h
def nz (v : Int32) : Option Int32 := if vp_nar .boolean v = v then some v else none
theorem nz_eq {v r : Int32} (h : nz v = some r) : v = r ∧ vp_nar .boolean v = v := by
  unfold nz at h
  by_cases hc : vp_nar .boolean v = v
  · rw [if_pos hc] at h
    exact ⟨Option.some.inj h, hc⟩
  · rw [if_neg hc] at h; cases h
theorem nz_nar {v : Int32} (h : vp_nar .boolean v = v) : narrow .boolean (.int v) = .int v := by
  have e : narrow .boolean (.int v) = .int (vp_nar .boolean v) := rfl
  rw [e, h]
def orf (ad : Nat → Nat) (b : Nat) (o : Option Nat) : Value := match o with
  | none => .null
  | some k => .ref (ad (k + b))
def gc (n0 n1 : Nat) (f : Nat → Int32) (sp dp n : Int32) : Option (Nat × Nat × Nat) := if sp < 0 ∨ dp < 0 ∨ n < 0 ∨ n0 < sp.toNatClampNeg + n.toNatClampNeg ∨ n1 < dp.toNatClampNeg + n.toNatClampNeg ∨ (List.range n.toNatClampNeg).all (fun i => fits .char (.int (f (sp.toNatClampNeg + i)))) = false then none else some (sp.toNatClampNeg, dp.toNatClampNeg, n.toNatClampNeg)
theorem gc_eq {n0 n1 : Nat} {f : Nat → Int32} {sp dp n : Int32} {j : Nat × Nat × Nat} (h : gc n0 n1 f sp dp n = some j) : ¬ sp < 0 ∧ ¬ dp < 0 ∧ ¬ n < 0 ∧ sp.toNatClampNeg + n.toNatClampNeg ≤ n0 ∧ dp.toNatClampNeg + n.toNatClampNeg ≤ n1 ∧ (∀ i, i < n.toNatClampNeg → fits .char (.int (f (sp.toNatClampNeg + i))) = true) ∧ (sp.toNatClampNeg, dp.toNatClampNeg, n.toNatClampNeg) = j := by
  unfold gc at h
  by_cases hc : sp < 0 ∨ dp < 0 ∨ n < 0 ∨ n0 < sp.toNatClampNeg + n.toNatClampNeg ∨ n1 < dp.toNatClampNeg + n.toNatClampNeg ∨ (List.range n.toNatClampNeg).all (fun i => fits .char (.int (f (sp.toNatClampNeg + i)))) = false
  · rw [if_pos hc] at h; cases h
  · rw [if_neg hc] at h
    refine ⟨fun q => hc (Or.inl q), fun q => hc (Or.inr (Or.inl q)), fun q => hc (Or.inr (Or.inr (Or.inl q))), Nat.not_lt.mp fun q => hc (Or.inr (Or.inr (Or.inr (Or.inl q)))), Nat.not_lt.mp fun q => hc (Or.inr (Or.inr (Or.inr (Or.inr (Or.inl q))))), fun i hi => ?_, Option.some.inj h⟩
    have h9 : (List.range n.toNatClampNeg).all (fun i => fits .char (.int (f (sp.toNatClampNeg + i)))) = true := by
      cases e : (List.range n.toNatClampNeg).all (fun i => fits .char (.int (f (sp.toNatClampNeg + i)))) with
      | true => rfl
      | false => exact absurd (Or.inr (Or.inr (Or.inr (Or.inr (Or.inr e))))) hc
    exact List.all_eq_true.mp h9 i (List.mem_range.mpr hi)
/-! room and words of a contract -/
theorem NW.same {u U : State} (h : u.vm = U.vm) (hN : NW u) : NW U := ⟨fun w hw => by
    have h1 := hN.1 w hw
    have h2 := lw_oth_ok w hw
    cases w <;> first
      | exact va_tabs rfl h h1
      | (simp [lw_okK] at h2; done), fun q hq => by
    obtain ⟨a, ha⟩ := hN.2 q hq
    exact ⟨a, vk_R.same h.symm ha⟩⟩
theorem NW.warm {s U : State} (hW : s.WarmedH U.vm) (hN : NW s) : NW U := ⟨fun w hw => by
    have h1 := hN.1 w hw
    have h2 := lw_oth_ok w hw
    cases w <;> first
      | exact va_Nw.warmM hW h1
      | exact va_Nw.warmD hW h1
      | exact va_Nw.warmC hW h1
      | exact va_tabs rfl (rfl : (s.setVm U.vm).vm = U.vm) (by rw [Cond.privateMethod_setVm hW.alike]; exact h1)
      | (simp [lw_okK] at h2; done), fun q hq => by
    obtain ⟨a, ha⟩ := hN.2 q hq
    exact ⟨a, vk_R.warm hW ha⟩⟩
def rmO (f n : Nat) : Room := { frames := f, cells := 0, slots := 0, locals := n }
def wsO (y : MethodName) (cd : ByteArray) (n : Nat) (r : Option FieldType) : List Cond := Cond.code y cd n r :: lw_wd
theorem lw_allgood : lw_wd.all goodWord = true := List.all_eq_true.mpr fun w h => (List.mem_filter.mp h).2
theorem wsO_good {y : MethodName} {cd : ByteArray} {n : Nat} {r : Option FieldType} (h : Cond.code y cd n r ∈ lw_wd) : GoodIn lw_wd (wsO y cd n r) := fun w hw => by
  have hm : w ∈ lw_wd := (List.mem_cons.mp hw).elim (fun e => e ▸ h) id
  exact ⟨hm, good_of_word (List.all_eq_true.mp lw_allgood w hm)⟩
theorem va_P_eq {D : va_G} {cl : List vw_C} {ws ws' : va_W} {H : Heap} (e : ws = ws') (h : va_P D cl ws H) : va_P D cl ws' H := e ▸ h
theorem ic {α : Type} {c : Prop} [Decidable c] {a a' b b' : α} (h1 : c → a = a') (h2 : ¬ c → b = b') : (if c then a else b) = (if c then a' else b') := by
  by_cases h : c
  · rw [if_pos h, if_pos h, h1 h]
  · rw [if_neg h, if_neg h, h2 h]
theorem up_eq {α : Type} {f : Nat → α} {k : Nat} {v : α} : va_up f k v k = v := if_pos rfl
theorem up_ne {α : Type} {f : Nat → α} {k j : Nat} {v : α} (h : j ≠ k) : va_up f k v j = f j := if_neg h
theorem rf_up (ad f : Nat → Nat) (k v b : Nat) : (fun j => some (ad (va_up f k v j + b))) = va_up (fun j => some (ad (f j + b))) k (some (ad (v + b))) := by
  funext j
  by_cases h : j = k
  · subst h; rw [up_eq, up_eq]
  · rw [up_ne h, up_ne h]
/-! a world of N cells, by their numbers -/
def wdG (N : Nat) (ad : Nat → Nat) (ct : Nat → va_E) : va_W := (List.range N).map (fun i => (ad i, ct i))
theorem wdG_get {N : Nat} {ad : Nat → Nat} {ct : Nat → va_E} {i : Nat} (h : i < N) : (wdG N ad ct)[i]? = some (ad i, ct i) := by
  simp [wdG, h]
theorem wdG_at {N : Nat} {ad : Nat → Nat} {ct : Nat → va_E} {i : Nat} {e : va_E} (h : i < N) (he : ct i = e) : (wdG N ad ct)[i]? = some (ad i, e) := by
  rw [wdG_get h, he]
theorem wdG_set {N : Nat} {ad : Nat → Nat} {ct ct' : Nat → va_E} {i : Nat} {e : va_E} (hi : i < N) (ho : ∀ j, j < N → j ≠ i → ct' j = ct j) (he : ct' i = e) : (wdG N ad ct).set i (ad i, e) = wdG N ad ct' := by
  apply List.ext_getElem?
  intro j
  by_cases hj : j < N
  · rw [wdG_get hj, List.getElem?_set]
    by_cases hij : i = j
    · subst hij
      rw [if_pos rfl, if_pos (by simp [wdG, hi]), he]
    · rw [if_neg hij, wdG_get hj, ho j hj (fun h => hij h.symm)]
  · rw [List.getElem?_eq_none (by simp [wdG]; omega), List.getElem?_eq_none (by simp [wdG]; omega)]
def wdD (N : Nat) (A : Nat → Prop) (ad : Nat → Nat) : Prop := ∀ ct, va_D A (wdG N ad ct)
theorem wdD_of {N : Nat} {A : Nat → Prop} {ad : Nat → Nat} (hi : ∀ i j, i < N → j < N → ad i = ad j → i = j) (hA : ∀ i, i < N → A (ad i)) : wdD N A ad := by
  intro ct
  refine ⟨fun i j p q hp hq e => ?_, fun k q hq => ?_⟩
  · have h1 : i < N := by have := (List.getElem?_eq_some_iff.mp hp).1; simpa [wdG] using this
    have h2 : j < N := by have := (List.getElem?_eq_some_iff.mp hq).1; simpa [wdG] using this
    rw [wdG_get h1] at hp
    rw [wdG_get h2] at hq
    cases hp; cases hq
    exact hi i j h1 h2 e
  · have h1 : k < N := by have := (List.getElem?_eq_some_iff.mp hq).1; simpa [wdG] using this
    rw [wdG_get h1] at hq
    cases hq
    exact hA k h1
/-! a contract: the answer v, the cells before, the cells behind -/
def RetQ (D : va_G) (cl : List vw_C) (tys : List (ClassId × FieldType)) (A : Nat → Prop) (v : Option Value) (post : va_W) : Array Value → State → Outcome → State → Prop := fun _ st oc t =>
  oc = .returned v ∧ va_P D cl post t.heap ∧ va_K D cl tys t ∧ va_F A st t
def CtP (D : va_G) (cl : List vw_C) (tys : List (ClassId × FieldType)) (av : List Value) (pre : va_W) : Array Value → State → Prop := va_Pc av (fun U => va_P D cl pre U.heap ∧ va_K D cl tys U ∧ NW U)
def CT (l : Launch) (D : va_G) (cl : List vw_C) (tys : List (ClassId × FieldType)) (A : Nat → Prop) (y : MethodName) (ws : List Cond) (rm : Room) (av : List Value) (pre post : va_W) (v : Option Value) : Prop :=
  Met l y ws rm (CtP D cl tys av pre) (RetQ D cl tys A v post) 0 0 A
theorem CtP_blind {D : va_G} {cl : List vw_C} {tys : List (ClassId × FieldType)} {av : List Value} {pre : va_W} : FrameBlind (CtP D cl tys av pre) := by
  intro a U g mk q
  exact ⟨q.1, q.2.1, va_K.moved (u := U) (U := U.calling g mk a) (Vm.Alike.refl U.vm) q.2.2.1, NW.same (u := U) (U := U.calling g mk a) rfl q.2.2.2⟩
theorem ofWF {l : Launch} {y : MethodName} {ws ws' : List Cond} {rm : Room} {Pc : Array Value → State → Prop} {Qc : Array Value → State → Outcome → State → Prop} {mc ms : Nat} {free : Addr → Prop} {cc : ByteArray} {maxL : Nat} {ret : Option FieldType}
    (hy : plainFor y = true) (hw : ws = Cond.code y cc maxL ret :: ws')
    (body : ∀ p e s m args below meth c s₁, BodyLoose p l y (headSpec ws rm) cc maxL ret e s m args below meth c s₁ → c.maxLocals = maxL → Pc args s →
      W p l e (headSpec ws rm).room s m args below meth c s.heap [] 0 0 (MQ below Qc args s mc ms free) (entryFrame m args maxL)) : Met l y ws rm Pc Qc mc ms free := by
  refine MetFree.of_bodySF (code := cc) (maxLocals := maxL) (ret := ret) hy (fun args s m h hn => ?_) (fun p e s m args below meth c s₁ B hml hP _ => ?_)
  · obtain ⟨meth, c, h1, h2, h3, h4, h5, h6, -, -⟩ := Cond.code_spec hn (atoms_spec (ws := ws) h _ (by rw [hw]; exact List.mem_cons_self))
    exact ⟨meth, c, h1, h2, h3, h4, h5, h6⟩
  · obtain ⟨t, a1, o, b1, b2, b3⟩ := body p e s m args below meth c s₁ B hml hP s₁ (by rw [B.state]; rfl) (Stand.of_body B)
    exact ⟨t, o, a1, b1, b2, ⟨b3.1, b3.2⟩⟩
section KC
variable {p : Program} {l : Launch} {e : Env} {R : Room} {s : State} {m : MethodId} {args : Array Value} {below : List Frame} {meth : Method} {c : Code} {H : Heap} {locs : List Loc} {cells slots : Nat} {Q : State → Prop}
variable {D : va_G} {cl : List vw_C} {tys : List (ClassId × FieldType)} {A : Nat → Prop} {pre post : va_W} {v : Option Value} {H0 : Heap} {pc : Nat} {ls : Array Slot} {st0 st1 rest As : List Value}
theorem kc_go {a : Array Value} (hr : va_Run p l e R s m args below meth c H locs cells slots 0 0 (F0 m pc ls st0) rest (RetQ D cl tys A v post a) A) (hS : va_S A H0 H locs) (h1 : v.toList ++ rest = st1)
    (kk : ∀ (H1 : Heap) (locs1 : List Loc), va_P D cl post H1 → va_S A H0 H1 locs1 → W p l e R s m args below meth c H1 locs1 cells slots Q (F0 m (pc + 3) ls st1)) : W p l e R s m args below meth c H locs cells slots Q (F0 m pc ls st0) := by
  intro T hT X
  obtain ⟨w, st₀, t, T', L, h0, X', hL, e1, e2, ⟨hv, hP1, hK1, hz, hk⟩, st⟩ := hr T hT X
  cases hv
  subst h1
  rw [h0] at hz hk
  obtain ⟨t2, a1, b1⟩ := kk T'.heap (locs ++ L) (by rw [e1]; exact hP1)
    ⟨Nat.le_trans hS.1 (by rw [e1]; exact hz), fun q h1 h2 => by rw [e1, hk q (Nat.lt_of_lt_of_le h1 hS.1) h2]; exact hS.2.1 q h1 h2, fun q hq => by
      rcases List.mem_append.mp hq with h | h
      · exact hS.2.2 q h
      · exact hL q h⟩ T' rfl X'
  exact ⟨t2, st t2 a1, b1⟩
variable {y : MethodName} {bytes cc : ByteArray} {maxL nL n index : Nat} {ret : Option FieldType} {ws : List Cond} {rm : Room} {Ts : List Cond} {own C host : String} {b : Addr}
theorem kc_S (S : CallFix p m c cc nL s args Ts own) (hM : CT l D cl tys A y ws rm As pre post v) (cw : CallB R s args own index y bytes maxL ret ws rm 0 0 n ∧ (Cond.static y).before args s = true)
    (hK : va_K D cl tys s) (hN : NW s) (hP : va_P D cl pre H) (hS : va_S A H0 H locs) (hn : As.length = n) (hz : ls.size = nL) (h0 : st0 = As.reverse ++ rest) (h1 : v.toList ++ rest = st1) (hro : (rest.map fun v => v.category).sum ≤ 8) (hf : cells ≤ R.cells ∧ slots ≤ R.slots) (hdg : decode cc pc = .ok (.invokestatic index, 3))
    (kk : ∀ (H1 : Heap) (locs1 : List Loc), va_P D cl post H1 → va_S A H0 H1 locs1 → W p l e R s m args below meth c H1 locs1 cells slots Q (F0 m (pc + 3) ls st1)) : W p l e R s m args below meth c H locs cells slots Q (F0 m pc ls st0) :=
  kc_go (va_runS S hM cw ⟨CtP_blind, fun U hU hW => ⟨rfl, by rw [hU]; exact hP, va_K.moved hW.alike hK, NW.warm hW hN⟩⟩ rfl hn hz h0 (lv_room hro) hdg hf) hS h1 kk
theorem kc_V (S : CallFix p m c cc nL s args Ts own) (hM : CT l D cl tys A y ws rm (.ref b :: As) pre post v) (cw : CallW R s args own C index y bytes maxL ret ws rm 0 0 n)
    (hv : ∃ cell : Cell, H[b]? = some cell ∧ cell.vm.isStatics = false ∧ s.vm.findClass C = some cell.cls)
    (hK : va_K D cl tys s) (hN : NW s) (hP : va_P D cl pre H) (hS : va_S A H0 H locs) (hn : As.length = n) (hz : ls.size = nL) (h0 : st0 = As.reverse ++ .ref b :: rest) (h1 : v.toList ++ rest = st1) (hro : (rest.map fun v => v.category).sum ≤ 8) (hf : cells ≤ R.cells ∧ slots ≤ R.slots) (hdg : decode cc pc = .ok (.invokevirtual index, 3))
    (kk : ∀ (H1 : Heap) (locs1 : List Loc), va_P D cl post H1 → va_S A H0 H1 locs1 → W p l e R s m args below meth c H1 locs1 cells slots Q (F0 m (pc + 3) ls st1)) : W p l e R s m args below meth c H locs cells slots Q (F0 m pc ls st0) :=
  kc_go (va_runV S hM cw ⟨CtP_blind, hv, fun U hU hW => ⟨rfl, by rw [hU]; exact hP, va_K.moved hW.alike hK, NW.warm hW hN⟩⟩ rfl hn hz h0 (lv_room hro) hdg hf) hS h1 kk
theorem kc_SN (S : CallFix p m c cc nL s args Ts own) (hM : CT l D cl tys A y ws rm As pre post v) (cw : va_CN R s args own index y host bytes maxL ret ws rm 0 0 n ∧ (Cond.static y).before args s = true ∧ True)
    (hK : va_K D cl tys s) (hN : NW s) (hP : va_P D cl pre H) (hS : va_S A H0 H locs) (hn : As.length = n) (hz : ls.size = nL) (h0 : st0 = As.reverse ++ rest) (h1 : v.toList ++ rest = st1) (hro : (rest.map fun v => v.category).sum ≤ 8) (hf : cells ≤ R.cells ∧ slots ≤ R.slots) (hdg : decode cc pc = .ok (.invokestatic index, 3))
    (kk : ∀ (H1 : Heap) (locs1 : List Loc), va_P D cl post H1 → va_S A H0 H1 locs1 → W p l e R s m args below meth c H1 locs1 cells slots Q (F0 m (pc + 3) ls st1)) : W p l e R s m args below meth c H locs cells slots Q (F0 m pc ls st0) :=
  kc_go (va_runSN S hM cw ⟨CtP_blind, fun U hU hW => ⟨rfl, by rw [hU]; exact hP, va_K.moved hW.alike hK, NW.warm hW hN⟩⟩ rfl hn hz h0 (lv_room hro) hdg hf) hS h1 kk
theorem kc_VN (S : CallFix p m c cc nL s args Ts own) (hM : CT l D cl tys A y ws rm (.ref b :: As) pre post v) (cw : va_CN R s args own index y host bytes maxL ret ws rm 0 0 n ∧ (Cond.instanceMethod y).before args s = true ∧ (Cond.selects C y y).before args s = true)
    (hv : ∃ cell : Cell, H[b]? = some cell ∧ cell.vm.isStatics = false ∧ s.vm.findClass C = some cell.cls)
    (hK : va_K D cl tys s) (hN : NW s) (hP : va_P D cl pre H) (hS : va_S A H0 H locs) (hn : As.length = n) (hz : ls.size = nL) (h0 : st0 = As.reverse ++ .ref b :: rest) (h1 : v.toList ++ rest = st1) (hro : (rest.map fun v => v.category).sum ≤ 8) (hf : cells ≤ R.cells ∧ slots ≤ R.slots) (hdg : decode cc pc = .ok (.invokevirtual index, 3))
    (kk : ∀ (H1 : Heap) (locs1 : List Loc), va_P D cl post H1 → va_S A H0 H1 locs1 → W p l e R s m args below meth c H1 locs1 cells slots Q (F0 m (pc + 3) ls st1)) : W p l e R s m args below meth c H locs cells slots Q (F0 m pc ls st0) :=
  kc_go (va_runVN S hM cw ⟨CtP_blind, hv, fun U hU hW => ⟨rfl, by rw [hU]; exact hP, va_K.moved hW.alike hK, NW.warm hW hN⟩⟩ rfl hn hz h0 (lv_room hro) hdg hf) hS h1 kk
end KC
section JK
variable {p : Program} {l : Launch} {e : Env} {R : Room} {s : State} {m : MethodId} {args : Array Value} {below : List Frame} {meth : Method} {c : Code} {H : Heap} {locs : List Loc} {cells slots : Nat} {Q : State → Prop} {cc : ByteArray} {pc nL : Nat} {ls : Array Slot} {rest : List Value} {own : String} {index : Nat}
theorem jk_minR (hx : p.tables.exec = Jvm.exec) (hb : c.code = cc) (hml : c.maxLocals = nL) (hz : ls.size = nL) (hown : s.vm.findClass own = some m.cls) (hts : ∀ w ∈ lw_wd, w.before args s = true) (hlink : (Cond.methodLink own index Lib.Math.min.name).before args s = true) (hR : 1 ≤ R.frames ∧ 21 ≤ R.locals) (hro : (rest.map fun v => v.category).sum ≤ 8) (hf : cells ≤ R.cells ∧ slots ≤ R.slots) (hdg : decode cc pc = .ok (.invokestatic index, 3)) {x y : Int32}
    (kk : W p l e R s m args below meth c H locs cells slots Q (F0 m (pc + 3) ls (.int (jk_min x y) :: rest))) : W p l e R s m args below meth c H locs cells slots Q (F0 m pc ls (.int y :: .int x :: rest)) :=
  va_mmin hx hb (hml.trans hz.symm) hown hlink (hts _ nw_334) (hts _ nw_17) (hts _ nw_335) hR.1 (Nat.le_trans (Nat.add_le_add_right hro 13) hR.2) hf.1 hf.2 hdg kk
theorem jk_absR (hx : p.tables.exec = Jvm.exec) (hb : c.code = cc) (hml : c.maxLocals = nL) (hz : ls.size = nL) (hown : s.vm.findClass own = some m.cls) (hts : ∀ w ∈ lw_wd, w.before args s = true) (hlink : (Cond.methodLink own index Lib.MathLoose.abs_long.x).before args s = true) (hR : 1 ≤ R.frames ∧ 21 ≤ R.locals) (hro : (rest.map fun v => v.category).sum ≤ 8) (hf : cells ≤ R.cells ∧ slots ≤ R.slots) (hdg : decode cc pc = .ok (.invokestatic index, 3)) {x : Int64}
    (kk : W p l e R s m args below meth c H locs cells slots Q (F0 m (pc + 3) ls (.long (jk_abs x) :: rest))) : W p l e R s m args below meth c H locs cells slots Q (F0 m pc ls (.long x :: rest)) :=
  va_mabs_long hx hb (hml.trans hz.symm) hown hlink (hts _ nw_546) (hts _ nw_17) (hts _ nw_547) hR.1 (Nat.le_trans (Nat.add_le_add_right hro 13) hR.2) hf.1 hf.2 hdg kk
end JK
