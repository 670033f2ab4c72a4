/-! worlds that grow: the cells of a component in the order in which they are made, from the address b on -/
def gad (b : Nat) : Nat → Nat := fun j => b + j
theorem gad_D {b n : Nat} {A : Nat → Prop} (hA : ∀ q, b ≤ q → A q) : wdD n A (gad b) := wdD_of (fun i j _ _ h => by unfold gad at h; omega) (fun i _ => hA _ (Nat.le_add_right _ _))
theorem wdG_congr {N : Nat} {ad : Nat → Nat} {ct ct' : Nat → va_E} (h : ∀ i, i < N → ct i = ct' i) : wdG N ad ct = wdG N ad ct' := List.map_congr_left fun i hi => by rw [h i (List.mem_range.mp hi)]
theorem wdG_snoc {n b : Nat} {ct : Nat → va_E} {e : va_E} : wdG (n + 1) (gad b) (va_up ct n e) = wdG n (gad b) ct ++ [(b + n, e)] := by
  unfold wdG
  rw [List.range_succ, List.map_append]
  congr 1
  · refine List.map_congr_left fun i hi => ?_
    rw [up_ne (Nat.ne_of_lt (List.mem_range.mp hi))]
  · show [(gad b n, va_up ct n e n)] = _
    rw [up_eq]
    rfl
theorem wdG_lo {D : va_G} {cl : List vw_C} {n b : Nat} {ct : Nat → va_E} {H : Heap} (hP : va_P D cl (wdG n (gad b) ct) H) (hn : 0 < n) : b + n ≤ H.size := by
  have h := (hP (n - 1) _ (wdG_get (by omega))).lt
  have e : gad b (n - 1) = b + (n - 1) := rfl
  rw [e] at h
  omega
def AO (U : State) : Prop := va_AO "DrawnPaths$Block" U ∧ va_AO "DrawnPaths$Pointer" U
theorem AO.moved {u U : State} (hvm : u.vm.Alike U.vm) (h : AO u) : AO U := ⟨h.1.moved hvm, h.2.moved hvm⟩
def rmI (f n mc ms : Nat) : Room := { frames := f, cells := mc, slots := ms, locals := n }
def ItP (D : va_G) (cl : List vw_C) (tys : List (ClassId × FieldType)) (b : Nat) (av : List Value) (n : Nat) (ct : Nat → va_E) : Array Value → State → Prop := va_Pc av (fun U => U.heap.size = b + n ∧ va_P D cl (wdG n (gad b) ct) U.heap ∧ va_K D cl tys U ∧ NW U ∧ AO U)
def ItQ (D : va_G) (cl : List vw_C) (A : Nat → Prop) (b n' : Nat) (ct' : Nat → va_E) : Array Value → State → Outcome → State → Prop := fun _ st oc t => oc = .returned none ∧ va_P D cl (wdG n' (gad b) ct') t.heap ∧ va_F A st t
def IT (l : Launch) (D : va_G) (cl : List vw_C) (tys : List (ClassId × FieldType)) (A : Nat → Prop) (b : Nat) (y : MethodName) (ws : List Cond) (rm : Room) (mc ms : Nat) (av : List Value) (n : Nat) (ct : Nat → va_E) (n' : Nat) (ct' : Nat → va_E) : Prop :=
  Met l y ws rm (ItP D cl tys b av n ct) (ItQ D cl A b n' ct') mc ms A
theorem ItP_blind {D : va_G} {cl : List vw_C} {tys : List (ClassId × FieldType)} {b n : Nat} {av : List Value} {ct : Nat → va_E} : FrameBlind (ItP D cl tys b av n ct) := by
  intro a U g mk q
  exact ⟨q.1, q.2.1, q.2.2.1, va_K.moved (u := U) (U := U.calling g mk a) (Vm.Alike.refl U.vm) q.2.2.2.1, NW.same (u := U) (U := U.calling g mk a) rfl q.2.2.2.2.1, AO.moved (u := U) (U := U.calling g mk a) (Vm.Alike.refl U.vm) q.2.2.2.2.2⟩
theorem ra_uniq {U : State} {cA cB : ClassId} {C : String} (h1 : va_RA U cA (.object C)) (h2 : U.vm.findClass ("[" ++ (FieldType.object C).toString) = some cB) : cB = cA := by
  obtain ⟨kA, comp, -, -, -, h⟩ := h1
  exact Option.some.inj (h2.symm.trans h)
section GW
variable {p : Program} {l : Launch} {e : Env} {R : Room} {s : State} {m : MethodId} {args : Array Value} {below : List Frame} {meth : Method} {c : Code} {H : Heap} {locs : List Loc} {cells slots : Nat} {Q : State → Prop}
variable {D : va_G} {cl : List vw_C} {tys : List (ClassId × FieldType)} {A : Nat → Prop} {H0 : Heap} {pc b n : Nat} {ls : Array Slot} {st0 rest As : List Value} {ct : Nat → va_E} {cc : ByteArray}
theorem gw_size {g : JFrame} (hlo : b + n ≤ H.size) (hsz : s.heap.size + cells = b + n) (kk : H.size = b + n → W p l e R s m args below meth c H locs cells slots Q g) : W p l e R s m args below meth c H locs cells slots Q g := by
  intro T hT X
  have h := X.heapSize
  rw [hT] at h
  exact kk (by omega) T hT X
theorem gw_new (hx : p.tables.exec = Jvm.exec) (hb : c.code = cc) {own C : String} {T : u_T} {N ci index : Nat} (hts : ∀ w ∈ lw_wd, w.before args s = true) (hin : ∀ w ∈ u_ws C T N, w ∈ lw_wd) (ty : Nat → FieldType) (hty : ∀ k, k < N → parseFieldDescriptor (T k).2.2.1 = some (ty k)) (hown : s.vm.findClass own = some m.cls) (hcl : (Cond.classLink own index C).before args s = true) (hinst : (Cond.instantiable C N).before args s = true) (hini : (Cond.initialized C).before args s = true)
    (hK : va_K D cl tys s) (hP : va_P D cl (wdG n (gad b) ct) H) (hS : va_S A H0 H locs) (hH : H.size = b + n) (hc : cl[ci]? = some (C, T, N)) (fs : List Value) (hfs : ∀ j, j < N → defaultValue (ty j) = vp_V fs j) (hcells : cells + 1 ≤ R.cells) (hslots : slots + N ≤ R.slots) (hdg : decode cc pc = .ok (.new index, 3))
    (kk : ∀ (H1 : Heap), va_P D cl (wdG (n + 1) (gad b) (va_up ct n (.inr (ci, fs)))) H1 → va_S A H0 H1 locs → H1.size = b + (n + 1) → W p l e R s m args below meth c H1 locs (cells + 1) (slots + N) Q (F0 m (pc + 3) ls (.ref (b + n) :: rest))) : W p l e R s m args below meth c H locs cells slots Q (F0 m pc ls rest) := by
  have hKn := hK.1 ci _ hc
  refine W.newcK hx hb hown hcl hinst hini rfl hdg hcells hslots hKn.2.1 hH fun H1 kC hkC e1 z1 o1 => ?_
  have hk : ∀ (k : Nat) (x : Nat × va_E), (wdG n (gad b) ct)[k]? = some x → H1[x.1]? = H[x.1]? := fun k x hx => o1 x.1 (by rw [← hH]; exact (hP k x hx).lt)
  refine kk H1 ?_ ⟨Nat.le_trans hS.1 (by omega), fun x h1 h2 => (o1 x (by have := hS.1; omega)).trans (hS.2.1 x h1 h2), hS.2.2⟩ (by omega)
  rw [wdG_snoc]
  refine (hP.kept hk).app (fun k x hx => ?_)
  have hz : k < 1 := (List.getElem?_eq_some_iff.mp hx).1
  rw [show k = 0 by omega] at hx
  cases hx
  exact ⟨_, hc, (u_born ty hts hin hKn hkC e1 hty).to hfs⟩
theorem gw_newa (hx : p.tables.exec = Jvm.exec) (hb : c.code = cc) {atype : ArrayType} (harr : (Cond.arrayClass (newarray.typeOf atype)).before args s = true) {ty : FieldType} (hty : newarray.typeOf atype = ty) (hK : va_K D cl tys s) (hP : va_P D cl (wdG n (gad b) ct) H) (hS : va_S A H0 H locs) (hH : H.size = b + n) (t0 : Nat) {cA : ClassId} (ht : tys[t0]? = some (cA, ty))
    {k : Int32} {N' : Nat} (a0 : vp_A) (ha : ∀ cA : ClassId, vp_cell cA a0 = arrV cA N' (fun _ => defaultValue ty)) (hn : ¬ k < 0) (hN : k.toNatClampNeg = N') (hbytes : N' * componentBytes ty ≤ 536870912) (hcells : cells + 1 ≤ R.cells) (hslots : slots + N' ≤ R.slots) (hdg : decode cc pc = .ok (.newarray atype, 2))
    (kk : ∀ (H1 : Heap), va_P D cl (wdG (n + 1) (gad b) (va_up ct n (.inl (cA, a0)))) H1 → va_S A H0 H1 locs → H1.size = b + (n + 1) → W p l e R s m args below meth c H1 locs (cells + 1) (slots + N') Q (F0 m (pc + 2) ls (.ref (b + n) :: rest))) : W p l e R s m args below meth c H locs cells slots Q (F0 m pc ls (.int k :: rest)) := by
  subst hty
  refine va_newaK hx hb harr rfl hdg rfl hn hN hbytes hcells hslots hH fun H1 cB e1 z1 o1 hAr hNm => ?_
  have hu : cB = cA := by
    have h2 : s.vm.findClass ("[" ++ (newarray.typeOf atype).toString) = some cA := by
      have h3 := (hK.2 t0 _ ht).2
      cases atype <;> exact h3
    exact Option.some.inj (hNm.symm.trans h2)
  subst hu
  have hk : ∀ (k : Nat) (x : Nat × va_E), (wdG n (gad b) ct)[k]? = some x → H1[x.1]? = H[x.1]? := fun k x hx => o1 x.1 (by rw [← hH]; exact (hP k x hx).lt)
  refine kk H1 ?_ ⟨Nat.le_trans hS.1 (by omega), fun x h1 h2 => (o1 x (by have := hS.1; omega)).trans (hS.2.1 x h1 h2), hS.2.2⟩ (by omega)
  rw [wdG_snoc]
  refine (hP.kept hk).app (fun k x hx => ?_)
  have hz : k < 1 := (List.getElem?_eq_some_iff.mp hx).1
  rw [show k = 0 by omega] at hx
  cases hx
  show H1[b + n]? = some (vp_cell _ _)
  rw [ha]
  exact e1
theorem gw_newq (hx : p.tables.exec = Jvm.exec) (hb : c.code = cc) {own C : String} {index : Nat} (hown : s.vm.findClass own = some m.cls) (hclink : (Cond.classLink own index C).before args s = true) (hover : va_AO C s) (hK : va_K D cl tys s) (hP : va_P D cl (wdG n (gad b) ct) H) (hS : va_S A H0 H locs) (hH : H.size = b + n) (t0 : Nat) {cA : ClassId} (ht : tys[t0]? = some (cA, .object C))
    {k : Int32} {N' : Nat} (hn : ¬ k < 0) (hN : k.toNatClampNeg = N') (hbytes : N' * 4 ≤ 536870912) (hcells : cells + 1 ≤ R.cells) (hslots : slots + N' ≤ R.slots) (hdg : decode cc pc = .ok (.anewarray index, 3))
    (kk : ∀ (H1 : Heap), va_P D cl (wdG (n + 1) (gad b) (va_up ct n (.inl (cA, N', .inr (.inr (.inr (.inr (fun _ => none)))))))) H1 → va_S A H0 H1 locs → H1.size = b + (n + 1) → W p l e R s m args below meth c H1 locs (cells + 1) (slots + N') Q (F0 m (pc + 3) ls (.ref (b + n) :: rest))) : W p l e R s m args below meth c H locs cells slots Q (F0 m pc ls (.int k :: rest)) := by
  subst hN
  refine W.anew hx hb hown hclink (va_AO.use hover) rfl hdg rfl hn hbytes hcells hslots fun cB kA comp f1 f2 f3 f4 => ?_
  have hu : cB = cA := ra_uniq (hK.2 t0 _ ht).2 f1
  subst hu
  generalize hH1 : H.push ({ cls := cB, slots := Array.replicate k.toNatClampNeg .null, vm := .none } : Cell) = H1
  have z1 : H1.size = H.size + 1 := by rw [← hH1, Array.size_push]
  have e1 : H1[H.size]? = some (arrV cB k.toNatClampNeg (fun _ => .null)) := by rw [← hH1, Array.getElem?_push_size, ← arrV_new]
  have o1 : ∀ q : Nat, q < H.size → H1[q]? = H[q]? := fun q hq => by rw [← hH1, Array.getElem?_push, if_neg (Nat.ne_of_lt hq)]
  have hk : ∀ (k : Nat) (x : Nat × va_E), (wdG n (gad b) ct)[k]? = some x → H1[x.1]? = H[x.1]? := fun k x hx => o1 x.1 ((hP k x hx).lt)
  rw [hH]
  refine kk H1 ?_ ⟨Nat.le_trans hS.1 (by omega), fun x h1 h2 => (o1 x (by have := hS.1; omega)).trans (hS.2.1 x h1 h2), hS.2.2⟩ (by omega)
  rw [wdG_snoc]
  refine (hP.kept hk).app (fun k x hx => ?_)
  have hz : k < 1 := (List.getElem?_eq_some_iff.mp hx).1
  rw [show k = 0 by omega] at hx
  cases hx
  show H1[b + n]? = some (vp_cell _ _)
  rw [← hH]
  exact e1
theorem gw_get (hx : p.tables.exec = Jvm.exec) (hb : c.code = cc) {own C : String} {T : u_T} {N ci index : Nat} (hts : ∀ w ∈ lw_wd, w.before args s = true) (hin : ∀ w ∈ u_ws C T N, w ∈ lw_wd) (hown : s.vm.findClass own = some m.cls) (hK : va_K D cl tys s) (hP : va_P D cl (wdG n (gad b) ct) H) (i : Nat) (hi : i < n) {fs : List Value} (he : ct i = .inr (ci, fs)) (hc : cl[ci]? = some (C, T, N)) (k : Nat) (hk : k < N) (hlink : (Cond.fieldLink own index (T k).1 (T k).2.1 (T k).2.2.1).before args s = true) (v : Value) (hv : fs[k]? = some v) (hdg : decode cc pc = .ok (.getfield index, 3))
    (kk : W p l e R s m args below meth c H locs cells slots Q (F0 m (pc + 3) ls (v :: rest))) : W p l e R s m args below meth c H locs cells slots Q (F0 m pc ls (.ref (b + i) :: rest)) :=
  va_get hx hb hts hin hown hK hP i (wdG_at (ad := gad b) hi he) hc k hk hlink (fun _ h9 => h9) hv hdg kk
theorem gw_putF (hx : p.tables.exec = Jvm.exec) (hb : c.code = cc) {own C : String} {T : u_T} {N ci index : Nat} (hts : ∀ w ∈ lw_wd, w.before args s = true) (hin : ∀ w ∈ u_ws C T N, w ∈ lw_wd) (ty0 : Nat → FieldType) (hty : ∀ k, k < N → parseFieldDescriptor (T k).2.2.1 = some (ty0 k)) (hnm : ∀ a, a < N → ∀ b, b < N → a ≠ b → (T a).2.1 ≠ (T b).2.1) (hown : s.vm.findClass own = some m.cls) (hK : va_K D cl tys s) (hA : ∀ q, b ≤ q → A q) (hP : va_P D cl (wdG n (gad b) ct) H) (hS : va_S A H0 H locs) (i : Nat) (hi : i < n) (fs : List Value) (he : ct i = .inr (ci, fs)) (hc : cl[ci]? = some (C, T, N)) (k : Nat) (hk : k < N) (hlink : (Cond.fieldLink own index (T k).1 (T k).2.1 (T k).2.2.1).before args s = true) (hfin : (T k).2.2.2 = true) (hin2 : meth.name = "<init>") (hdecl : (T k).1 = own) {ty : FieldType} {x : Addr} (hd : parseFieldDescriptor (T k).2.2.1 = some ty) (hn : narrow ty (.ref x) = .ref x) (hfit : fits ty (.ref x) = true) (hl : k < fs.length)
    (hdg : decode cc pc = .ok (.putfield index, 3)) (kk : ∀ (H1 : Heap) (locs1 : List Loc), va_P D cl (wdG n (gad b) (va_up ct i (.inr (ci, fs.set k (.ref x))))) H1 → va_S A H0 H1 locs1 → W p l e R s m args below meth c H1 locs1 cells slots Q (F0 m (pc + 3) ls rest)) : W p l e R s m args below meth c H locs cells slots Q (F0 m pc ls (.ref x :: .ref (b + i) :: rest)) :=
  va_putF hx hb hts hin ty0 hty hnm hown hK hP (gad_D hA _) hS i (wdG_at (ad := gad b) hi he) hc k hk hlink (fun _ h9 => h9) hfin hin2 hdecl hd hn hfit hl hdg (fun H1 locs1 hP1 _ hS1 => kk H1 locs1 (va_P_eq (wdG_set (ct' := va_up ct i (.inr (ci, fs.set k (.ref x)))) hi (fun j _ hne => up_ne hne) up_eq) hP1) hS1)
theorem gw_cast (hx : p.tables.exec = Jvm.exec) (hb : c.code = cc) (hK : va_K D cl tys s) (hA : ∀ q, b ≤ q → A q) (hP : va_P D cl (wdG n (gad b) ct) H) (hS : va_S A H0 H locs) (i t0 : Nat) (hi : i < n) {cA : ClassId} {N : Nat} {f : Nat → Int32} (he : ct i = .inl (cA, N, .inl f)) (ht : tys[t0]? = some (cA, .char)) {k : Int32} {j : Nat} {v : Int32} (hj : gd N k = some j) (hdg : decode cc pc = .ok (.castore, 1))
    (kk : ∀ (H1 : Heap) (locs1 : List Loc), va_P D cl (wdG n (gad b) (va_up ct i (.inl (cA, N, .inl (va_up f j (vp_nar .char v)))))) H1 → va_S A H0 H1 locs1 → W p l e R s m args below meth c H1 locs1 cells slots Q (F0 m (pc + 1) ls rest)) : W p l e R s m args below meth c H locs cells slots Q (F0 m pc ls (.int v :: .int k :: .ref (b + i) :: rest)) := by
  obtain ⟨h1, h2, -⟩ := gd_eq hj
  subst h2
  exact va_cast hx hb hK hP (gad_D hA _) hS i t0 (wdG_at (ad := gad b) hi he) ht h1 hdg (fun H1 locs1 hP1 _ hS1 => kk H1 locs1 (va_P_eq (wdG_set (ct' := va_up ct i _) hi (fun j _ hne => up_ne hne) up_eq) hP1) hS1)
theorem gw_astq (hx : p.tables.exec = Jvm.exec) (hb : c.code = cc) (hK : va_K D cl tys s) (hA : ∀ q, b ≤ q → A q) (hP : va_P D cl (wdG n (gad b) ct) H) (hS : va_S A H0 H locs) (i t0 ci v : Nat) (hi : i < n) (hv : v < n) {cA : ClassId} {N : Nat} {r : vw_C} {f : Nat → Option Nat} {vs : List Value} (he : ct i = .inl (cA, N, .inr (.inr (.inr (.inr f))))) (ht : tys[t0]? = some (cA, .object r.1)) (hve : ct v = .inr (ci, vs)) (hc : cl[ci]? = some r) {k : Int32} {j : Nat} (hj : gd N k = some j) (hdg : decode cc pc = .ok (.aastore, 1))
    (kk : ∀ (H1 : Heap) (locs1 : List Loc), va_P D cl (wdG n (gad b) (va_up ct i (.inl (cA, N, .inr (.inr (.inr (.inr (va_up f j (some (b + v)))))))))) H1 → va_S A H0 H1 locs1 → W p l e R s m args below meth c H1 locs1 cells slots Q (F0 m (pc + 1) ls rest)) : W p l e R s m args below meth c H locs cells slots Q (F0 m pc ls (.ref (b + v) :: .int k :: .ref (b + i) :: rest)) := by
  obtain ⟨h1, h2, -⟩ := gd_eq hj
  subst h2
  exact va_astq hx hb hK hP (gad_D hA _) hS i t0 v ci (wdG_at (ad := gad b) hi he) ht (wdG_at (ad := gad b) hv hve) hc h1 hdg (fun H1 locs1 hP1 _ hS1 => kk H1 locs1 (va_P_eq (wdG_set (ct' := va_up ct i _) hi (fun j _ hne => up_ne hne) up_eq) hP1) hS1)
theorem gd_nI {N k : Nat} (h : k < N) (hN : N < 2 ^ 31) : gd N (nI k) = some k := by
  unfold gd
  rw [if_neg (nI_in h hN), nI_clamp (by omega)]
variable {y : MethodName} {bytes : ByteArray} {maxL nL k index : Nat} {ret : Option FieldType} {ws : List Cond} {rm : Room} {Ts : List Cond} {own C host : String} {x : Addr} {n' mc ms : Nat} {ct' : Nat → va_E}
theorem gw_go {a : Array Value} (hr : va_Run p l e R s m args below meth c H locs cells slots mc ms (F0 m pc ls st0) rest (ItQ D cl A b n' ct' a) A) (hS : va_S A H0 H locs)
    (kk : ∀ (H1 : Heap) (locs1 : List Loc), va_P D cl (wdG n' (gad b) ct') H1 → va_S A H0 H1 locs1 → W p l e R s m args below meth c H1 locs1 (cells + mc) (slots + ms) Q (F0 m (pc + 3) ls rest)) : W p l e R s m args below meth c H locs cells slots Q (F0 m pc ls st0) := by
  intro T hT X
  obtain ⟨w, st₀, t, T', L, h0, X', hL, e1, e2, ⟨hv, hP1, hz, hk⟩, st⟩ := hr T hT X
  cases hv
  rw [h0] at hz hk
  obtain ⟨t2, a1, b1⟩ := kk T'.heap (locs ++ L) (by rw [e1]; exact hP1)
    ⟨Nat.le_trans hS.1 (by rw [e1]; exact hz), fun q h1 h2 => by rw [e1, hk q (Nat.lt_of_lt_of_le h1 hS.1) h2]; exact hS.2.1 q h1 h2, fun q hq => by
      rcases List.mem_append.mp hq with h | h
      · exact hS.2.2 q h
      · exact hL q h⟩ T' rfl X'
  exact ⟨t2, st t2 a1, b1⟩
theorem gw_I (S : CallFix p m c cc nL s args Ts own) (hM : IT l D cl tys A b y ws rm mc ms (.ref x :: As) n ct n' ct') (cw : CallB R s args own index y bytes maxL none ws rm mc ms k ∧ y.name = "<init>" ∧ (Cond.instanceMethod y).before args s = true)
    (hK : va_K D cl tys s) (hN : NW s) (hO : AO s) (hP : va_P D cl (wdG n (gad b) ct) H) (hS : va_S A H0 H locs) (hH : H.size = b + n) (hn : As.length = k) (hz : ls.size = nL) (h0 : st0 = As.reverse ++ .ref x :: rest) (hro : (rest.map fun v => v.category).sum ≤ 8) (hf : cells + mc ≤ R.cells ∧ slots + ms ≤ R.slots) (hdg : decode cc pc = .ok (.invokespecial index, 3))
    (kk : ∀ (H1 : Heap) (locs1 : List Loc), va_P D cl (wdG n' (gad b) ct') H1 → va_S A H0 H1 locs1 → W p l e R s m args below meth c H1 locs1 (cells + mc) (slots + ms) Q (F0 m (pc + 3) ls rest)) : W p l e R s m args below meth c H locs cells slots Q (F0 m pc ls st0) :=
  gw_go (va_runI S hM cw ⟨ItP_blind, fun U hU hW => ⟨rfl, by rw [hU]; exact hH, by rw [hU]; exact hP, va_K.moved hW.alike hK, NW.warm hW hN, AO.moved hW.alike hO⟩⟩ rfl hn hz h0 (lv_room hro) hdg hf) hS kk
theorem gw_IN (S : CallFix p m c cc nL s args Ts own) (hM : IT l D cl tys A b y ws rm mc ms (.ref x :: As) n ct n' ct') (cw : va_CN R s args own index y host bytes maxL none ws rm mc ms k ∧ y.name = "<init>" ∧ (Cond.instanceMethod y).before args s = true)
    (hK : va_K D cl tys s) (hN : NW s) (hO : AO s) (hP : va_P D cl (wdG n (gad b) ct) H) (hS : va_S A H0 H locs) (hH : H.size = b + n) (hn : As.length = k) (hz : ls.size = nL) (h0 : st0 = As.reverse ++ .ref x :: rest) (hro : (rest.map fun v => v.category).sum ≤ 8) (hf : cells + mc ≤ R.cells ∧ slots + ms ≤ R.slots) (hdg : decode cc pc = .ok (.invokespecial index, 3))
    (kk : ∀ (H1 : Heap) (locs1 : List Loc), va_P D cl (wdG n' (gad b) ct') H1 → va_S A H0 H1 locs1 → W p l e R s m args below meth c H1 locs1 (cells + mc) (slots + ms) Q (F0 m (pc + 3) ls rest)) : W p l e R s m args below meth c H locs cells slots Q (F0 m pc ls st0) :=
  gw_go (va_runIN S hM cw ⟨ItP_blind, fun U hU hW => ⟨rfl, by rw [hU]; exact hH, by rw [hU]; exact hP, va_K.moved hW.alike hK, NW.warm hW hN, AO.moved hW.alike hO⟩⟩ rfl hn hz h0 (lv_room hro) hdg hf) hS kk
theorem gw_V (S : CallFix p m c cc nL s args Ts own) (hM : IT l D cl tys A b y ws rm mc ms (.ref x :: As) n ct n' ct') (cw : CallW R s args own C index y bytes maxL ret ws rm mc ms k)
    (hv : ∃ cell : Cell, H[x]? = some cell ∧ cell.vm.isStatics = false ∧ s.vm.findClass C = some cell.cls)
    (hK : va_K D cl tys s) (hN : NW s) (hO : AO s) (hP : va_P D cl (wdG n (gad b) ct) H) (hS : va_S A H0 H locs) (hH : H.size = b + n) (hn : As.length = k) (hz : ls.size = nL) (h0 : st0 = As.reverse ++ .ref x :: rest) (hro : (rest.map fun v => v.category).sum ≤ 8) (hf : cells + mc ≤ R.cells ∧ slots + ms ≤ R.slots) (hdg : decode cc pc = .ok (.invokevirtual index, 3))
    (kk : ∀ (H1 : Heap) (locs1 : List Loc), va_P D cl (wdG n' (gad b) ct') H1 → va_S A H0 H1 locs1 → W p l e R s m args below meth c H1 locs1 (cells + mc) (slots + ms) Q (F0 m (pc + 3) ls rest)) : W p l e R s m args below meth c H locs cells slots Q (F0 m pc ls st0) :=
  gw_go (va_runV S hM cw ⟨ItP_blind, hv, fun U hU hW => ⟨rfl, by rw [hU]; exact hH, by rw [hU]; exact hP, va_K.moved hW.alike hK, NW.warm hW hN, AO.moved hW.alike hO⟩⟩ rfl hn hz h0 (lv_room hro) hdg hf) hS kk
end GW
