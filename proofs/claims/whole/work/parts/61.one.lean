/-! one pointer's sign -/
theorem vst0 {g : MH} (h : mh_vstopped g = 0) : ms_vstopped g 0 = g := by
  rw [show (0 : Int32) = mh_vstopped g from h.symm]
  rfl
def FinS (h : XH) (g : MH) : Prop := GL h g ∧ RS (xh_stopped h) (mh_vstopped g) (xh_steps h) (mh_vsteps g) ∧ mh_vfault g = 0 ∧ ∃ L V, PM0 h g L V
def OUT (F : Nat) (h : XH) (g : MH) (K dn L V w D r q : Nat) (cx : Option (Int32 × XH)) : Prop :=
  OD h g K dn (nI w) (nI D) (nI r) (xh_pnums h K) (xh_prets h K) (nI (w / 8)) (nI (w / 2 % 4)) (nI q) (nI D) (nI r) (mh_stacks g) (mh_back g) cx (mf_M_fits F (nI dn) g) ∨
  (∃ G0, mf_M_fits F (nI dn) g = some (0, G0) ∧ mh_vstopped G0 = mh_vstopped g ∧ OA h g K dn (mh_stacks g) (mh_back g) cx (mf_M_act F (nI dn) G0)) ∨
  (mf_M_fits F (nI dn) g = some (0, g) ∧ cx = some (1, h) ∧ mf_M_act F (nI dn) g = some (ms_lives g dn 0)) ∨
  (L < 4 ∧ mf_M_fits F (nI dn) g = some (0, g) ∧ ∃ (w1 w2 D2 : Nat) (v : Int64), w1 < 768 ∧ w1 % 2 = 0 ∧ w2 < 768 ∧ w2 % 2 = 0 ∧ cx = some (0, fkX h K (xh_ptrs h L) L w1 w2 D2 r v (xh_pnums h K) (xh_prets h K)) ∧ mf_M_act F (nI dn) g = some (fkM g dn V w1 w2 D2 r v (mh_stacks g) (mh_back g)) ∧ LK dn D2 (xh_pnums h K) (mh_stacks g) (mh_stacks g))
def ONE (F : Nat) (h : XH) (g : MH) (n0 dn k : Nat) : Prop :=
  (∃ (h' : XH) (g' : MH) (k' : Nat), Mid h' g' n0 (dn + 1) k' ∧ (∀ m, xf_Run_advance_L9 F (m + 1) (nI n0) (nI k) (nI dn) h = xf_Run_advance_L9 F m (nI n0) (nI k') (nI (dn + 1)) h') ∧ ∀ m, mf_M_stepAll_L7 F (m + 1) (nI n0) (nI dn) g = mf_M_stepAll_L7 F m (nI n0) (nI (dn + 1)) g') ∨
  (∃ (h' : XH) (g' : MH), FinS h' g' ∧ mh_vstopped g' ≠ 0 ∧ (∀ m, xf_Run_advance_L9 F (m + 1) (nI n0) (nI k) (nI dn) h = some h') ∧ ∀ m, mf_M_stepAll_L7 F (m + 1) (nI n0) (nI dn) g = mf_M_stepAll_L7 F m (nI n0) (nI (dn + 1)) g')
theorem PM0_st {h : XH} {g : MH} {L V : Nat} {c : Int32} (hP : PM0 h g L V) : PM0 (xs_stopped h c) (ms_vstopped g c) L V := by
  unfold PM0 PX at *
  simp only [gx_stopped, gm_vstopped]
  exact hP
theorem GL_st {h : XH} {g : MH} {c : Int32} (hP : GL h g) : GL (xs_stopped h c) (ms_vstopped g c) := by
  unfold GL at *
  simp only [gx_stopped, gm_vstopped]
  exact hP
theorem L7_eq {F : Nat} {g : MH} {m n0 dn : Nat} (hn : dn < n0) (hn4 : n0 ≤ 4) (hs : mh_vstopped g = 0) : mf_M_stepAll_L7 F (m + 1) (nI n0) (nI dn) g = (mf_M_fits F (nI dn) g).bind fun q4 => if (mh_vstopped (ms_vstopped q4.2 q4.1)) = 0 then (mf_M_act F (nI dn) (ms_vstopped q4.2 q4.1)).bind fun q6 => mf_M_stepAll_L7 F m (nI n0) (nI (dn + 1)) q6 else mf_M_stepAll_L7 F m (nI n0) (nI (dn + 1)) (ms_vstopped q4.2 q4.1) := by
  rw [mf_M_stepAll_L7, if_neg (by rw [nql (by omega) (by omega)]; omega), if_pos hs]
  simp only [Option.bind_some, mf_M_stepAll_J40, nI_1]
theorem one_fin {F : Nat} {h : XH} {g : MH} {n0 dn k L V w D r q : Nat} {cx : Option (Int32 × XH)} (hF : 20 < F) (hG : GL h g) (hS : SS h g) (hP : PM0 h g L V) (hQ : PMx g n0 dn k V) (hdn : dn < n0) (hw : w < 768) (hr : r ≤ 8) (hq : w % 2 = q) (hL : LK dn D (xh_pnums h (xh_ptrs h k)) (mh_stacks g) (mh_stacks g)) (hT : RT dn r (xh_prets h (xh_ptrs h k)) (mh_back g) (mh_back g)) (hO : OUT F h g (xh_ptrs h k) dn L V w D r q cx)
    (hx : ∀ m, xf_Run_advance_L9 F (m + 1) (nI n0) (nI k) (nI dn) h = cx.bind fun q => xf_Run_advance_J72 F (xf_Run_advance_L9 F m) (nI n0) (nI k) (nI dn) q.1 q.2) : ONE F h g n0 dn k := by
  have hm : Mid h g n0 dn k := ⟨hG, hS, L, V, hP, hQ⟩
  have hn4 : n0 ≤ 4 := hQ.2.2.2.1
  have h7 := fun m => L7_eq (F := F) (m := m) hdn hn4 hS.2.1
  have go : ∀ h' m, xf_Run_advance_J72 F (xf_Run_advance_L9 F m) (nI n0) (nI k) (nI dn) 0 h' = xf_Run_advance_L9 F m (nI n0) (nI (k + 1)) (nI (dn + 1)) h' := by
    intro h' m
    unfold xf_Run_advance_J72 xf_Run_advance_J106
    rw [if_pos rfl, nI_1, nI_1]
  rcases hO with ⟨h1, g1, code, hcode, e1, e2, hG1, hX1, hM1⟩ | ⟨G0, e2, hs0, h1, g1, w2, D2, r2, n2, s2, st2, ba2, hw2, hr2, e1, e3, hG1, hX1, hM1, hL1, hT1⟩ | ⟨e2, e1, e3⟩ | ⟨hL4, e2, w1, w2, D2, v, b1, b2, b3, b4, e1, e3, hL2⟩
  · right
    have hc0 : code ≠ 0 := by rcases hcode with h | h <;> rw [h] <;> decide
    have hc1 : code ≠ 1 := by rcases hcode with h | h <;> rw [h] <;> decide
    have k6 := hQ.2.2.2.2.2
    have hlv := hQ.2.2.2.2.1 dn (Nat.le_refl _) (by have := hQ.1; omega)
    have hA := PM0_A (i := dn) (w := w) (D := D) (r := r) (n := xh_pnums h (xh_ptrs h k)) (s := xh_prets h (xh_ptrs h k)) hP (by have := hQ.1; omega) hlv hX1 hM1 hw hr hL hT
    rw [k6, hq] at hA
    refine ⟨xs_stopped (UX h1 (xh_ptrs h k) (nI w) (nI D) (nI r) (xh_pnums h (xh_ptrs h k)) (xh_prets h (xh_ptrs h k))) code, ms_vstopped (UM g1 dn (nI (w / 8)) (nI (w / 2 % 4)) (nI q) (nI D) (nI r) (mh_stacks g) (mh_back g)) code, ⟨GL_st (GL_U hG1), ⟨rfl, ?_, ?_⟩, ?_, L, V, PM0_st hA⟩, hc0, fun m => ?_, fun m => ?_⟩
    · right
      exact hcode
    · simp only [gx_stopped, gm_vstopped, UX_get, UM_get]
      rw [hX1.2.2.2.2.2.2.2.1, hM1.2.2.2.1]
      exact hS.2.2.1
    · simp only [gm_vstopped, UM_get]
      rw [hM1.1]
      exact hS.2.2.2
    · rw [hx, e1, Option.bind_some]
      unfold xf_Run_advance_J72
      rw [if_neg hc0, if_neg hc1, Option.bind_some]
    · rw [h7, e2, Option.bind_some]
      exact if_neg hc0
  · left
    refine ⟨_, _, k + 1, Mid_A hm hdn hG1 hX1 hM1 hw2 hr2 hL1 hT1, fun m => ?_, fun m => ?_⟩
    · rw [hx, e1, Option.bind_some, go]
    · rw [h7, e2, Option.bind_some, vst0 (hs0.trans hS.2.1), if_pos (hs0.trans hS.2.1), e3, Option.bind_some]
  · left
    obtain ⟨L', c1, c2, c3, c4, hB⟩ := Mid_B hm hdn
    refine ⟨_, _, k, hB, fun m => ?_, fun m => ?_⟩
    · rw [hx, e1, Option.bind_some]
      unfold xf_Run_advance_J72 xf_Run_advance_J106
      rw [if_neg (show ¬ (1 : Int32) = 0 by decide), if_pos rfl, remove_ok hF c1 c2 c3 c4, Option.bind_some, nI_1]
    · rw [h7, e2, Option.bind_some, vst0 hS.2.1, if_pos hS.2.1, e3, Option.bind_some]
  · left
    refine ⟨_, _, k + 1, Mid_C (v := v) hG hS hP hQ hdn hL4 b1 b2 b3 b4 hr hL2 hT, fun m => ?_, fun m => ?_⟩
    · rw [hx, e1, Option.bind_some, go]
    · rw [h7, e2, Option.bind_some, vst0 hS.2.1, if_pos hS.2.1, e3, Option.bind_some]
theorem PX_data {h : XH} {g : MH} {K i : Nat} (hP : PX h g K i) : ∃ w D r, w < 768 ∧ r ≤ 8 ∧ xh_pway h K = nI w ∧ UX h K (nI w) (nI D) (nI r) (xh_pnums h K) (xh_prets h K) = h ∧ UM g i (nI (w / 8)) (nI (w / 2 % 4)) (nI (w % 2)) (nI D) (nI r) (mh_stacks g) (mh_back g) = g ∧ LK i D (xh_pnums h K) (mh_stacks g) (mh_stacks g) ∧ RT i r (xh_prets h K) (mh_back g) (mh_back g) := by
  obtain ⟨w, D, r, a1, a2, a3, a4, a5, a6, a7, a8, a9, a10, a11, a12, a13⟩ := hP
  refine ⟨w, D, r, a1, a3, a4, ?_, ?_, ⟨a2, a10, fun _ _ => rfl⟩, a13, fun _ _ => rfl⟩
  · have := UX_id h K
    rw [a4, a8, a11] at this
    exact this
  · have := UM_id g i
    rw [a5, a6, a7, a9, a12] at this
    exact this
theorem L9_eq {F : Nat} {h : XH} {m n0 k dn w c : Nat} (hn : dn < n0) (hn4 : n0 ≤ 4) (hk : k < 4) (hK4 : xh_ptrs h k < 4) (hw : w < 768) (hpw : xh_pway h (xh_ptrs h k) = nI w) (hf : xh_signs h (w / 8) = nI c) : xf_Run_advance_L9 F (m + 1) (nI n0) (nI k) (nI dn) h = if xf_P_isAct (nI w) (nI c) = 0 then (xf_Run_pass (xh_ptrs h k) (nI c) h).bind fun q5 => xf_Run_advance_J72 F (xf_Run_advance_L9 F m) (nI n0) (nI k) (nI dn) q5.1 q5.2 else (xf_Run_act F (xh_ptrs h k) (nI c) h).bind fun q5 => xf_Run_advance_J72 F (xf_Run_advance_L9 F m) (nI n0) (nI k) (nI dn) q5.1 q5.2 := by
  rw [xf_Run_advance_L9, if_neg (by rw [nql (by omega) (by omega)]; omega), gd_nI hk (by omega), Option.bind_some, gn_ok hK4, Option.bind_some, hpw, wy_place w hw, gd_nI (show w / 8 < 96 by omega) (by omega), Option.bind_some, hf]
theorem sign_pass {F : Nat} {h : XH} {g : MH} {K dn L V w D r c : Nat} (hi : dn < 8) (hG : GL h g) (hw : w < 768) (hr : r ≤ 8) (eH : UX h K (nI w) (nI D) (nI r) (xh_pnums h K) (xh_prets h K) = h) (eG : UM g dn (nI (w / 8)) (nI (w / 2 % 4)) (nI (w % 2)) (nI D) (nI r) (mh_stacks g) (mh_back g) = g) (hL : LK dn D (xh_pnums h K) (mh_stacks g) (mh_stacks g)) (hT : RT dn r (xh_prets h K) (mh_back g) (mh_back g)) (hc : c < 127) (hf : mh_field g (w / 8) = nI c) (hna : ¬ (w % 2 = 0 ∧ ac c)) : ((xf_Run_pass K (nI c) h = some (2, h) ∧ mf_M_fits F (nI dn) g = some (2, g)) ∨ (mf_M_fits F (nI dn) g = some (0, g) ∧ OP w c h g K dn (mh_stacks g) (mh_back g) (xf_Run_pass K (nI c) h) (mf_M_act F (nI dn) g))) := by
  by_cases hq : w % 2 = 0
  · have := na_U (F := F) (h := h) (g := g) (K := K) (i := dn) (n := xh_pnums h K) (s := xh_prets h K) (st := mh_stacks g) (st0 := mh_stacks g) (ba := mh_back g) (ba0 := mh_back g) hi hw hq hr hG hL hT hc hf (fun a => hna ⟨hq, a⟩)
    rw [hq] at eG
    rw [eH, eG] at this
    exact this
  · have hq1 : w % 2 = 1 := by omega
    have := na_Q (F := F) (h := h) (g := g) (K := K) (i := dn) (n := xh_pnums h K) (s := xh_prets h K) (st := mh_stacks g) (st0 := mh_stacks g) (ba := mh_back g) (ba0 := mh_back g) hi hw hq1 hr hG hL hT hc hf
    rw [hq1] at eG
    rw [eH, eG] at this
    exact this
theorem sign_act {F : Nat} {h : XH} {g : MH} {K dn L V w D r c : Nat} (hFu : 96 < F) (hi : dn < 8) (hG : GL h g) (hw : w < 768) (hr : r ≤ 8) (eH : UX h K (nI w) (nI D) (nI r) (xh_pnums h K) (xh_prets h K) = h) (eG : UM g dn (nI (w / 8)) (nI (w / 2 % 4)) (nI 0) (nI D) (nI r) (mh_stacks g) (mh_back g) = g) (hL : LK dn D (xh_pnums h K) (mh_stacks g) (mh_stacks g)) (hT : RT dn r (xh_prets h K) (mh_back g) (mh_back g)) (hf : mh_field g (w / 8) = nI c) (hq : w % 2 = 0) (hac : ac c)
    (hV : V ≤ 8) (hv : mh_vpointers g = nI V) (hcn : cnt (mh_lives g) V = L) (hlv : xh_living h = nI L) (hL4 : L ≤ 4) (hne : dn ≠ V) (hV8 : L < 4 → V < 8 ∧ xh_ptrs h L < 4 ∧ K ≠ xh_ptrs h L) : OUT F h g K dn L V w D r 0 (xf_Run_act F K (nI c) h) := by
  have ew : 8 * (w / 8) + 2 * (w / 2 % 4) = w := by omega
  have hp : w / 8 < 96 := by omega
  have hd : w / 2 % 4 < 4 := by omega
  have g0 : ∀ g0 a b c e f x y, FM g g0 → mh_vstopped (UM g0 dn a b c e f x y) = mh_vstopped g := fun g0 a b c e f x y hm => by
    simp only [UM_get]
    exact hm.2.2.1
  rcases hac with hc | hc | hc | hc | hc | hc | hc | hc | hc <;> subst hc
  · have := ac_63 (F := F) (K := K) hi hp hd hr hG hL hT hf
    rw [ew, eH, eG] at this
    exact Or.inr (Or.inl ⟨g, this.1, rfl, this.2⟩)
  · have := ac_110 (F := F) (K := K) hFu hi hp hd hr hG hL hT hf
    rw [ew, eH, eG] at this
    rcases this with h1 | ⟨G0, h1, h2, h3⟩
    · exact Or.inl h1
    · exact Or.inr (Or.inl ⟨_, h1, g0 _ _ _ _ _ _ _ _ h2, h3⟩)
  · have := ac_98 (F := F) (K := K) hi hp hd hr hG hL hT hf
    rw [ew, eH, eG] at this
    rcases this with h1 | h1
    · exact Or.inl h1
    · exact Or.inr (Or.inl ⟨g, h1.1, rfl, h1.2⟩)
  · have := ac_105 (F := F) (K := K) hi hp hd hr hG hL hT hf
    rw [ew, eH, eG] at this
    rcases this with h1 | h1
    · exact Or.inl h1
    · exact Or.inr (Or.inl ⟨g, h1.1, rfl, h1.2⟩)
  · have := ac_119 (F := F) (K := K) hFu hi hp hd hr hG hL hT hf
    rw [ew, eH, eG] at this
    exact Or.inr (Or.inl ⟨g, this.1, rfl, this.2⟩)
  · have := ac_67 (F := F) (K := K) hi hp hd hr hG hL hT hf
    rw [ew, eH, eG] at this
    rcases this with h1 | h1
    · exact Or.inl h1
    · exact Or.inr (Or.inl ⟨g, h1.1, rfl, h1.2⟩)
  · have := ac_82 (F := F) (K := K) hi hp hd hr hG hL hT hf
    rw [ew, eH, eG] at this
    rcases this with h1 | h1
    · exact Or.inr (Or.inr (Or.inl h1))
    · exact Or.inr (Or.inl ⟨g, h1.1, rfl, h1.2⟩)
  · have := ac_102 (F := F) (K := K) (L := L) (V := V) hFu hi hp hd hr hG hL hT hf hV hv hcn hlv hL4 hne hV8
    rw [ew, eH, eG] at this
    obtain ⟨h1, h2 | ⟨h2, h3, h4⟩⟩ := this
    · exact Or.inr (Or.inl ⟨g, h1, rfl, h2.2⟩)
    · have m1 := mv_lt (w / 8) hp (w / 2 % 4) hd
      have m2 := mv_lt (w / 8) hp ((w / 2 % 4 + 3) % 4) (by omega)
      exact Or.inr (Or.inr (Or.inr ⟨h2, h1, _, _, D - 1, pv D (xh_pnums h K), by omega, by omega, by omega, by omega, h3, h4, LK_pop hL⟩))
  · have := ac_64 (F := F) (K := K) hi hp hd hr hG hL hT hf
    rw [ew, eH, eG] at this
    exact Or.inr (Or.inr (Or.inl this))
theorem one_ok {F : Nat} {h : XH} {g : MH} {n0 dn k : Nat} (hFu : 96 < F) (hm : Mid h g n0 dn k) (hdn : dn < n0) : ONE F h g n0 dn k := by
  obtain ⟨hG, hS, L, V, hP, hQ⟩ := hm
  have hP' := hP
  have hQ' := hQ
  obtain ⟨p1, p2, p3, p4, p5, p6, p7, p8, p9⟩ := hP'
  obtain ⟨q1, q2, q3, q4, q5, q6⟩ := hQ'
  have ne0 : ∀ z : Int32, z = 1 → z ≠ 0 := fun z h => by rw [h]; decide
  have hlv := q5 dn (Nat.le_refl _) (by omega)
  have hk : k < L := by
    rw [← p8, ← q6]
    exact cnt_lt (by omega) (ne0 _ hlv)
  have hPX := p9 dn (by omega) hlv
  rw [q6] at hPX
  obtain ⟨w, D, r, hw, hr, hpw, eH, eG, hL, hT⟩ := PX_data hPX
  have hRF := hG.1 (w / 8) (by omega)
  have hc : sN (mh_field g (w / 8)) < 127 := by have := hRF.2.2.2; omega
  have hf : mh_field g (w / 8) = nI (sN (mh_field g (w / 8))) := hRF.2.1
  have hfx : xh_signs h (w / 8) = nI (sN (mh_field g (w / 8))) := hRF.1.trans hf
  generalize sN (mh_field g (w / 8)) = c at hc hf hfx
  have h9 := fun m => L9_eq (F := F) (m := m) hdn q4 (show k < 4 by omega) (p5 k (by omega)) hw hpw hfx
  by_cases ha : w % 2 = 0 ∧ ac c
  · have hO := sign_act (L := L) (V := V) hFu (show dn < 8 by omega) hG hw hr eH (by rw [ha.1] at eG; exact eG) hL hT hf ha.1 ha.2 p4 p2 p8 p1 p3 (by omega) (fun h4 => ⟨by omega, p5 L h4, fun he => by have := p6 _ _ (by omega) h4 he; omega⟩)
    refine one_fin (by omega) hG hS hP hQ hdn hw hr ha.1 hL hT hO (fun m => ?_)
    rw [h9, if_neg (fun hz => (xx_isAct hw hc).mp hz ha)]
  · have hO := sign_pass (F := F) (L := L) (V := V) (show dn < 8 by omega) hG hw hr eH eG hL hT hc hf ha
    have hO2 : OUT F h g (xh_ptrs h k) dn L V w D r (w % 2) (xf_Run_pass (xh_ptrs h k) (nI c) h) := by
      rcases hO with h1 | h1
      · exact Or.inl ⟨h, g, 2, Or.inl rfl, by rw [eH]; exact h1.1, by rw [eG]; exact h1.2, hG, FX_r h, FM_r g⟩
      · exact Or.inr (Or.inl ⟨g, h1.1, rfl, OP_OA h1.2⟩)
    refine one_fin (by omega) hG hS hP hQ hdn hw hr rfl hL hT hO2 (fun m => ?_)
    rw [h9, if_pos ((xx_isAct hw hc).mpr ha)]
