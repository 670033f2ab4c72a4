/-! in the midst of a step -/
theorem cnt_s {f : Nat → Int32} {x : Nat} : cnt f (x + 1) = cnt f x + (if f x = 0 then 0 else 1) := rfl
theorem cnt_mono {f : Nat → Int32} {x : Nat} : ∀ {y : Nat}, x ≤ y → cnt f x ≤ cnt f y := by
  intro y
  induction y with
  | zero => intro h; rw [show x = 0 by omega]; exact Nat.le_refl _
  | succ y ih =>
    intro h
    by_cases h1 : x = y + 1
    · rw [h1]; exact Nat.le_refl _
    · have := ih (by omega)
      rw [cnt_s]
      omega
theorem cnt_lt {f : Nat → Int32} {x y : Nat} (h : x < y) (hx : f x ≠ 0) : cnt f x < cnt f y := by
  have h1 : cnt f (x + 1) ≤ cnt f y := cnt_mono h
  rw [cnt_s, if_neg hx] at h1
  omega
theorem cnt_ext {f f' : Nat → Int32} : ∀ {x : Nat}, (∀ y, y < x → f' y = f y) → cnt f' x = cnt f x
  | 0, _ => rfl
  | x + 1, h => by
    rw [cnt_s, cnt_s, cnt_ext (fun y hy => h y (by omega)), h x (by omega)]
def PX (h : XH) (g : MH) (K x : Nat) : Prop := PR (xh_pway h K) (xh_pdepth h K) (xh_pret h K) (xh_pnums h K) (xh_prets h K) (mh_place g x) (mh_direction g x) (mh_quoted g x) (mh_sizes g x) (mh_returns g x) (fun j => mh_stacks g (24 * x + j)) (fun j => mh_back g (8 * x + j))
def PM0 (h : XH) (g : MH) (L V : Nat) : Prop :=
  xh_living h = nI L ∧ mh_vpointers g = nI V ∧ L ≤ 4 ∧ V ≤ 8 ∧ (∀ i, i < 4 → xh_ptrs h i < 4) ∧ (∀ i j, i < 4 → j < 4 → xh_ptrs h i = xh_ptrs h j → i = j) ∧ (∀ x, x < V → mh_lives g x = 0 ∨ mh_lives g x = 1) ∧ cnt (mh_lives g) V = L ∧ ∀ x, x < V → mh_lives g x = 1 → PX h g (xh_ptrs h (cnt (mh_lives g) x)) x
def PMx (g : MH) (n0 dn k V : Nat) : Prop := n0 ≤ V ∧ V ≤ n0 + dn ∧ dn ≤ n0 ∧ n0 ≤ 4 ∧ (∀ x, dn ≤ x → x < V → mh_lives g x = 1) ∧ cnt (mh_lives g) dn = k
def SS (h : XH) (g : MH) : Prop := xh_stopped h = 0 ∧ mh_vstopped g = 0 ∧ xh_steps h = mh_vsteps g ∧ mh_vfault g = 0
def Mid (h : XH) (g : MH) (n0 dn k : Nat) : Prop := GL h g ∧ SS h g ∧ ∃ L V, PM0 h g L V ∧ PMx g n0 dn k V
theorem PX_frame {h h1 : XH} {g g1 : MH} {K i K2 x : Nat} {w d r : Int32} {n : Nat → Int64} {s : Nat → Int32} {pl di qu si re : Int32} {st : Nat → Int64} {ba : Nat → Int32} (hX : FX h h1) (hM : FM g g1) (hst : ∀ j, j < 24 → st (24 * x + j) = mh_stacks g (24 * x + j)) (hba : ∀ j, j < 8 → ba (8 * x + j) = mh_back g (8 * x + j)) (hK : K2 ≠ K) (hx : x ≠ i) (hP : PX h g K2 x) : PX (UX h1 K w d r n s) (UM g1 i pl di qu si re st ba) K2 x := by
  obtain ⟨-, -, x3, x4, x5, x6, x7, -, -⟩ := hX
  obtain ⟨-, -, -, -, -, y6, y7, y8, y9, y10⟩ := hM
  unfold PX at hP ⊢
  simp only [UX_get, UM_get]
  rw [up_ne hK, up_ne hK, up_ne hK, up_ne hK, up_ne hK, up_ne hx, up_ne hx, up_ne hx, up_ne hx, up_ne hx, x3, x4, x5, x6, x7, y6, y7, y8, y9, y10]
  obtain ⟨w', d', r', a1, a2, a3, a4, a5, a6, a7, a8, a9, a10, a11, a12, a13⟩ := hP
  refine ⟨w', d', r', a1, a2, a3, a4, a5, a6, a7, a8, a9, fun j hj => ?_, a11, a12, fun j hj => ?_⟩
  · show _ = st (24 * x + j)
    rw [hst j (by omega)]
    exact a10 j hj
  · obtain ⟨v, b1, b2, b3, b4⟩ := a13 j hj
    exact ⟨v, b1, b2, b3, by show ba (8 * x + j) = _; rw [hba j (by omega)]; exact b4⟩
theorem PX_own {h1 : XH} {g1 : MH} {K i w D r : Nat} {n : Nat → Int64} {s : Nat → Int32} {st st0 : Nat → Int64} {ba ba0 : Nat → Int32} (hw : w < 768) (hr : r ≤ 8) (hL : LK i D n st st0) (hT : RT i r s ba ba0) : PX (UX h1 K (nI w) (nI D) (nI r) n s) (UM g1 i (nI (w / 8)) (nI (w / 2 % 4)) (nI (w % 2)) (nI D) (nI r) st ba) K i := by
  unfold PX
  simp only [UX_get, UM_get]
  rw [up_eq, up_eq, up_eq, up_eq, up_eq, up_eq, up_eq, up_eq, up_eq, up_eq]
  exact ⟨w, D, r, hw, hL.1, hr, rfl, rfl, rfl, rfl, rfl, rfl, hL.2.1, rfl, rfl, hT.1⟩
theorem GL_U {h1 : XH} {g1 : MH} {K i : Nat} {w d r : Int32} {n : Nat → Int64} {s : Nat → Int32} {pl di qu si re : Int32} {st : Nat → Int64} {ba : Nat → Int32} (hG : GL h1 g1) : GL (UX h1 K w d r n s) (UM g1 i pl di qu si re st ba) := by
  unfold GL at hG ⊢
  simp only [UX_get, UM_get]
  exact hG
theorem SS_U {h h1 : XH} {g g1 : MH} {K i : Nat} {w d r : Int32} {n : Nat → Int64} {s : Nat → Int32} {pl di qu si re : Int32} {st : Nat → Int64} {ba : Nat → Int32} (hS : SS h g) (hX : FX h h1) (hM : FM g g1) : SS (UX h1 K w d r n s) (UM g1 i pl di qu si re st ba) := by
  obtain ⟨-, -, -, -, -, -, -, x8, x9⟩ := hX
  obtain ⟨y1, -, y3, y4, -⟩ := hM
  unfold SS at hS ⊢
  simp only [UX_get, UM_get]
  rw [x8, x9, y1, y3, y4]
  exact hS
theorem st_out {x i : Nat} {st st0 : Nat → Int64} (h : ∀ y, y < 24 * i ∨ 24 * i + 24 ≤ y → st y = st0 y) (hx : x ≠ i) : ∀ j, j < 24 → st (24 * x + j) = st0 (24 * x + j) := fun j hj => h _ (by omega)
theorem ba_out {x i : Nat} {st st0 : Nat → Int32} (h : ∀ y, y < 8 * i ∨ 8 * i + 8 ≤ y → st y = st0 y) (hx : x ≠ i) : ∀ j, j < 8 → st (8 * x + j) = st0 (8 * x + j) := fun j hj => h _ (by omega)
theorem PM0_A {h h1 : XH} {g g1 : MH} {L V i w D r : Nat} {n : Nat → Int64} {s : Nat → Int32} {st : Nat → Int64} {ba : Nat → Int32} (hP : PM0 h g L V) (hi : i < V) (hl : mh_lives g i = 1) (hX : FX h h1) (hM : FM g g1) (hw : w < 768) (hr : r ≤ 8) (hL : LK i D n st (mh_stacks g)) (hT : RT i r s ba (mh_back g)) : PM0 (UX h1 (xh_ptrs h (cnt (mh_lives g) i)) (nI w) (nI D) (nI r) n s) (UM g1 i (nI (w / 8)) (nI (w / 2 % 4)) (nI (w % 2)) (nI D) (nI r) st ba) L V := by
  obtain ⟨p1, p2, p3, p4, p5, p6, p7, p8, p9⟩ := hP
  have hX' := hX
  have hM' := hM
  obtain ⟨x1, x2, -⟩ := hX'
  obtain ⟨-, y2, -, -, y5, -⟩ := hM'
  have e1 : xh_living (UX h1 (xh_ptrs h (cnt (mh_lives g) i)) (nI w) (nI D) (nI r) n s) = xh_living h := by simp only [UX_get]; exact x1
  have e2 : xh_ptrs (UX h1 (xh_ptrs h (cnt (mh_lives g) i)) (nI w) (nI D) (nI r) n s) = xh_ptrs h := by simp only [UX_get]; exact x2
  have e3 : mh_vpointers (UM g1 i (nI (w / 8)) (nI (w / 2 % 4)) (nI (w % 2)) (nI D) (nI r) st ba) = mh_vpointers g := by simp only [UM_get]; exact y2
  have e4 : mh_lives (UM g1 i (nI (w / 8)) (nI (w / 2 % 4)) (nI (w % 2)) (nI D) (nI r) st ba) = mh_lives g := by simp only [UM_get]; exact y5
  unfold PM0
  rw [e1, e2, e3, e4]
  refine ⟨p1, p2, p3, p4, p5, p6, p7, p8, fun x hx hlx => ?_⟩
  by_cases hxi : x = i
  · subst hxi
    exact PX_own hw hr hL hT
  · have ne0 : ∀ z : Int32, z = 1 → z ≠ 0 := fun z h => by rw [h]; decide
    have hcx : cnt (mh_lives g) x < L := by rw [← p8]; exact cnt_lt hx (ne0 _ hlx)
    have hci : cnt (mh_lives g) i < L := by rw [← p8]; exact cnt_lt hi (ne0 _ hl)
    refine PX_frame hX hM (st_out hL.2.2 hxi) (ba_out hT.2 hxi) (fun hk => ?_) hxi (p9 x hx hlx)
    have h9 := p6 _ _ (by omega) (by omega) hk
    rcases Nat.lt_or_gt_of_ne hxi with h8 | h8
    · have := cnt_lt (f := mh_lives g) h8 (ne0 _ hlx); omega
    · have := cnt_lt (f := mh_lives g) h8 (ne0 _ hl); omega
theorem Mid_A {h h1 : XH} {g g1 : MH} {n0 dn k w D r : Nat} {n : Nat → Int64} {s : Nat → Int32} {st : Nat → Int64} {ba : Nat → Int32} (hm : Mid h g n0 dn k) (hdn : dn < n0) (hG : GL h1 g1) (hX : FX h h1) (hM : FM g g1) (hw : w < 768) (hr : r ≤ 8) (hL : LK dn D n st (mh_stacks g)) (hT : RT dn r s ba (mh_back g)) : Mid (UX h1 (xh_ptrs h k) (nI w) (nI D) (nI r) n s) (UM g1 dn (nI (w / 8)) (nI (w / 2 % 4)) (nI (w % 2)) (nI D) (nI r) st ba) n0 (dn + 1) (k + 1) := by
  obtain ⟨_, hS, L, V, hP, q1, q2, q3, q4, q5, q6⟩ := hm
  subst q6
  have hlv := q5 dn (Nat.le_refl _) (by omega)
  refine ⟨GL_U hG, SS_U hS hX hM, L, V, PM0_A hP (by omega) hlv hX hM hw hr hL hT, ?_⟩
  have e4 : mh_lives (UM g1 dn (nI (w / 8)) (nI (w / 2 % 4)) (nI (w % 2)) (nI D) (nI r) st ba) = mh_lives g := by
    simp only [UM_get]
    exact hM.2.2.2.2.1
  unfold PMx
  rw [e4]
  refine ⟨q1, by omega, by omega, q4, fun x h1 h2 => q5 x (by omega) h2, ?_⟩
  rw [cnt_s, hlv, if_neg (by decide)]
