/-! all pointers of a step, the dead buried -/
theorem nar_b {v : Int32} (h : v = 0 ∨ v = 1) : vp_nar .boolean v = v := by rcases h with h | h <;> rw [h] <;> rfl
theorem cp_back {F : Nat} {g0 : MH} {x c : Nat} {pl di qu si re : Int32} {st : Nat → Int64} {ba0 : Nat → Int32} (hx : x < 8) (hc : c ≤ x) : ∀ (r j : Nat), j + r = 8 → ∀ ba, (∀ t, t < j → ba (8 * c + t) = ba0 (8 * x + t)) → (∀ t, j ≤ t → t < 8 → ba (8 * x + t) = ba0 (8 * x + t)) → (∀ y, y < 8 * c ∨ 8 * c + 8 ≤ y → ba y = ba0 y) → ∀ m, r < m → ∃ ba', mf_M_copyPointer_L110 F m (nI x) (nI c) (nI j) (UM g0 c pl di qu si re st ba) = some (UM g0 c pl di qu si re st ba') ∧ (∀ t, t < 8 → ba' (8 * c + t) = ba0 (8 * x + t)) ∧ (∀ y, y < 8 * c ∨ 8 * c + 8 ≤ y → ba' y = ba0 y) := by
  intro r
  induction r with
  | zero =>
    intro j hj ba h1 h2 h3 m hm
    obtain ⟨m, rfl⟩ : ∃ q, m = q + 1 := ⟨m - 1, by omega⟩
    refine ⟨ba, ?_, fun t ht => h1 t (by omega), h3⟩
    rw [mf_M_copyPointer_L110, if_pos (show (8 : Int32) ≤ nI j by rw [li_8, nql (by omega) (by omega)]; omega)]
  | succ r ih =>
    intro j hj ba h1 h2 h3 m hm
    obtain ⟨m, rfl⟩ : ∃ q, m = q + 1 := ⟨m - 1, by omega⟩
    rw [mf_M_copyPointer_L110, if_neg (show ¬ (8 : Int32) ≤ nI j by rw [li_8, nql (by omega) (by omega)]; omega), li_8, pk_mul, nI_add, gd_nI (show 8 * x + j < 64 by omega) (by omega), Option.bind_some, pk_mul, nI_add, gd_nI (show 8 * c + j < 64 by omega) (by omega), Option.bind_some, UM_back, UM_s_back, Option.bind_some, nI_1]
    refine ih (j + 1) (by omega) _ (fun t ht => ?_) (fun t h4 h5 => ?_) (fun y hy => ?_) m (by omega)
    · by_cases h6 : t = j
      · rw [h6, up_eq]; exact h2 j (Nat.le_refl _) (by omega)
      · rw [up_ne (by omega)]; exact h1 t (by omega)
    · rw [up_ne (by omega)]; exact h2 t (by omega) h5
    · rw [up_ne (by omega)]; exact h3 y hy
theorem cp_stack {F : Nat} {g0 : MH} {x c : Nat} {pl di qu si re : Int32} {st0 : Nat → Int64} {ba0 : Nat → Int32} (hF : 30 < F) (hx : x < 8) (hc : c ≤ x) : ∀ (r j : Nat), j + r = 24 → ∀ st, (∀ t, t < j → st (24 * c + t) = st0 (24 * x + t)) → (∀ t, j ≤ t → t < 24 → st (24 * x + t) = st0 (24 * x + t)) → (∀ y, y < 24 * c ∨ 24 * c + 24 ≤ y → st y = st0 y) → ∀ m, r < m → ∃ st' ba', mf_M_copyPointer_L74 F m (nI x) (nI c) (nI j) (UM g0 c pl di qu si re st ba0) = some (UM g0 c pl di qu si re st' ba') ∧ (∀ t, t < 24 → st' (24 * c + t) = st0 (24 * x + t)) ∧ (∀ y, y < 24 * c ∨ 24 * c + 24 ≤ y → st' y = st0 y) ∧ (∀ t, t < 8 → ba' (8 * c + t) = ba0 (8 * x + t)) ∧ (∀ y, y < 8 * c ∨ 8 * c + 8 ≤ y → ba' y = ba0 y) := by
  intro r
  induction r with
  | zero =>
    intro j hj st h1 h2 h3 m hm
    obtain ⟨m, rfl⟩ : ∃ q, m = q + 1 := ⟨m - 1, by omega⟩
    obtain ⟨ba', e, k1, k2⟩ := cp_back (F := F) (g0 := g0) (pl := pl) (di := di) (qu := qu) (si := si) (re := re) (st := st) (ba0 := ba0) hx hc 8 0 (by omega) ba0 (fun t ht => absurd ht (by omega)) (fun _ _ _ => rfl) (fun _ _ => rfl) F (by omega)
    refine ⟨st, ba', ?_, fun t ht => h1 t (by omega), h3, k1, k2⟩
    rw [mf_M_copyPointer_L74, if_pos (show (24 : Int32) ≤ nI j by rw [li_24, nql (by omega) (by omega)]; omega)]
    exact e
  | succ r ih =>
    intro j hj st h1 h2 h3 m hm
    obtain ⟨m, rfl⟩ : ∃ q, m = q + 1 := ⟨m - 1, by omega⟩
    rw [mf_M_copyPointer_L74, if_neg (show ¬ (24 : Int32) ≤ nI j by rw [li_24, nql (by omega) (by omega)]; omega), li_24, pk_mul, nI_add, gd_nI (show 24 * x + j < 192 by omega) (by omega), Option.bind_some, pk_mul, nI_add, gd_nI (show 24 * c + j < 192 by omega) (by omega), Option.bind_some, UM_stacks, UM_s_stacks, Option.bind_some, nI_1]
    refine ih (j + 1) (by omega) _ (fun t ht => ?_) (fun t h4 h5 => ?_) (fun y hy => ?_) m (by omega)
    · by_cases h6 : t = j
      · rw [h6, up_eq]; exact h2 j (Nat.le_refl _) (by omega)
      · rw [up_ne (by omega)]; exact h1 t (by omega)
    · rw [up_ne (by omega)]; exact h2 t (by omega) h5
    · rw [up_ne (by omega)]; exact h3 y hy
theorem cp_head {F : Nat} {G : MH} {x c : Nat} (hx : x < 8) (hc : c < 8) (hq : mh_quoted G x = 0 ∨ mh_quoted G x = 1) : ((gd 8 (nI x)).bind fun j4 => (gd 8 (nI c)).bind fun j5 => (some (ms_place G j5 (mh_place G j4))).bind fun g6 => (gd 8 (nI x)).bind fun j7 => (gd 8 (nI c)).bind fun j8 => (some (ms_direction g6 j8 (mh_direction g6 j7))).bind fun g9 => (gd 8 (nI x)).bind fun j10 => (gd 8 (nI c)).bind fun j11 => (some (ms_quoted g9 j11 (vp_nar .boolean (mh_quoted g9 j10)))).bind fun g12 => (gd 8 (nI x)).bind fun j13 => (gd 8 (nI c)).bind fun j14 => (some (ms_sizes g12 j14 (mh_sizes g12 j13))).bind fun g15 => (gd 8 (nI x)).bind fun j16 => (gd 8 (nI c)).bind fun j17 => (some (ms_returns g15 j17 (mh_returns g15 j16))).bind fun g18 => mf_M_copyPointer_L74 F F (nI x) (nI c) (0 : Int32) g18) = mf_M_copyPointer_L74 F F (nI x) (nI c) (0 : Int32) (UM G c (mh_place G x) (mh_direction G x) (mh_quoted G x) (mh_sizes G x) (mh_returns G x) (mh_stacks G) (mh_back G)) := by
  have e1 := UM_s_place (g := G) (i := c) (pl := mh_place G c) (di := mh_direction G c) (qu := mh_quoted G c) (si := mh_sizes G c) (re := mh_returns G c) (st := mh_stacks G) (ba := mh_back G) (v := mh_place G x)
  rw [UM_id] at e1
  have d1 : ∀ a b e f, mh_direction (UM G c a (mh_direction G c) b e f (mh_stacks G) (mh_back G)) x = mh_direction G x := by intro a b e f; simp only [UM_get]; rw [up_id]
  have d2 : ∀ a b e f, mh_quoted (UM G c a b (mh_quoted G c) e f (mh_stacks G) (mh_back G)) x = mh_quoted G x := by intro a b e f; simp only [UM_get]; rw [up_id]
  have d3 : ∀ a b e f, mh_sizes (UM G c a b e (mh_sizes G c) f (mh_stacks G) (mh_back G)) x = mh_sizes G x := by intro a b e f; simp only [UM_get]; rw [up_id]
  have d4 : ∀ a b e f, mh_returns (UM G c a b e f (mh_returns G c) (mh_stacks G) (mh_back G)) x = mh_returns G x := by intro a b e f; simp only [UM_get]; rw [up_id]
  rw [gd_nI hx (by omega), gd_nI hc (by omega), Option.bind_some, Option.bind_some, Option.bind_some, e1, Option.bind_some, Option.bind_some, Option.bind_some, d1, UM_s_direction, Option.bind_some, Option.bind_some, Option.bind_some, d2, nar_b hq, UM_s_quoted, Option.bind_some, Option.bind_some, Option.bind_some, d3, UM_s_sizes, Option.bind_some, Option.bind_some, Option.bind_some, d4, UM_s_returns]
theorem copy_ok {F : Nat} {g : MH} {x c : Nat} (hF : 30 < F) (hx : x < 8) (hc : c ≤ x) (hl : mh_lives g x = 0 ∨ mh_lives g x = 1) (hq : mh_quoted g x = 0 ∨ mh_quoted g x = 1) : ∃ st ba, mf_M_copyPointer F (nI x) (nI c) g = some (UM (ms_lives g c (mh_lives g x)) c (mh_place g x) (mh_direction g x) (mh_quoted g x) (mh_sizes g x) (mh_returns g x) st ba) ∧ (∀ t, t < 24 → st (24 * c + t) = mh_stacks g (24 * x + t)) ∧ (∀ y, y < 24 * c ∨ 24 * c + 24 ≤ y → st y = mh_stacks g y) ∧ (∀ t, t < 8 → ba (8 * c + t) = mh_back g (8 * x + t)) ∧ (∀ y, y < 8 * c ∨ 8 * c + 8 ≤ y → ba y = mh_back g y) := by
  have h0 := cp_head (F := F) (G := ms_lives g c (mh_lives g x)) (x := x) (c := c) hx (by omega) (by simp only [gm_lives]; exact hq)
  obtain ⟨st, ba, e, k⟩ := cp_stack (F := F) (g0 := ms_lives g c (mh_lives g x)) (pl := mh_place (ms_lives g c (mh_lives g x)) x) (di := mh_direction (ms_lives g c (mh_lives g x)) x) (qu := mh_quoted (ms_lives g c (mh_lives g x)) x) (si := mh_sizes (ms_lives g c (mh_lives g x)) x) (re := mh_returns (ms_lives g c (mh_lives g x)) x) (st0 := mh_stacks (ms_lives g c (mh_lives g x))) (ba0 := mh_back (ms_lives g c (mh_lives g x))) hF hx hc 24 0 (by omega) (mh_stacks (ms_lives g c (mh_lives g x))) (fun t ht => absurd ht (by omega)) (fun _ _ _ => rfl) (fun _ _ => rfl) F (by omega)
  refine ⟨st, ba, ?_, ?_⟩
  · unfold mf_M_copyPointer
    rw [gd_nI hx (by omega), gd_nI (show c < 8 by omega) (by omega)] at h0 ⊢
    rw [Option.bind_some, Option.bind_some, nar_b hl, Option.bind_some, h0]
    rw [li_0, e]
    simp only [gm_lives]
  · simp only [gm_lives] at k
    exact k
def FB (g0 g : MH) : Prop := (∀ h, GL h g0 → GL h g) ∧ mh_vstopped g = mh_vstopped g0 ∧ mh_vsteps g = mh_vsteps g0 ∧ mh_vfault g = mh_vfault g0 ∧ mh_field g = mh_field g0
def BI (h : XH) (g0 : MH) (lv : Nat → Int32) (V x : Nat) (g : MH) : Prop := FB g0 g ∧ mh_vpointers g = nI V ∧ (∀ c, c < cnt lv x → mh_lives g c = 1 ∧ PX h g (xh_ptrs h c) c) ∧ ∀ y, x ≤ y → y < V → mh_lives g y = lv y ∧ (lv y = 1 → PX h g (xh_ptrs h (cnt lv y)) y)
theorem PX_copy {h : XH} {g : MH} {K x c : Nat} {v : Int32} {st : Nat → Int64} {ba : Nat → Int32} (hP : PX h g K x) (h1 : ∀ t, t < 24 → st (24 * c + t) = mh_stacks g (24 * x + t)) (h2 : ∀ t, t < 8 → ba (8 * c + t) = mh_back g (8 * x + t)) : PX h (UM (ms_lives g c v) c (mh_place g x) (mh_direction g x) (mh_quoted g x) (mh_sizes g x) (mh_returns g x) st ba) K c := by
  unfold PX at *
  simp only [UM_get]
  rw [up_eq, up_eq, up_eq, up_eq, up_eq]
  obtain ⟨w', d', r', a1, a2, a3, a4, a5, a6, a7, a8, a9, a10, a11, a12, a13⟩ := hP
  refine ⟨w', d', r', a1, a2, a3, a4, a5, a6, a7, a8, a9, fun j hj => ?_, a11, a12, fun j hj => ?_⟩
  · show _ = st (24 * c + j)
    rw [h1 j (by omega)]
    exact a10 j hj
  · obtain ⟨v, b1, b2, b3, b4⟩ := a13 j hj
    exact ⟨v, b1, b2, b3, by show ba (8 * c + j) = _; rw [h2 j (by omega)]; exact b4⟩
theorem PX_keep {h : XH} {g : MH} {K y c : Nat} {v pl di qu si re : Int32} {st : Nat → Int64} {ba : Nat → Int32} (hP : PX h g K y) (hy : y ≠ c) (h1 : ∀ z, z < 24 * c ∨ 24 * c + 24 ≤ z → st z = mh_stacks g z) (h2 : ∀ z, z < 8 * c ∨ 8 * c + 8 ≤ z → ba z = mh_back g z) : PX h (UM (ms_lives g c v) c pl di qu si re st ba) K y := by
  unfold PX at *
  simp only [UM_get, gm_lives]
  rw [up_ne hy, up_ne hy, up_ne hy, up_ne hy, up_ne hy]
  obtain ⟨w', d', r', a1, a2, a3, a4, a5, a6, a7, a8, a9, a10, a11, a12, a13⟩ := hP
  refine ⟨w', d', r', a1, a2, a3, a4, a5, a6, a7, a8, a9, fun j hj => ?_, a11, a12, fun j hj => ?_⟩
  · show _ = st (24 * y + j)
    rw [h1 _ (by omega)]
    exact a10 j hj
  · obtain ⟨v, b1, b2, b3, b4⟩ := a13 j hj
    exact ⟨v, b1, b2, b3, by show ba (8 * y + j) = _; rw [h2 _ (by omega)]; exact b4⟩
theorem FB_U {g0 g : MH} {c : Nat} {v pl di qu si re : Int32} {st : Nat → Int64} {ba : Nat → Int32} (hB : FB g0 g) : FB g0 (UM (ms_lives g c v) c pl di qu si re st ba) := by
  obtain ⟨b1, b2⟩ := hB
  refine ⟨fun h hG => ?_, ?_⟩
  · have := b1 h hG
    unfold GL at this ⊢
    simp only [UM_get, gm_lives]
    exact this
  · simp only [UM_get, gm_lives]
    exact b2
theorem bury_L {F : Nat} {h : XH} {g0 : MH} {lv : Nat → Int32} {V : Nat} (hF : 40 < F) (hV : V ≤ 8) (hlv : ∀ x, x < V → lv x = 0 ∨ lv x = 1) : ∀ (r x : Nat), x + r = V → ∀ g, BI h g0 lv V x g → ∀ m, r < m → ∃ g', mf_M_bury_L4 F m (nI (cnt lv x)) (nI x) g = some g' ∧ FB g0 g' ∧ mh_vpointers g' = nI (cnt lv V) ∧ ∀ c, c < cnt lv V → mh_lives g' c = 1 ∧ PX h g' (xh_ptrs h c) c := by
  intro r
  induction r with
  | zero =>
    intro x hx g hI m hm
    obtain ⟨m, rfl⟩ : ∃ q, m = q + 1 := ⟨m - 1, by omega⟩
    obtain ⟨i1, i2, i3, i4⟩ := hI
    have ex : x = V := by omega
    subst ex
    refine ⟨ms_vpointers g (nI (cnt lv x)), ?_, ?_, rfl, fun c hc => ?_⟩
    · rw [mf_M_bury_L4, i2, if_pos (by rw [nql (by omega) (by omega)]; omega), Option.bind_some]
    · obtain ⟨b1, b2⟩ := i1
      refine ⟨fun h hG => ?_, ?_⟩
      · have := b1 h hG
        unfold GL at this ⊢
        simp only [gm_vpointers]
        exact this
      · simp only [gm_vpointers]
        exact b2
    · have := i3 c hc
      unfold PX at this ⊢
      simp only [gm_vpointers]
      exact this
  | succ r ih =>
    intro x hx g hI m hm
    obtain ⟨m, rfl⟩ : ∃ q, m = q + 1 := ⟨m - 1, by omega⟩
    obtain ⟨i1, i2, i3, i4⟩ := hI
    obtain ⟨j1, j2⟩ := i4 x (Nat.le_refl _) (by omega)
    have hcl := cnt_le lv x
    rw [mf_M_bury_L4, i2, if_neg (by rw [nql (by omega) (by omega)]; omega), gd_nI (show x < 8 by omega) (by omega), Option.bind_some, j1]
    unfold mf_M_bury_J30
    rcases hlv x (by omega) with h0 | h0
    · rw [if_pos h0, nI_1]
      have e : cnt lv (x + 1) = cnt lv x := by rw [cnt_s, if_pos h0]; rfl
      rw [← e]
      refine ih (x + 1) (by omega) g ⟨i1, i2, fun c hc => i3 c (by rw [e] at hc; exact hc), fun y hy hyV => i4 y (by omega) hyV⟩ m (by omega)
    · have n0 : lv x ≠ 0 := by rw [h0]; decide
      rw [if_neg n0, nI_1, nI_1]
      have e : cnt lv (x + 1) = cnt lv x + 1 := by rw [cnt_s, if_neg n0]
      rw [← e]
      have hPx := j2 h0
      have hqx : mh_quoted g x = 0 ∨ mh_quoted g x = 1 := by
        obtain ⟨w', d', r', a1, a2, a3, a4, a5, a6, a7, a8⟩ := hPx
        rw [a7]
        rcases Nat.mod_two_eq_zero_or_one w' with h | h <;> rw [h]
        · left; rfl
        · right; rfl
      obtain ⟨st, ba, e2, s1, s2, s3, s4⟩ := copy_ok (F := F) (g := g) (x := x) (c := cnt lv x) (by omega) (by omega) hcl (by rw [j1]; exact hlv x (by omega)) hqx
      rw [e2, Option.bind_some]
      refine ih (x + 1) (by omega) _ ⟨FB_U i1, by simp only [UM_get, gm_lives]; exact i2, fun c hc => ?_, fun y hy hyV => ?_⟩ m (by omega)
      · by_cases h7 : c = cnt lv x
        · rw [h7]
          refine ⟨?_, PX_copy hPx s1 s3⟩
          simp only [UM_get, gm_lives]
          rw [up_eq, j1, h0]
        · have := i3 c (by omega)
          refine ⟨?_, PX_keep this.2 h7 s2 s4⟩
          simp only [UM_get, gm_lives]
          rw [up_ne h7]
          exact this.1
      · obtain ⟨j3, j4⟩ := i4 y (by omega) hyV
        refine ⟨?_, fun h8 => PX_keep (j4 h8) (by omega) s2 s4⟩
        simp only [UM_get, gm_lives]
        rw [up_ne (by omega)]
        exact j3
theorem bury_ok {F : Nat} {h : XH} {g : MH} {L V : Nat} (hF : 40 < F) (hP : PM0 h g L V) : ∃ g', mf_M_bury F g = some g' ∧ FB g g' ∧ RP (xh_living h) (xh_ptrs h) (xh_pway h) (xh_pdepth h) (xh_pret h) (xh_pnums h) (xh_prets h) (mh_vpointers g') (mh_lives g') (mh_place g') (mh_direction g') (mh_quoted g') (mh_sizes g') (mh_returns g') (mh_stacks g') (mh_back g') := by
  obtain ⟨p1, p2, p3, p4, p5, p6, p7, p8, p9⟩ := hP
  obtain ⟨g', e, b1, b2, b3⟩ := bury_L (F := F) (h := h) (g0 := g) (lv := mh_lives g) hF p4 p7 V 0 (by omega) g ⟨⟨fun _ h => h, rfl, rfl, rfl, rfl⟩, p2, fun c hc => absurd hc (Nat.not_lt_zero c), fun y _ hy => ⟨rfl, fun h => p9 y hy h⟩⟩ F (by omega)
  rw [p8] at b2 b3
  exact ⟨g', e, b1, L, p3, p1, b2, p5, p6, b3⟩
theorem J46_ok {F : Nat} {h : XH} {g : MH} (hF : 40 < F) (hS : FinS h g) : ∃ g', mf_M_stepAll_J46 F g = some g' ∧ Rel (if mh_vstopped g = 0 then xs_steps h (xh_steps h + 1) else h) g' ∧ mh_vfault g' = 0 := by
  obtain ⟨hG, ⟨r1, r2, r3⟩, hf, L, V, hP⟩ := hS
  obtain ⟨g1, e, ⟨b1, b2, b3, b4, b5⟩, hR⟩ := bury_ok hF hP
  obtain ⟨g2, g3, g4, g5, g6, g7⟩ := b1 h hG
  unfold mf_M_stepAll_J46
  rw [e, Option.bind_some, b2, b3]
  by_cases h0 : mh_vstopped g = 0
  · rw [if_pos h0, if_pos h0, Option.bind_some]
    refine ⟨_, rfl, ?_, ?_⟩
    · unfold Rel
      simp only [gx_steps, gm_vsteps]
      refine ⟨g2, g3, g4, g5, g6, ⟨?_, r2, ?_⟩, hR, g7⟩
      · rw [b2]; exact r1
      · rw [r3]
    · simp only [gm_vsteps]
      rw [b4]; exact hf
  · rw [if_neg h0, if_neg h0, Option.bind_some]
    refine ⟨_, rfl, ?_, ?_⟩
    · unfold Rel
      simp only [gm_vsteps]
      refine ⟨g2, g3, g4, g5, g6, ⟨?_, r2, ?_⟩, hR, g7⟩
      · rw [b2]; exact r1
      · rw [r3]
    · simp only [gm_vsteps]
      rw [b4]; exact hf
theorem adv_L {F n0 : Nat} (hFu : 96 < F) : ∀ (r dn k : Nat) (h : XH) (g : MH), dn + r = n0 → Mid h g n0 dn k → ∀ m m', r < m → r < m' → ∃ h1 g1, FinS h1 g1 ∧ mf_M_stepAll_L7 F m' (nI n0) (nI dn) g = mf_M_stepAll_J46 F g1 ∧ xf_Run_advance_L9 F m (nI n0) (nI k) (nI dn) h = some (if mh_vstopped g1 = 0 then xs_steps h1 (xh_steps h1 + 1) else h1) := by
  intro r
  induction r with
  | zero =>
    intro dn k h g hr hm m m' h1 h2
    obtain ⟨m, rfl⟩ : ∃ q, m = q + 1 := ⟨m - 1, by omega⟩
    obtain ⟨m', rfl⟩ : ∃ q, m' = q + 1 := ⟨m' - 1, by omega⟩
    obtain ⟨hG, ⟨s1, s2, s3, s4⟩, L, V, hP, hQ⟩ := hm
    have hn4 := hQ.2.2.2.1
    refine ⟨h, g, ⟨hG, ⟨s1.trans s2.symm, Or.inl s1, s3⟩, s4, L, V, hP⟩, ?_, ?_⟩
    · rw [mf_M_stepAll_L7, if_pos (by rw [nql (by omega) (by omega)]; omega)]
    · rw [xf_Run_advance_L9, if_pos (by rw [nql (by omega) (by omega)]; omega), Option.bind_some, if_pos s2]
  | succ r ih =>
    intro dn k h g hr hm m m' h1 h2
    obtain ⟨m, rfl⟩ : ∃ q, m = q + 1 := ⟨m - 1, by omega⟩
    obtain ⟨m', rfl⟩ : ∃ q, m' = q + 1 := ⟨m' - 1, by omega⟩
    rcases one_ok hFu hm (by omega) with ⟨h', g', k', a1, a2, a3⟩ | ⟨h', g', a1, a2, a3, a4⟩
    · rw [a2, a3]
      exact ih (dn + 1) k' h' g' (by omega) a1 m m' (by omega) (by omega)
    · refine ⟨h', g', a1, ?_, ?_⟩
      · rw [a4]
        obtain ⟨m', rfl⟩ : ∃ q, m' = q + 1 := ⟨m' - 1, by omega⟩
        rw [mf_M_stepAll_L7, if_neg a2]
        split <;> rfl
      · rw [a3, if_neg a2]
theorem cnt_all {f : Nat → Int32} : ∀ {x : Nat}, (∀ y, y < x → f y = 1) → cnt f x = x
  | 0, _ => rfl
  | x + 1, h => by
    rw [cnt_s, cnt_all (fun y hy => h y (by omega)), h x (by omega), if_neg (by decide)]
theorem stepAll_ok {F : Nat} {h : XH} {g : MH} (hFu : 96 < F) (hR : Rel h g) (hf : mh_vfault g = 0) (hs : xh_stopped h = 0) : ∃ h' g', xf_Run_advance F h = some h' ∧ mf_M_stepAll F g = some g' ∧ Rel h' g' ∧ mh_vfault g' = 0 := by
  obtain ⟨hF, hT, hO, hW, hI, ⟨s1, s2, s3⟩, ⟨n, n4, e1, e2, p5, p6, p7⟩, hB⟩ := hR
  have hc : ∀ x, x ≤ n → cnt (mh_lives g) x = x := fun x hx => cnt_all (fun y hy => (p7 y (by omega)).1)
  have hm : Mid h g n 0 0 := by
    refine ⟨⟨hF, hT, hO, hW, hI, hB⟩, ⟨hs, s1.symm.trans hs, s3, hf⟩, n, n, ⟨e1, e2, n4, by omega, p5, p6, fun x hx => Or.inr (p7 x hx).1, hc n (Nat.le_refl _), fun x hx hl => ?_⟩, by omega, by omega, by omega, n4, fun x _ hx => (p7 x hx).1, rfl⟩
    rw [hc x (by omega)]
    exact (p7 x hx).2
  obtain ⟨h1, g1, hS, a1, a2⟩ := adv_L hFu n 0 0 h g (by omega) hm F F (by omega) (by omega)
  obtain ⟨g', b1, b2, b3⟩ := J46_ok (F := F) (by omega) hS
  refine ⟨_, g', ?_, ?_, b2, b3⟩
  · unfold xf_Run_advance
    rw [e1]
    exact a2
  · unfold mf_M_stepAll
    rw [e2, ← b1]
    exact a1
