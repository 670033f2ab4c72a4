/-! a block is made -/
theorem zX_L {F : Nat} {h : XH} {w : Int32} : ∀ (r x : Nat), x + r = 96 → ∀ mk0 : Nat → Int32, (∀ p, p < x → mk0 p = 0) → ∀ m, r < m → ∃ mk : Nat → Int32, (∀ p, p < 96 → mk p = 0) ∧ xf_Blocks_make_L13 F m w (nI x) (xz_bmarks h mk0) = (gd 30 (xh_held h)).bind fun j1 => (gn 30 (xh_row h j1)).bind fun k2 => (some (xs_held (xz_bmarks h mk) (xh_held h + (1 : Int32)))).bind fun g3 => (xf_Block_trace F k2 w g3).bind fun q4 => some (some k2, q4) := by
  intro r
  induction r with
  | zero =>
    intro x hx mk0 h0 m hm
    obtain ⟨m, rfl⟩ : ∃ q, m = q + 1 := ⟨m - 1, by omega⟩
    refine ⟨mk0, fun p hp => h0 p (by omega), ?_⟩
    rw [xf_Blocks_make_L13, if_pos (show (96 : Int32) ≤ nI x by rw [li_96, nql (by omega) (by omega)]; omega)]
    simp only [gxz_bmarks]
  | succ r ih =>
    intro x hx mk0 h0 m hm
    obtain ⟨m, rfl⟩ : ∃ q, m = q + 1 := ⟨m - 1, by omega⟩
    obtain ⟨mk, a1, a2⟩ := ih (x + 1) (by omega) (va_up mk0 x 0) (fun p hp => by
      by_cases h9 : p = x
      · rw [h9, up_eq]
      · rw [up_ne h9]; exact h0 p (by omega)) m (by omega)
    refine ⟨mk, a1, ?_⟩
    rw [xf_Blocks_make_L13, if_neg (show ¬ (96 : Int32) ≤ nI x by rw [li_96, nql (by omega) (by omega)]; omega), gd_nI (show x < 96 by omega) (by omega), Option.bind_some, Option.bind_some, nI_1]
    exact a2
theorem zM_L {F : Nat} {g : MH} {w vb : Int32} {n : Nat} {cov bg be ln : Nat → Int32} : ∀ (r x : Nat), x + r = 768 → ∀ met0 : Nat → Int32, (∀ p, p < x → met0 p = 0) → ∀ m, r < m → ∃ met : Nat → Int32, (∀ p, p < 768 → met p = 0) ∧ mf_M_makeBlock_L24 F m w (nI n) (nI x) (TM g vb met0 cov bg be ln) = mf_M_makeBlock_L46 F F w (nI n) 0 (TM g vb met cov bg be ln) := by
  intro r
  induction r with
  | zero =>
    intro x hx mk0 h0 m hm
    obtain ⟨m, rfl⟩ : ∃ q, m = q + 1 := ⟨m - 1, by omega⟩
    refine ⟨mk0, fun p hp => h0 p (by omega), ?_⟩
    rw [mf_M_makeBlock_L24, if_pos (show (768 : Int32) ≤ nI x by rw [li_768, nql (by omega) (by omega)]; omega)]
  | succ r ih =>
    intro x hx mk0 h0 m hm
    obtain ⟨m, rfl⟩ : ∃ q, m = q + 1 := ⟨m - 1, by omega⟩
    obtain ⟨mk, a1, a2⟩ := ih (x + 1) (by omega) (va_up mk0 x 0) (fun p hp => by
      by_cases h9 : p = x
      · rw [h9, up_eq]
      · rw [up_ne h9]; exact h0 p (by omega)) m (by omega)
    refine ⟨mk, a1, ?_⟩
    rw [mf_M_makeBlock_L24, if_neg (show ¬ (768 : Int32) ≤ nI x by rw [li_768, nql (by omega) (by omega)]; omega), gd_nI (show x < 768 by omega) (by omega), Option.bind_some, show vp_nar .boolean (0 : Int32) = 0 from rfl, TM_s_met, Option.bind_some, nI_1]
    exact a2
theorem zC_L {F : Nat} {g : MH} {w vb : Int32} {n : Nat} {met cov0 bg be ln : Nat → Int32} (hn : n < 30) : ∀ (r x : Nat), x + r = 96 → ∀ cov1 : Nat → Int32, (∀ p, p < x → cov1 (96 * n + p) = 0) → (∀ y, y < 96 * n ∨ 96 * n + 96 ≤ y → cov1 y = cov0 y) → ∀ m, r < m → ∃ cov : Nat → Int32, (∀ p, p < 96 → cov (96 * n + p) = 0) ∧ (∀ y, y < 96 * n ∨ 96 * n + 96 ≤ y → cov y = cov0 y) ∧ mf_M_makeBlock_L46 F m w (nI n) (nI x) (TM g vb met cov1 bg be ln) = mf_M_makeBlock_L75 F F (nI n) 0 w (TM g vb met cov bg be ln) := by
  intro r
  induction r with
  | zero =>
    intro x hx mk0 h0 hy m hm
    obtain ⟨m, rfl⟩ : ∃ q, m = q + 1 := ⟨m - 1, by omega⟩
    refine ⟨mk0, fun p hp => h0 p (by omega), hy, ?_⟩
    rw [mf_M_makeBlock_L46, if_pos (show (96 : Int32) ≤ nI x by rw [li_96, nql (by omega) (by omega)]; omega)]
  | succ r ih =>
    intro x hx mk0 h0 hy m hm
    obtain ⟨m, rfl⟩ : ∃ q, m = q + 1 := ⟨m - 1, by omega⟩
    obtain ⟨mk, a1, a2, a3⟩ := ih (x + 1) (by omega) (va_up mk0 (96 * n + x) 0) (fun p hp => by
      by_cases h9 : p = x
      · rw [h9, up_eq]
      · rw [up_ne (by omega)]; exact h0 p (by omega)) (fun y h7 => by rw [up_ne (by omega)]; exact hy y h7) m (by omega)
    refine ⟨mk, a1, a2, ?_⟩
    rw [mf_M_makeBlock_L46, if_neg (show ¬ (96 : Int32) ≤ nI x by rw [li_96, nql (by omega) (by omega)]; omega), li_96, pk_mul, nI_add, gd_nI (show 96 * n + x < 2880 by omega) (by omega), Option.bind_some, show vp_nar .boolean (0 : Int32) = 0 from rfl, TM_s_covered, Option.bind_some, nI_1]
    exact a3
theorem make_ok {F : Nat} {h : XH} {g : MH} {n w : Nat} (hF : 800 < F) (hRF : RF (xh_signs h) (mh_field g)) (hh : xh_held h = nI n) (hv : mh_vblocks g = nI n) (hn : n < 30) (hk : xh_row h n < 30) (hw : w < 768) (hna : ¬ (w % 2 = 0 ∧ ac (sN (mh_field g (w / 8))))) :
    ∃ z mk lo hi met cov, 1 ≤ z ∧ z ≤ 32 ∧ xf_Blocks_make F (nI w) h = some (some (xh_row h n), TX h (nI (n + 1)) mk (xh_row h n) (nI w) (nI (pth (mh_field g) w z)) (nI z) lo hi) ∧ mf_M_makeBlock F (nI w) g = some (TM g (nI (n + 1)) met cov (va_up (mh_begins g) n (nI w)) (va_up (mh_behind g) n (nI (pth (mh_field g) w z))) (va_up (mh_lengths g) n (nI z))) ∧ TI (mh_field g) (mh_covered g) n w z mk lo hi met cov := by
  obtain ⟨mk, a1, a2⟩ := zX_L (F := F) (h := h) (w := nI w) 96 0 (by omega) (xh_bmarks h) (fun p hp => absurd hp (by omega)) F (by omega)
  obtain ⟨met, b1, b2⟩ := zM_L (F := F) (g := g) (w := nI w) (vb := nI (n + 1)) (n := n) (cov := mh_covered g) (bg := va_up (mh_begins g) n (nI w)) (be := mh_behind g) (ln := mh_lengths g) 768 0 (by omega) (mh_met g) (fun p hp => absurd hp (by omega)) F (by omega)
  obtain ⟨cov, c1, c2, c3⟩ := zC_L (F := F) (g := g) (w := nI w) (vb := nI (n + 1)) (met := met) (cov0 := mh_covered g) (bg := va_up (mh_begins g) n (nI w)) (be := mh_behind g) (ln := mh_lengths g) hn 96 0 (by omega) (mh_covered g) (fun p hp => absurd hp (by omega)) (fun _ _ => rfl) F (by omega)
  have hI : TI (mh_field g) (mh_covered g) n w 0 mk 0 0 met cov := by
    refine ⟨fun v hv => ?_, fun p hp => ?_, c2, fun s hs => absurd hs (by omega)⟩
    · rw [a1 _ (by omega), mbit_0, b1 v hv]; rfl
    · rw [c1 p hp, obit_0]; rfl
  obtain ⟨z, mk', lo, hi, met', cov', z1, z2, z3, z4, z5, z6⟩ := trace_L (F := F) (h := h) (g := g) (hd := nI (n + 1)) (bb := nI w) (vb := nI (n + 1)) (k := xh_row h n) (cov0 := mh_covered g) (bg := va_up (mh_begins g) n (nI w)) hn hw hRF (xh_bbehind h (xh_row h n)) (xh_bsize h (xh_row h n)) (mh_behind g) (mh_lengths g) 32 0 (by omega) mk 0 0 met cov hI F F (by omega) (by omega)
  refine ⟨z, mk', lo, hi, met', cov', ?_, z2, ?_, ?_, z5⟩
  · rcases Nat.eq_zero_or_pos z with h0 | h0
    · rcases z6 h0 with h9 | h9 | h9
      · omega
      · exact absurd h9 hna
      · exact absurd (b1 w hw) h9
    · exact h0
  · unfold xf_Blocks_make
    rw [hh, if_neg (show ¬ nI n = (30 : Int32) from nI_neq (b := 30) (by omega) (by omega) (by omega))]
    have e0 : xz_bmarks h (xh_bmarks h) = h := rfl
    rw [e0] at a2
    rw [show (0 : Int32) = nI 0 from rfl, a2, hh, gd_nI hn (by omega), Option.bind_some, gn_ok hk, Option.bind_some, Option.bind_some, nI_1]
    have e1 : xs_held (xz_bmarks h mk) (nI (n + 1)) = TX h (nI (n + 1)) mk (xh_row h n) (xh_bbegin h (xh_row h n)) (xh_bbehind h (xh_row h n)) (xh_bsize h (xh_row h n)) (xh_blow h (xh_row h n)) (xh_bhigh h (xh_row h n)) := by
      unfold TX
      rw [up_id, up_id, up_id, up_id, up_id]
      rfl
    rw [e1]
    unfold xf_Block_trace
    rw [TX_s_bbegin, Option.bind_some, TX_s_blow, Option.bind_some, TX_s_bhigh, Option.bind_some]
    have z3' : xf_Block_trace_L21 F F (xh_row h n) (nI w) 0 (TX h (nI (n + 1)) mk (xh_row h n) (nI w) (xh_bbehind h (xh_row h n)) (xh_bsize h (xh_row h n)) 0 0) = _ := z3
    rw [z3', Option.bind_some]
  · unfold mf_M_makeBlock
    rw [hv, nI_1, Option.bind_some, gd_nI hn (by omega), Option.bind_some, Option.bind_some]
    have e1 : ms_begins (ms_vblocks g (nI (n + 1))) n (nI w) = TM g (nI (n + 1)) (mh_met g) (mh_covered g) (va_up (mh_begins g) n (nI w)) (mh_behind g) (mh_lengths g) := rfl
    rw [e1, show (0 : Int32) = nI 0 from rfl, b2, show (0 : Int32) = nI 0 from rfl, c3]
    exact z4
theorem RB_make {h : XH} {g : MH} {n w z : Nat} {mk : Nat → Int32} {lo hi : Int64} {met cov : Nat → Int32} (hn : n < 30) (hw : w < 768) (z1 : 1 ≤ z) (z2 : z ≤ 32) (hdr : xh_dropped h = mh_vdrops g) (rw0 : ∀ i, i < 30 → xh_row h i < 30) (rinj : ∀ i j, i < 30 → j < 30 → xh_row h i = xh_row h j → i = j) (hbr : ∀ i, i < n → BR (mh_field g) (xh_bbegin h (xh_row h i)) (xh_bbehind h (xh_row h i)) (xh_bsize h (xh_row h i)) (xh_blow h (xh_row h i)) (xh_bhigh h (xh_row h i)) (mh_begins g i) (mh_behind g i) (mh_lengths g i) (fun p => mh_covered g (96 * i + p))) (huq : ∀ i j, i < n → j < n → mh_begins g i = mh_begins g j → i = j) (hno : ∀ i, i < n → mh_begins g i ≠ nI w) (hI : TI (mh_field g) (mh_covered g) n w z mk lo hi met cov) :
    RB (mh_field g) (nI (n + 1)) (xh_dropped h) (xh_row h) (va_up (xh_bbegin h) (xh_row h n) (nI w)) (va_up (xh_bbehind h) (xh_row h n) (nI (pth (mh_field g) w z))) (va_up (xh_bsize h) (xh_row h n) (nI z)) (va_up (xh_blow h) (xh_row h n) lo) (va_up (xh_bhigh h) (xh_row h n) hi) (nI (n + 1)) (mh_vdrops g) (va_up (mh_begins g) n (nI w)) (va_up (mh_behind g) n (nI (pth (mh_field g) w z))) (va_up (mh_lengths g) n (nI z)) cov := by
  obtain ⟨i1, i2, i3, i4⟩ := hI
  refine ⟨n + 1, by omega, rfl, rfl, hdr, rw0, rinj, fun i hi => ?_, fun i j hi hj he => ?_⟩
  · by_cases h9 : i = n
    · subst h9
      rw [up_eq, up_eq, up_eq, up_eq, up_eq, up_eq, up_eq, up_eq]
      exact ⟨w, z, hw, z1, z2, rfl, rfl, rfl, rfl, rfl, rfl, i2, i4⟩
    · have hr : xh_row h i ≠ xh_row h n := fun he => h9 (rinj i n (by omega) hn he)
      rw [up_ne hr, up_ne hr, up_ne hr, up_ne hr, up_ne hr, up_ne h9, up_ne h9, up_ne h9]
      obtain ⟨w', z', b1, b2, b3, b4, b5, b6, b7, b8, b9, b10, b11⟩ := hbr i (by omega)
      refine ⟨w', z', b1, b2, b3, b4, b5, b6, b7, b8, b9, fun p hp => ?_, b11⟩
      show cov (96 * i + p) = _
      rw [i3 _ (by omega)]
      exact b10 p hp
  · by_cases h1 : i = n
    · by_cases h2 : j = n
      · omega
      · rw [h1, up_eq, up_ne h2] at he
        exact absurd he.symm (hno j (by omega))
    · by_cases h2 : j = n
      · rw [h2, up_eq, up_ne h1] at he
        exact absurd he (hno i (by omega))
      · rw [up_ne h1, up_ne h2] at he
        exact huq i j (by omega) (by omega) he
