/-! writing a sign drops the blocks over its place -/
def wX (h : XH) (s : Nat → Int32) (f : Nat → Nat) (dr hd : Int32) : XH := (hd, dr, f, xh_bmarks h, s, xh_living h, xh_given h, xh_read h, xh_steps h, xh_stopped h, xh_ptrs h, xh_innums h, xh_digits h, xh_ssize h, xh_smarks h, xh_sfound h, xh_lsize h, xh_lchars h, xh_pway h, xh_pdepth h, xh_pret h, xh_pnums h, xh_prets h, xh_bbegin h, xh_bbehind h, xh_bsize h, xh_blow h, xh_bhigh h)
theorem wX_get (h : XH) (s : Nat → Int32) (f : Nat → Nat) (dr hd : Int32) : xh_held (wX h s f dr hd) = hd ∧ xh_dropped (wX h s f dr hd) = dr ∧ xh_row (wX h s f dr hd) = f ∧ xh_bmarks (wX h s f dr hd) = xh_bmarks h ∧ xh_signs (wX h s f dr hd) = s ∧ xh_living (wX h s f dr hd) = xh_living h ∧ xh_given (wX h s f dr hd) = xh_given h ∧ xh_read (wX h s f dr hd) = xh_read h ∧ xh_steps (wX h s f dr hd) = xh_steps h ∧ xh_stopped (wX h s f dr hd) = xh_stopped h ∧ xh_ptrs (wX h s f dr hd) = xh_ptrs h ∧ xh_innums (wX h s f dr hd) = xh_innums h ∧ xh_digits (wX h s f dr hd) = xh_digits h ∧ xh_ssize (wX h s f dr hd) = xh_ssize h ∧ xh_smarks (wX h s f dr hd) = xh_smarks h ∧ xh_sfound (wX h s f dr hd) = xh_sfound h ∧ xh_lsize (wX h s f dr hd) = xh_lsize h ∧ xh_lchars (wX h s f dr hd) = xh_lchars h ∧ xh_pway (wX h s f dr hd) = xh_pway h ∧ xh_pdepth (wX h s f dr hd) = xh_pdepth h ∧ xh_pret (wX h s f dr hd) = xh_pret h ∧ xh_pnums (wX h s f dr hd) = xh_pnums h ∧ xh_prets (wX h s f dr hd) = xh_prets h ∧ xh_bbegin (wX h s f dr hd) = xh_bbegin h ∧ xh_bbehind (wX h s f dr hd) = xh_bbehind h ∧ xh_bsize (wX h s f dr hd) = xh_bsize h ∧ xh_blow (wX h s f dr hd) = xh_blow h ∧ xh_bhigh (wX h s f dr hd) = xh_bhigh h := ⟨rfl, rfl, rfl, rfl, rfl, rfl, rfl, rfl, rfl, rfl, rfl, rfl, rfl, rfl, rfl, rfl, rfl, rfl, rfl, rfl, rfl, rfl, rfl, rfl, rfl, rfl, rfl, rfl⟩
def mw (g : MH) (a b e d : Nat → Int32) : MH := (mh_vfault g, mh_vtyped g, mh_vinputs g, mh_vread g, mh_vshown g, mh_vwritten g, mh_vpointers g, mh_vstopped g, mh_vsteps g, mh_vblocks g, mh_vdrops g, mh_field g, mh_text g, mh_input g, mh_output g, mh_page g, mh_digits g, mh_lives g, mh_place g, mh_direction g, mh_quoted g, mh_sizes g, mh_stacks g, mh_returns g, mh_back g, a, b, e, d, mh_met g, mh_come g)
theorem mw_get (g : MH) (a b e d : Nat → Int32) : mh_vfault (mw g a b e d) = mh_vfault g ∧ mh_vtyped (mw g a b e d) = mh_vtyped g ∧ mh_vinputs (mw g a b e d) = mh_vinputs g ∧ mh_vread (mw g a b e d) = mh_vread g ∧ mh_vshown (mw g a b e d) = mh_vshown g ∧ mh_vwritten (mw g a b e d) = mh_vwritten g ∧ mh_vpointers (mw g a b e d) = mh_vpointers g ∧ mh_vstopped (mw g a b e d) = mh_vstopped g ∧ mh_vsteps (mw g a b e d) = mh_vsteps g ∧ mh_vblocks (mw g a b e d) = mh_vblocks g ∧ mh_vdrops (mw g a b e d) = mh_vdrops g ∧ mh_field (mw g a b e d) = mh_field g ∧ mh_text (mw g a b e d) = mh_text g ∧ mh_input (mw g a b e d) = mh_input g ∧ mh_output (mw g a b e d) = mh_output g ∧ mh_page (mw g a b e d) = mh_page g ∧ mh_digits (mw g a b e d) = mh_digits g ∧ mh_lives (mw g a b e d) = mh_lives g ∧ mh_place (mw g a b e d) = mh_place g ∧ mh_direction (mw g a b e d) = mh_direction g ∧ mh_quoted (mw g a b e d) = mh_quoted g ∧ mh_sizes (mw g a b e d) = mh_sizes g ∧ mh_stacks (mw g a b e d) = mh_stacks g ∧ mh_returns (mw g a b e d) = mh_returns g ∧ mh_back (mw g a b e d) = mh_back g ∧ mh_begins (mw g a b e d) = a ∧ mh_lengths (mw g a b e d) = b ∧ mh_behind (mw g a b e d) = e ∧ mh_covered (mw g a b e d) = d ∧ mh_met (mw g a b e d) = mh_met g ∧ mh_come (mw g a b e d) = mh_come g := ⟨rfl, rfl, rfl, rfl, rfl, rfl, rfl, rfl, rfl, rfl, rfl, rfl, rfl, rfl, rfl, rfl, rfl, rfl, rfl, rfl, rfl, rfl, rfl, rfl, rfl, rfl, rfl, rfl, rfl, rfl, rfl⟩
def wM (g : MH) (s a b e d : Nat → Int32) (dv bv : Int32) : MH := (mh_vfault g, mh_vtyped g, mh_vinputs g, mh_vread g, mh_vshown g, mh_vwritten g, mh_vpointers g, mh_vstopped g, mh_vsteps g, bv, dv, s, mh_text g, mh_input g, mh_output g, mh_page g, mh_digits g, mh_lives g, mh_place g, mh_direction g, mh_quoted g, mh_sizes g, mh_stacks g, mh_returns g, mh_back g, a, b, e, d, mh_met g, mh_come g)
theorem wM_get (g : MH) (s a b e d : Nat → Int32) (dv bv : Int32) : mh_vfault (wM g s a b e d dv bv) = mh_vfault g ∧ mh_vtyped (wM g s a b e d dv bv) = mh_vtyped g ∧ mh_vinputs (wM g s a b e d dv bv) = mh_vinputs g ∧ mh_vread (wM g s a b e d dv bv) = mh_vread g ∧ mh_vshown (wM g s a b e d dv bv) = mh_vshown g ∧ mh_vwritten (wM g s a b e d dv bv) = mh_vwritten g ∧ mh_vpointers (wM g s a b e d dv bv) = mh_vpointers g ∧ mh_vstopped (wM g s a b e d dv bv) = mh_vstopped g ∧ mh_vsteps (wM g s a b e d dv bv) = mh_vsteps g ∧ mh_vblocks (wM g s a b e d dv bv) = bv ∧ mh_vdrops (wM g s a b e d dv bv) = dv ∧ mh_field (wM g s a b e d dv bv) = s ∧ mh_text (wM g s a b e d dv bv) = mh_text g ∧ mh_input (wM g s a b e d dv bv) = mh_input g ∧ mh_output (wM g s a b e d dv bv) = mh_output g ∧ mh_page (wM g s a b e d dv bv) = mh_page g ∧ mh_digits (wM g s a b e d dv bv) = mh_digits g ∧ mh_lives (wM g s a b e d dv bv) = mh_lives g ∧ mh_place (wM g s a b e d dv bv) = mh_place g ∧ mh_direction (wM g s a b e d dv bv) = mh_direction g ∧ mh_quoted (wM g s a b e d dv bv) = mh_quoted g ∧ mh_sizes (wM g s a b e d dv bv) = mh_sizes g ∧ mh_stacks (wM g s a b e d dv bv) = mh_stacks g ∧ mh_returns (wM g s a b e d dv bv) = mh_returns g ∧ mh_back (wM g s a b e d dv bv) = mh_back g ∧ mh_begins (wM g s a b e d dv bv) = a ∧ mh_lengths (wM g s a b e d dv bv) = b ∧ mh_behind (wM g s a b e d dv bv) = e ∧ mh_covered (wM g s a b e d dv bv) = d ∧ mh_met (wM g s a b e d dv bv) = mh_met g ∧ mh_come (wM g s a b e d dv bv) = mh_come g := ⟨rfl, rfl, rfl, rfl, rfl, rfl, rfl, rfl, rfl, rfl, rfl, rfl, rfl, rfl, rfl, rfl, rfl, rfl, rfl, rfl, rfl, rfl, rfl, rfl, rfl, rfl, rfl, rfl, rfl, rfl, rfl⟩
theorem mw_begins (g : MH) (a b e d : Nat → Int32) (j : Nat) (v : Int32) : ms_begins (mw g a b e d) j v = mw g (va_up a j v) b e d := rfl
theorem mw_lengths (g : MH) (a b e d : Nat → Int32) (j : Nat) (v : Int32) : ms_lengths (mw g a b e d) j v = mw g a (va_up b j v) e d := rfl
theorem mw_behind (g : MH) (a b e d : Nat → Int32) (j : Nat) (v : Int32) : ms_behind (mw g a b e d) j v = mw g a b (va_up e j v) d := rfl
theorem mw_covered (g : MH) (a b e d : Nat → Int32) (j : Nat) (v : Int32) : ms_covered (mw g a b e d) j v = mw g a b e (va_up d j v) := rfl
def cp (d : Nat → Int32) (k c q : Nat) : Nat → Int32 := fun x => if 96 * k ≤ x ∧ x < 96 * k + q then d (x - 96 * k + 96 * c) else d x
theorem nar01 {v : Int32} (h : v = 0 ∨ v = 1) : vp_nar .boolean v = v := by
  rcases h with h | h <;> subst h <;> rfl
theorem chL_ok (F : Nat) (rc : Int32 → Int32 → Int32 → MH → Option MH) {k c : Nat} (hkc : k ≤ c) (hc : c < 30) (v1 : Int32) (g : MH) (a b e d : Nat → Int32) (h01 : ∀ p, p < 96 → d (96 * c + p) = 0 ∨ d (96 * c + p) = 1) : ∀ (r q : Nat), q + r = 96 → ∀ m, r < m →
    mf_M_change_L89 F rc m v1 (nI k) (nI c) (nI q) (mw g a b e (cp d k c q)) = rc v1 (nI (k + 1)) (nI (c + 1)) (mw g a b e (cp d k c 96)) := by
  intro r
  induction r with
  | zero =>
    intro q hq m hm
    obtain ⟨m, rfl⟩ : ∃ q, m = q + 1 := ⟨m - 1, by omega⟩
    rw [mf_M_change_L89, if_pos (by rw [li_96, nql (by omega) (by omega)]; omega)]
    unfold mf_M_change_J130
    rw [nI_1, nI_1, show q = 96 by omega]
  | succ r ih =>
    intro q hq m hm
    obtain ⟨m, rfl⟩ : ∃ q, m = q + 1 := ⟨m - 1, by omega⟩
    have hv : cp d k c q (96 * c + q) = d (96 * c + q) := by
      unfold cp
      by_cases h1 : 96 * k ≤ 96 * c + q ∧ 96 * c + q < 96 * k + q
      · rw [if_pos h1]; exfalso; omega
      · rw [if_neg h1]
    have hu : va_up (cp d k c q) (96 * k + q) (d (96 * c + q)) = cp d k c (q + 1) := by
      funext x
      by_cases hx : x = 96 * k + q
      · rw [hx, up_eq]
        unfold cp
        rw [if_pos (by omega), show 96 * k + q - 96 * k + 96 * c = 96 * c + q by omega]
      · rw [up_ne hx]
        unfold cp
        by_cases h1 : 96 * k ≤ x ∧ x < 96 * k + q
        · rw [if_pos h1, if_pos (by omega)]
        · rw [if_neg h1, if_neg (by omega)]
    rw [mf_M_change_L89, if_neg (by rw [li_96, nql (by omega) (by omega)]; omega), li_96, pk_mul, nI_add, gd_nI (by omega) (by omega), Option.bind_some, pk_mul, nI_add, gd_nI (by omega) (by omega), Option.bind_some, Option.bind_some, mw_covered, show mh_covered (mw g a b e (cp d k c q)) = cp d k c q from rfl, hv, nar01 (h01 q (by omega)), hu, nI_1]
    exact ih (q + 1) (by omega) m (by omega)
theorem pth_keep {F G : Nat → Int32} {P w z : Nat} (hG : ∀ i, i ≠ P → G i = F i) (h : ∀ t, t < z → pth F w t / 8 ≠ P) : ∀ t, t ≤ z → pth G w t = pth F w t
  | 0, _ => rfl
  | t + 1, ht => by
    have e := pth_keep hG h t (by omega)
    show bh (pth G w t) (sN (G (pth G w t / 8))) = bh (pth F w t) (sN (F (pth F w t / 8)))
    rw [e, hG _ (h t (by omega))]
theorem BR_keep {F G : Nat → Int32} {P : Nat} {bb be bz mb me mz : Int32} {lo hi : Int64} {co : Nat → Int32} (hG : ∀ i, i ≠ P → G i = F i) (ho : obit lo hi P = false) (h : BR F bb be bz lo hi mb me mz co) : BR G bb be bz lo hi mb me mz co := by
  obtain ⟨w, z, hw, h1, h2, b1, b2, b3, b4, b5, b6, hc, ht⟩ := h
  have hk : ∀ t, t < z → pth F w t / 8 ≠ P := fun t hz he => by
    have := (ht t hz).2
    rw [he, ho] at this
    exact absurd this (by decide)
  have e := pth_keep hG hk
  refine ⟨w, z, hw, h1, h2, b1, b2, b3, b4, by rw [e z (Nat.le_refl _)]; exact b5, by rw [e z (Nat.le_refl _)]; exact b6, hc, fun t hz => ?_⟩
  rw [e t (by omega), hG _ (hk t hz)]
  exact ht t hz
def BX (h : XH) (F : Nat → Int32) (f : Nat → Nat) (a b e d : Nat → Int32) (i : Nat) : Prop := BR F (xh_bbegin h (f i)) (xh_bbehind h (f i)) (xh_bsize h (f i)) (xh_blow h (f i)) (xh_bhigh h (f i)) (a i) (e i) (b i) (fun p => d (96 * i + p))
theorem BX_of {h : XH} {F : Nat → Int32} {f f' : Nat → Nat} {a b e d a' b' e' d' : Nat → Int32} {i j : Nat} (hf : f' j = f i) (ha : a' j = a i) (hb : b' j = b i) (he : e' j = e i) (hd : ∀ p, p < 96 → d' (96 * j + p) = d (96 * i + p)) (h0 : BX h F f a b e d i) : BX h F f' a' b' e' d' j := by
  unfold BX at h0 ⊢
  rw [hf, ha, hb, he]
  obtain ⟨w, z, hw, h1, h2, b1, b2, b3, b4, b5, b6, hc, ht⟩ := h0
  exact ⟨w, z, hw, h1, h2, b1, b2, b3, b4, b5, b6, fun p hp => by rw [← hc p hp]; exact hd p hp, ht⟩
def DI (h : XH) (F0 F1 : Nat → Int32) (n k c : Nat) (f : Nat → Nat) (a b e d : Nat → Int32) : Prop :=
  (∀ i, i < 30 → f i < 30) ∧ (∀ i j, i < 30 → j < 30 → f i = f j → i = j) ∧ (∀ i, i < k → BX h F1 f a b e d i) ∧ (∀ i, c ≤ i → i < n → BX h F0 f a b e d i) ∧ ∀ i j, (i < k ∨ (c ≤ i ∧ i < n)) → (j < k ∨ (c ≤ j ∧ j < n)) → a i = a j → i = j
def sw (k c i : Nat) : Nat := if i = k then c else if i = c then k else i
theorem sw_inj {k c i j : Nat} (h : sw k c i = sw k c j) : i = j := by
  unfold sw at h
  repeat' split at h
  all_goals omega
theorem sw_lt {k c i : Nat} (hk : k < 30) (hc : c < 30) (hi : i < 30) : sw k c i < 30 := by
  unfold sw
  repeat' split
  all_goals omega
theorem up2 {α : Type} (f : Nat → α) (c k : Nat) (i : Nat) : va_up (va_up f c (f k)) k (f c) i = f (sw k c i) := by
  unfold sw
  by_cases h1 : i = k
  · rw [if_pos h1, h1, up_eq]
  · rw [if_neg h1, up_ne h1]
    by_cases h2 : i = c
    · rw [if_pos h2, h2, up_eq]
    · rw [if_neg h2, up_ne h2]
theorem xr_row (h : XH) (f : Nat → Nat) (j v : Nat) : xs_row (xz_row h f) j v = xz_row h (va_up f j v) := rfl
theorem xr_get (h : XH) (f : Nat → Nat) : xh_row (xz_row h f) = f := rfl
theorem drop_ok {Fu : Nat} (hFu : 96 < Fu) {h : XH} {g : MH} {F0 F1 : Nat → Int32} {n P : Nat} (hn : n ≤ 30) (hP : P < 96) (hG : ∀ i, i ≠ P → F1 i = F0 i) (hv : mh_vblocks g = nI n) (hdr : xh_dropped h = mh_vdrops g) :
    ∀ (r c : Nat), c + r = n → ∀ m, r < m → ∀ k, k ≤ c → ∀ f a b e d, DI h F0 F1 n k c f a b e d →
    ∃ k' f' a' b' e' d', k' ≤ 30 ∧ xf_Blocks_drop_L10 Fu m (nI P) (nI k) (nI n) (nI c) (xz_row h f) = some (xs_held (xs_dropped (xz_row h f') (xh_dropped h + (nI n - nI k'))) (nI k')) ∧
      mf_M_change_L23 Fu m (nI P) (nI k) (nI c) (mw g a b e d) = some (ms_vblocks (ms_vdrops (mw g a' b' e' d') (xh_dropped h + (nI n - nI k'))) (nI k')) ∧ DI h F0 F1 n k' n f' a' b' e' d' := by
  intro r
  induction r with
  | zero =>
    intro c hc m hm k hk f a b e d hI
    obtain ⟨m, rfl⟩ : ∃ q, m = q + 1 := ⟨m - 1, by omega⟩
    have hcn : c = n := by omega
    subst hcn
    refine ⟨k, f, a, b, e, d, by omega, ?_, ?_, hI⟩
    · rw [xf_Blocks_drop_L10, if_pos (by rw [nql (by omega) (by omega)]; omega)]
      rfl
    · rw [mf_M_change_L23, show mh_vblocks (mw g a b e d) = mh_vblocks g from rfl, hv, if_pos (by rw [nql (by omega) (by omega)]; omega), show mh_vdrops (mw g a b e d) = mh_vdrops g from rfl, ← hdr, Option.bind_some, Option.bind_some, show xh_dropped h + nI c - nI k = xh_dropped h + (nI c - nI k) from by rw [Int32.sub_eq_add_neg, Int32.sub_eq_add_neg, Int32.add_assoc]]
  | succ r ih =>
    intro c hc m hm k hk f a b e d hI
    obtain ⟨m, rfl⟩ : ∃ q, m = q + 1 := ⟨m - 1, by omega⟩
    obtain ⟨i1, i2, i3, i4, i5⟩ := hI
    have hb := i4 c (Nat.le_refl _) (by omega)
    have hco : ∀ p, p < 96 → d (96 * c + p) = if obit (xh_blow h (f c)) (xh_bhigh h (f c)) p then 1 else 0 := by
      obtain ⟨w, z, -, -, -, -, -, -, -, -, -, h9, -⟩ := hb
      exact h9
    cases ho : obit (xh_blow h (f c)) (xh_bhigh h (f c)) P with
    | true =>
      have e1 : xf_Blocks_drop_L10 Fu (m + 1) (nI P) (nI k) (nI n) (nI c) (xz_row h f) = xf_Blocks_drop_L10 Fu m (nI P) (nI k) (nI n) (nI (c + 1)) (xz_row h f) := by
        rw [xf_Blocks_drop_L10, if_neg (by rw [nql (by omega) (by omega)]; omega), gd_nI (by omega) (by omega), Option.bind_some]
        show (gn 30 (f c)).bind _ = _
        rw [gn_ok (i1 c (by omega)), Option.bind_some, isOver_ok hP, show obit (xh_blow (xz_row h f) (f c)) (xh_bhigh (xz_row h f) (f c)) P = true from ho, if_neg (by decide)]
        unfold xf_Blocks_drop_J58
        rw [nI_1]
      have e2 : mf_M_change_L23 Fu (m + 1) (nI P) (nI k) (nI c) (mw g a b e d) = mf_M_change_L23 Fu m (nI P) (nI k) (nI (c + 1)) (mw g a b e d) := by
        rw [mf_M_change_L23, show mh_vblocks (mw g a b e d) = mh_vblocks g from rfl, hv, if_neg (by rw [nql (by omega) (by omega)]; omega), li_96, pk_mul, nI_add, gd_nI (by omega) (by omega), Option.bind_some, show mh_covered (mw g a b e d) = d from rfl, hco P hP, ho, if_neg (by decide)]
        unfold mf_M_change_J130
        rw [nI_1]
      rw [e1, e2]
      exact ih (c + 1) (by omega) m (by omega) k (by omega) f a b e d ⟨i1, i2, i3, fun i h1 h2 => i4 i (by omega) h2, fun i j h1 h2 h3 => i5 i j (by omega) (by omega) h3⟩
    | false =>
      have e1 : xf_Blocks_drop_L10 Fu (m + 1) (nI P) (nI k) (nI n) (nI c) (xz_row h f) = xf_Blocks_drop_L10 Fu m (nI P) (nI (k + 1)) (nI n) (nI (c + 1)) (xz_row h (va_up (va_up f c (f k)) k (f c))) := by
        rw [xf_Blocks_drop_L10, if_neg (by rw [nql (by omega) (by omega)]; omega), gd_nI (by omega) (by omega), Option.bind_some]
        show (gn 30 (f c)).bind _ = _
        rw [gn_ok (i1 c (by omega)), Option.bind_some, isOver_ok hP, show obit (xh_blow (xz_row h f) (f c)) (xh_bhigh (xz_row h f) (f c)) P = false from ho, if_pos (by decide), gd_nI (show k < 30 by omega) (by omega), Option.bind_some]
        show (gn 30 (f k)).bind _ = _
        rw [gn_ok (i1 k (by omega)), Option.bind_some, Option.bind_some, Option.bind_some, Option.bind_some, Option.bind_some, xr_row, xr_row]
        unfold xf_Blocks_drop_J58
        rw [nI_1, nI_1]
      have hz : cp (d) k c 0 = d := by
        funext x
        unfold cp
        rw [if_neg (by omega)]
      have hL := chL_ok Fu (mf_M_change_L23 Fu m) hk (show c < 30 by omega) (nI P) g (va_up a k (a c)) (va_up b k (b c)) (va_up e k (e c)) d (fun p hp => by rw [hco p hp]; cases obit (xh_blow h (f c)) (xh_bhigh h (f c)) p; exact Or.inl rfl; exact Or.inr rfl) 96 0 (by omega) Fu hFu
      rw [hz] at hL
      have e2 : mf_M_change_L23 Fu (m + 1) (nI P) (nI k) (nI c) (mw g a b e d) = mf_M_change_L23 Fu m (nI P) (nI (k + 1)) (nI (c + 1)) (mw g (va_up a k (a c)) (va_up b k (b c)) (va_up e k (e c)) (cp d k c 96)) := by
        rw [mf_M_change_L23, show mh_vblocks (mw g a b e d) = mh_vblocks g from rfl, hv, if_neg (by rw [nql (by omega) (by omega)]; omega), li_96, pk_mul, nI_add, gd_nI (by omega) (by omega), Option.bind_some, show mh_covered (mw g a b e d) = d from rfl, hco P hP, ho, if_pos (by decide), ← hL]
        simp only [gd_nI (show k < 30 by omega) (show 30 < 2 ^ 31 by omega), gd_nI (show c < 30 by omega) (show 30 < 2 ^ 31 by omega), Option.bind_some, mw_begins, mw_lengths, mw_behind, mw_get]
        rfl
      rw [e1, e2]
      refine ih (c + 1) (by omega) m (by omega) (k + 1) (by omega) _ _ _ _ _ ⟨?_, ?_, ?_, ?_, ?_⟩
      · intro i hi
        rw [up2]
        exact i1 _ (sw_lt (by omega) (by omega) hi)
      · intro i j hi hj
        rw [up2, up2]
        exact fun hij => sw_inj (i2 _ _ (sw_lt (by omega) (by omega) hi) (sw_lt (by omega) (by omega) hj) hij)
      · intro i hi
        by_cases h1 : i = k
        · subst h1
          exact BX_of (by rw [up2]; unfold sw; rw [if_pos rfl]) up_eq up_eq up_eq (fun p hp => by unfold cp; rw [if_pos (by omega), show 96 * i + p - 96 * i + 96 * c = 96 * c + p by omega]) (BR_keep hG ho hb)
        · exact BX_of (by rw [up2]; unfold sw; rw [if_neg h1, if_neg (by omega)]) (up_ne h1) (up_ne h1) (up_ne h1) (fun p hp => by unfold cp; rw [if_neg (by omega)]) (i3 i (by omega))
      · intro i h1 h2
        exact BX_of (by rw [up2]; unfold sw; rw [if_neg (by omega), if_neg (by omega)]) (up_ne (by omega)) (up_ne (by omega)) (up_ne (by omega)) (fun p hp => by unfold cp; rw [if_neg (by omega)]) (i4 i (by omega) h2)
      · intro i j h1 h2
        by_cases h3 : i = k <;> by_cases h4 : j = k
        · intro _; omega
        · rw [h3, up_eq, up_ne h4]
          intro h5
          have := i5 c j (by omega) (by omega) h5
          omega
        · rw [h4, up_eq, up_ne h3]
          intro h5
          have := i5 i c (by omega) (by omega) h5
          omega
        · rw [up_ne h3, up_ne h4]
          exact i5 i j (by omega) (by omega)
theorem write_ok {Fu : Nat} (hFu : 96 < Fu) {h : XH} {g : MH} {P : Nat} {v : Int32} (hP : P < 96) (hv : SG v) (hF : RF (xh_signs h) (mh_field g)) (hB : RB (mh_field g) (xh_held h) (xh_dropped h) (xh_row h) (xh_bbegin h) (xh_bbehind h) (xh_bsize h) (xh_blow h) (xh_bhigh h) (mh_vblocks g) (mh_vdrops g) (mh_begins g) (mh_behind g) (mh_lengths g) (mh_covered g)) :
    ∃ s f dr hd s' a b e d dv bv, xf_Field_write Fu (nI P) v h = some (wX h s f dr hd) ∧ mf_M_change Fu (nI P) v g = some (wM g s' a b e d dv bv) ∧ RF s s' ∧ RB s' hd dr f (xh_bbegin h) (xh_bbehind h) (xh_bsize h) (xh_blow h) (xh_bhigh h) bv dv a e b d := by
  have hFP := hF P hP
  by_cases he : xh_signs h P = v
  · refine ⟨xh_signs h, xh_row h, xh_dropped h, xh_held h, mh_field g, mh_begins g, mh_lengths g, mh_behind g, mh_covered g, mh_vdrops g, mh_vblocks g, ?_, ?_, hF, hB⟩
    · unfold xf_Field_write
      rw [gd_nI (by omega) (by omega), Option.bind_some, if_pos he]
      rfl
    · unfold mf_M_change
      rw [gd_nI (by omega) (by omega), Option.bind_some, if_pos (hFP.1 ▸ he)]
      rfl
  · obtain ⟨n, hn, hd, vb, dr, rw0, rinj, hbr, huq⟩ := hB
    obtain ⟨k', f', a', b', e', d', hk', d1, d2, i1, i2, i3, -, i5⟩ := drop_ok hFu (h := xz_signs h (va_up (xh_signs h) P v)) (g := mz_field g (va_up (mh_field g) P v)) (F0 := mh_field g) (F1 := va_up (mh_field g) P v) hn hP (fun i hi => up_ne hi) vb dr n 0 (by omega) Fu (by omega) 0 (Nat.le_refl _) (xh_row h) (mh_begins g) (mh_lengths g) (mh_behind g) (mh_covered g) ⟨rw0, rinj, fun i hi => by omega, fun i _ hi => hbr i hi, fun i j h1 h2 h3 => huq i j (by omega) (by omega) h3⟩
    refine ⟨va_up (xh_signs h) P v, f', xh_dropped h + (nI n - nI k'), nI k', va_up (mh_field g) P v, a', b', e', d', xh_dropped h + (nI n - nI k'), nI k', ?_, ?_, ?_, k', hk', rfl, rfl, rfl, i1, i2, i3, fun i j h1 h2 => i5 i j (Or.inl h1) (Or.inl h2)⟩
    · unfold xf_Field_write
      rw [gd_nI (by omega) (by omega), Option.bind_some, if_neg he, Option.bind_some, Option.bind_some, nar_SG hv]
      unfold xf_Blocks_drop
      show ((xf_Blocks_drop_L10 Fu Fu (nI P) (nI 0) (xh_held h) (nI 0) (xz_row (xz_signs h (va_up (xh_signs h) P v)) (xh_row h))).bind _) = _
      rw [hd, d1]
      rfl
    · unfold mf_M_change
      rw [gd_nI (by omega) (by omega), Option.bind_some, if_neg (hFP.1 ▸ he), Option.bind_some, Option.bind_some]
      exact d2
    · intro i hi
      by_cases h1 : i = P
      · rw [h1, up_eq, up_eq]; exact ⟨rfl, hv⟩
      · rw [up_ne h1, up_ne h1]; exact hF i hi
theorem Rel_wr {h : XH} {g : MH} {s : Nat → Int32} {f : Nat → Nat} {dr hd : Int32} {s' a b e d : Nat → Int32} {dv bv : Int32} (hR : Rel h g) (hF : RF s s') (hB : RB s' hd dr f (xh_bbegin h) (xh_bbehind h) (xh_bsize h) (xh_blow h) (xh_bhigh h) bv dv a e b d) : Rel (wX h s f dr hd) (wM g s' a b e d dv bv) := by
  obtain ⟨_, hT, hO, hP, hI, hS, hQ, _⟩ := hR
  exact ⟨hF, hT, hO, hP, hI, hS, hQ, hB⟩
theorem ok_put : OK_put Rel := by
  intro h g hR v0 v1 v2
  obtain ⟨n, hn, e0⟩ := isSign_ok v2
  rw [e0]
  rcases place_ok v0 v1 with ⟨e1, e2⟩ | ⟨x, y, hx, hy, hv0, hv1, e1, e2, e3⟩
  · refine ⟨97, 97, (0, ms_vfault g 1), ?_, Or.inr (Or.inl ⟨?_, rfl, Rel_fault hR 1⟩)⟩
    · unfold mf_M_put mf_M_put_J26
      rw [e2, if_pos rfl, refused_1, if_neg (show ¬ (1 : Int32) = 0 by decide)]
    · unfold xf_P_put
      rw [e1]
      rfl
  · rcases mSign_ok hn with ⟨s1, s2, -⟩ | ⟨s1, s2, s3, s4⟩
    · refine ⟨97, 97, (0, ms_vfault g 2), ?_, Or.inr (Or.inr ⟨?_, rfl, Rel_fault hR 2⟩)⟩
      · unfold mf_M_put mf_M_put_J26
        rw [e2, if_neg (show ¬ (1 : Int32) = 0 by decide), s2, if_pos rfl, refused_2, if_neg (show ¬ (1 : Int32) = 0 by decide)]
      · unfold xf_P_put
        rw [e1]
        show (if xf_P_isSign (nI n) = 0 then some (Sum.inl 2) else _) = _
        rw [s1, if_pos rfl]
    · have hp : 12 * y + x < 96 := by omega
      have hR' := Rel_fault hR 0
      obtain ⟨s, f, dr, hd, s', a, b, e, d, dv, bv, w1, w2, w3, w4⟩ := write_ok (Fu := 97) (by omega) (h := h) (g := ms_vfault g 0) hp (SG_of s3 s4) hR'.1 hR'.2.2.2.2.2.2.2
      have hF := hR.1 _ hp
      refine ⟨97, 97, (mh_field g (12 * y + x), wM (ms_vfault g 0) s' a b e d dv bv), ?_, Or.inl ⟨(mh_field g (12 * y + x), wX h s f dr hd), ?_, ?_, rfl, Rel_wr hR' w3 w4⟩⟩
      · unfold mf_M_put mf_M_put_J26
        rw [e2, if_neg (show ¬ (1 : Int32) = 0 by decide), s2, if_neg (show ¬ (1 : Int32) = 0 by decide), refused_0, if_pos rfl, e3, gd_nI hp (by omega), Option.bind_some, w2, Option.bind_some, show mh_field (0, ms_vfault g 0).2 (12 * y + x) = mh_field g (12 * y + x) from rfl, i2c_SG hF.2]
      · unfold xf_P_put
        rw [e1]
        show (if xf_P_isSign (nI n) = 0 then some (Sum.inl 2) else Option.map Sum.inr ((gd 96 (nI (12 * y + x))).bind _)) = _
        rw [s1, if_neg (show ¬ (1 : Int32) = 0 by decide), gd_nI hp (by omega), Option.bind_some, w1, Option.bind_some, hF.1, nc_SG hF.2]
        rfl
      · rfl
theorem layL_ok {Fu y t : Nat} (hFu : 96 < Fu) (hy : y < 8) (ht : t ≤ 12) (v3 : Int32) : ∀ (r k : Nat), k + r = 12 → ∀ m, r < m → ∀ h g, Rel (xf_Line_empty 1 h) g → xh_lsize h 1 = nI t → (∀ i, i < t → xh_lchars h 1 i = mh_text g i ∧ SG (mh_text g i)) →
    ∃ h' g', xf_P_lay_L17 Fu m (nI (12 * y)) v3 (nI k) h = some (v3, xf_Line_empty 1 h') ∧ mf_M_lay_L36 Fu m (nI y) (nI t) (nI k) g = some (nI t, g') ∧ Rel (xf_Line_empty 1 h') g' ∧ mh_vfault g' = mh_vfault g := by
  intro r
  induction r with
  | zero =>
    intro k hk m hm h g hR hs ht2
    obtain ⟨m, rfl⟩ : ∃ q, m = q + 1 := ⟨m - 1, by omega⟩
    refine ⟨h, g, ?_, ?_, hR, rfl⟩
    · rw [xf_P_lay_L17, if_pos (by rw [li_12, nql (by omega) (by omega)]; omega)]
    · rw [mf_M_lay_L36, if_pos (by rw [li_12, nql (by omega) (by omega)]; omega)]
  | succ r ih =>
    intro k hk m hm h g hR hs ht2
    obtain ⟨m, rfl⟩ : ∃ q, m = q + 1 := ⟨m - 1, by omega⟩
    have hp : 12 * y + k < 96 := by omega
    obtain ⟨v, hv, c1, c2⟩ : ∃ v, SG v ∧ xf_Line_at 1 (nI k) h = some v ∧ mf_M_lay_L36 Fu (m + 1) (nI y) (nI t) (nI k) g = (mf_M_change Fu (nI (12 * y + k)) v g).bind fun q2 => mf_M_lay_L36 Fu m (nI y) (nI t) (nI (k + 1)) q2 := by
      by_cases hkt : k < t
      · refine ⟨mh_text g k, (ht2 k hkt).2, ?_, ?_⟩
        · unfold xf_Line_at
          rw [if_neg (show ¬ nI k < 0 by rw [li_0, nqt (by omega) (by omega)]; omega), hs, if_neg (by rw [nql (by omega) (by omega)]; omega), show xh_cap 1 = 12 from rfl, gd_nI (by omega) (by omega), Option.bind_some, (ht2 k hkt).1, nc_SG (ht2 k hkt).2, Option.bind_some]
        · rw [mf_M_lay_L36, if_neg (by rw [li_12, nql (by omega) (by omega)]; omega), if_neg (by rw [nql (by omega) (by omega)]; omega), gd_nI (by omega) (by omega), Option.bind_some]
          unfold mf_M_lay_J65
          rw [li_12, pk_mul, nI_add, nI_1]
      · refine ⟨32, SG_32, ?_, ?_⟩
        · unfold xf_Line_at
          rw [if_neg (show ¬ nI k < 0 by rw [li_0, nqt (by omega) (by omega)]; omega), hs, if_pos (by rw [nql (by omega) (by omega)]; omega)]
        · rw [mf_M_lay_L36, if_neg (by rw [li_12, nql (by omega) (by omega)]; omega), if_pos (by rw [nql (by omega) (by omega)]; omega)]
          unfold mf_M_lay_J65
          rw [li_12, pk_mul, nI_add, nI_1]
    obtain ⟨s, f, dr, hd, s', a, b, e, d, dv, bv, w1, w2, w3, w4⟩ := write_ok (Fu := Fu) hFu (h := h) (g := g) hp hv hR.1 hR.2.2.2.2.2.2.2
    obtain ⟨h', g', q1, q2, q3, q4⟩ := ih (k + 1) (by omega) m (by omega) (wX h s f dr hd) (wM g s' a b e d dv bv) (Rel_wr (h := xf_Line_empty 1 h) hR w3 w4) hs ht2
    refine ⟨h', g', ?_, ?_, q3, q4⟩
    · rw [xf_P_lay_L17, if_neg (by rw [li_12, nql (by omega) (by omega)]; omega), c1, Option.bind_some, nI_add, w1, Option.bind_some, nI_1]
      exact q1
    · rw [c2, w2, Option.bind_some]
      exact q2
theorem ok_lay : OK_lay Rel := by
  intro h g hR v0
  by_cases h0 : v0 < 0
  · refine ⟨97, 97, (0, ms_vfault g 1), ?_, Or.inr ⟨?_, rfl, Rel_fault hR 1⟩⟩
    · unfold mf_M_lay mf_M_lay_J11 mf_M_lay_J16
      rw [if_pos h0, refused_1, if_neg (show ¬ (1 : Int32) = 0 by decide)]
    · unfold xf_P_lay xf_P_placeAt
      rw [if_neg (by decide), if_neg (by decide), if_pos h0]
      rfl
  · obtain ⟨y, hy, rfl⟩ := nI_of h0
    by_cases h1 : y < 8
    · obtain ⟨t, ht, e1, e2, hch⟩ := id hR.2.1
      have hR1 : Rel (xf_Line_empty 1 h) (ms_vtyped (ms_vfault g 0) 0) := by
        obtain ⟨hF, hT, hO, hP, hI, hS, hQ, hB⟩ := hR
        exact ⟨hF, ⟨0, by omega, rfl, rfl, fun i hi => by omega⟩, hO, hP, hI, hS, hQ, hB⟩
      obtain ⟨h', g', q1, q2, q3, q4⟩ := layL_ok (Fu := 97) (by omega) h1 ht (nI t) 12 0 (by omega) 97 (by omega) h (ms_vtyped (ms_vfault g 0) 0) hR1 e1 hch
      refine ⟨97, 97, (nI t, g'), ?_, Or.inl ⟨(nI t, xf_Line_empty 1 h'), ?_, q4, rfl, q3⟩⟩
      · unfold mf_M_lay mf_M_lay_J16
        rw [if_neg h0, if_pos (by rw [li_7, nql (by omega) (by omega)]; omega), refused_0, if_pos rfl, Option.bind_some, show mh_vtyped (0, ms_vfault g 0).2 = nI t from e2]
        exact q2
      · unfold xf_P_lay xf_P_placeAt
        rw [if_neg (by decide), if_neg (by decide), if_neg h0, if_pos (by rw [li_8, nqt (by omega) (by omega)]; omega), e1, li_12, pk_mul, li_0, nI_add]
        show Option.map Sum.inr (xf_P_lay_L17 97 97 (nI (y * 12 + 0)) (nI t) (nI 0) h) = _
        rw [show y * 12 + 0 = 12 * y by omega, q1]
        rfl
    · refine ⟨97, 97, (0, ms_vfault g 1), ?_, Or.inr ⟨?_, rfl, Rel_fault hR 1⟩⟩
      · unfold mf_M_lay mf_M_lay_J11 mf_M_lay_J16
        rw [if_neg h0, if_neg (by rw [li_7, nql (by omega) (by omega)]; omega), refused_1, if_neg (show ¬ (1 : Int32) = 0 by decide)]
      · unfold xf_P_lay xf_P_placeAt
        rw [if_neg (by decide), if_neg (by decide), if_neg h0, if_neg (by rw [li_8, nqt (by omega) (by omega)]; omega)]
        rfl
