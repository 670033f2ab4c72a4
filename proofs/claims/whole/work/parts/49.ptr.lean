/-! one pointer's own state, on both sides -/
theorem up_up {α : Type} (f : Nat → α) (k : Nat) (a b : α) : va_up (va_up f k a) k b = va_up f k b := by
  funext i
  by_cases h : i = k
  · rw [h, up_eq, up_eq]
  · rw [up_ne h, up_ne h, up_ne h]
theorem up_id {α : Type} (f : Nat → α) (k : Nat) : va_up f k (f k) = f := by
  funext i
  by_cases h : i = k
  · rw [h, up_eq]
  · rw [up_ne h]
def UX (h : XH) (K : Nat) (w d r : Int32) (n : Nat → Int64) (s : Nat → Int32) : XH := (xh_held h, xh_dropped h, xh_row h, xh_bmarks h, xh_signs h, xh_living h, xh_given h, xh_read h, xh_steps h, xh_stopped h, xh_ptrs h, xh_innums h, xh_digits h, xh_ssize h, xh_smarks h, xh_sfound h, xh_lsize h, xh_lchars h, va_up (xh_pway h) K w, va_up (xh_pdepth h) K d, va_up (xh_pret h) K r, va_up (xh_pnums h) K n, va_up (xh_prets h) K s, xh_bbegin h, xh_bbehind h, xh_bsize h, xh_blow h, xh_bhigh h)
theorem UX_get (h : XH) (K : Nat) (w d r : Int32) (n : Nat → Int64) (s : Nat → Int32) : xh_held (UX h K w d r n s) = xh_held h ∧ xh_dropped (UX h K w d r n s) = xh_dropped h ∧ xh_row (UX h K w d r n s) = xh_row h ∧ xh_bmarks (UX h K w d r n s) = xh_bmarks h ∧ xh_signs (UX h K w d r n s) = xh_signs h ∧ xh_living (UX h K w d r n s) = xh_living h ∧ xh_given (UX h K w d r n s) = xh_given h ∧ xh_read (UX h K w d r n s) = xh_read h ∧ xh_steps (UX h K w d r n s) = xh_steps h ∧ xh_stopped (UX h K w d r n s) = xh_stopped h ∧ xh_ptrs (UX h K w d r n s) = xh_ptrs h ∧ xh_innums (UX h K w d r n s) = xh_innums h ∧ xh_digits (UX h K w d r n s) = xh_digits h ∧ xh_ssize (UX h K w d r n s) = xh_ssize h ∧ xh_smarks (UX h K w d r n s) = xh_smarks h ∧ xh_sfound (UX h K w d r n s) = xh_sfound h ∧ xh_lsize (UX h K w d r n s) = xh_lsize h ∧ xh_lchars (UX h K w d r n s) = xh_lchars h ∧ xh_pway (UX h K w d r n s) = va_up (xh_pway h) K w ∧ xh_pdepth (UX h K w d r n s) = va_up (xh_pdepth h) K d ∧ xh_pret (UX h K w d r n s) = va_up (xh_pret h) K r ∧ xh_pnums (UX h K w d r n s) = va_up (xh_pnums h) K n ∧ xh_prets (UX h K w d r n s) = va_up (xh_prets h) K s ∧ xh_bbegin (UX h K w d r n s) = xh_bbegin h ∧ xh_bbehind (UX h K w d r n s) = xh_bbehind h ∧ xh_bsize (UX h K w d r n s) = xh_bsize h ∧ xh_blow (UX h K w d r n s) = xh_blow h ∧ xh_bhigh (UX h K w d r n s) = xh_bhigh h := ⟨rfl, rfl, rfl, rfl, rfl, rfl, rfl, rfl, rfl, rfl, rfl, rfl, rfl, rfl, rfl, rfl, rfl, rfl, rfl, rfl, rfl, rfl, rfl, rfl, rfl, rfl, rfl, rfl⟩
def UM (g : MH) (i : Nat) (pl di qu si re : Int32) (st : Nat → Int64) (ba : Nat → Int32) : MH := (mh_vfault g, mh_vtyped g, mh_vinputs g, mh_vread g, mh_vshown g, mh_vwritten g, mh_vpointers g, mh_vstopped g, mh_vsteps g, mh_vblocks g, mh_vdrops g, mh_field g, mh_text g, mh_input g, mh_output g, mh_page g, mh_digits g, mh_lives g, va_up (mh_place g) i pl, va_up (mh_direction g) i di, va_up (mh_quoted g) i qu, va_up (mh_sizes g) i si, st, va_up (mh_returns g) i re, ba, mh_begins g, mh_lengths g, mh_behind g, mh_covered g, mh_met g, mh_come g)
theorem UM_get (g : MH) (i : Nat) (pl di qu si re : Int32) (st : Nat → Int64) (ba : Nat → Int32) : mh_vfault (UM g i pl di qu si re st ba) = mh_vfault g ∧ mh_vtyped (UM g i pl di qu si re st ba) = mh_vtyped g ∧ mh_vinputs (UM g i pl di qu si re st ba) = mh_vinputs g ∧ mh_vread (UM g i pl di qu si re st ba) = mh_vread g ∧ mh_vshown (UM g i pl di qu si re st ba) = mh_vshown g ∧ mh_vwritten (UM g i pl di qu si re st ba) = mh_vwritten g ∧ mh_vpointers (UM g i pl di qu si re st ba) = mh_vpointers g ∧ mh_vstopped (UM g i pl di qu si re st ba) = mh_vstopped g ∧ mh_vsteps (UM g i pl di qu si re st ba) = mh_vsteps g ∧ mh_vblocks (UM g i pl di qu si re st ba) = mh_vblocks g ∧ mh_vdrops (UM g i pl di qu si re st ba) = mh_vdrops g ∧ mh_field (UM g i pl di qu si re st ba) = mh_field g ∧ mh_text (UM g i pl di qu si re st ba) = mh_text g ∧ mh_input (UM g i pl di qu si re st ba) = mh_input g ∧ mh_output (UM g i pl di qu si re st ba) = mh_output g ∧ mh_page (UM g i pl di qu si re st ba) = mh_page g ∧ mh_digits (UM g i pl di qu si re st ba) = mh_digits g ∧ mh_lives (UM g i pl di qu si re st ba) = mh_lives g ∧ mh_place (UM g i pl di qu si re st ba) = va_up (mh_place g) i pl ∧ mh_direction (UM g i pl di qu si re st ba) = va_up (mh_direction g) i di ∧ mh_quoted (UM g i pl di qu si re st ba) = va_up (mh_quoted g) i qu ∧ mh_sizes (UM g i pl di qu si re st ba) = va_up (mh_sizes g) i si ∧ mh_stacks (UM g i pl di qu si re st ba) = st ∧ mh_returns (UM g i pl di qu si re st ba) = va_up (mh_returns g) i re ∧ mh_back (UM g i pl di qu si re st ba) = ba ∧ mh_begins (UM g i pl di qu si re st ba) = mh_begins g ∧ mh_lengths (UM g i pl di qu si re st ba) = mh_lengths g ∧ mh_behind (UM g i pl di qu si re st ba) = mh_behind g ∧ mh_covered (UM g i pl di qu si re st ba) = mh_covered g ∧ mh_met (UM g i pl di qu si re st ba) = mh_met g ∧ mh_come (UM g i pl di qu si re st ba) = mh_come g := ⟨rfl, rfl, rfl, rfl, rfl, rfl, rfl, rfl, rfl, rfl, rfl, rfl, rfl, rfl, rfl, rfl, rfl, rfl, rfl, rfl, rfl, rfl, rfl, rfl, rfl, rfl, rfl, rfl, rfl, rfl, rfl⟩
theorem UX_id (h : XH) (K : Nat) : UX h K (xh_pway h K) (xh_pdepth h K) (xh_pret h K) (xh_pnums h K) (xh_prets h K) = h := by
  unfold UX
  rw [up_id, up_id, up_id, up_id, up_id]
  rfl
theorem UM_id (g : MH) (i : Nat) : UM g i (mh_place g i) (mh_direction g i) (mh_quoted g i) (mh_sizes g i) (mh_returns g i) (mh_stacks g) (mh_back g) = g := by
  unfold UM
  rw [up_id, up_id, up_id, up_id, up_id]
  rfl
theorem UX_pway {h : XH} {K : Nat} {w d r : Int32} {n : Nat → Int64} {s : Nat → Int32} : xh_pway (UX h K w d r n s) K = w := up_eq
theorem UX_pdepth {h : XH} {K : Nat} {w d r : Int32} {n : Nat → Int64} {s : Nat → Int32} : xh_pdepth (UX h K w d r n s) K = d := up_eq
theorem UX_pret {h : XH} {K : Nat} {w d r : Int32} {n : Nat → Int64} {s : Nat → Int32} : xh_pret (UX h K w d r n s) K = r := up_eq
theorem UX_pnums {h : XH} {K : Nat} {w d r : Int32} {n : Nat → Int64} {s : Nat → Int32} : xh_pnums (UX h K w d r n s) K = n := up_eq
theorem UX_prets {h : XH} {K : Nat} {w d r : Int32} {n : Nat → Int64} {s : Nat → Int32} : xh_prets (UX h K w d r n s) K = s := up_eq
theorem UM_place {g : MH} {i : Nat} {pl di qu si re : Int32} {st : Nat → Int64} {ba : Nat → Int32} : mh_place (UM g i pl di qu si re st ba) i = pl := up_eq
theorem UM_direction {g : MH} {i : Nat} {pl di qu si re : Int32} {st : Nat → Int64} {ba : Nat → Int32} : mh_direction (UM g i pl di qu si re st ba) i = di := up_eq
theorem UM_quoted {g : MH} {i : Nat} {pl di qu si re : Int32} {st : Nat → Int64} {ba : Nat → Int32} : mh_quoted (UM g i pl di qu si re st ba) i = qu := up_eq
theorem UM_sizes {g : MH} {i : Nat} {pl di qu si re : Int32} {st : Nat → Int64} {ba : Nat → Int32} : mh_sizes (UM g i pl di qu si re st ba) i = si := up_eq
theorem UM_returns {g : MH} {i : Nat} {pl di qu si re : Int32} {st : Nat → Int64} {ba : Nat → Int32} : mh_returns (UM g i pl di qu si re st ba) i = re := up_eq
theorem UM_stacks {g : MH} {i : Nat} {pl di qu si re : Int32} {st : Nat → Int64} {ba : Nat → Int32} : mh_stacks (UM g i pl di qu si re st ba) = st := rfl
theorem UM_back {g : MH} {i : Nat} {pl di qu si re : Int32} {st : Nat → Int64} {ba : Nat → Int32} : mh_back (UM g i pl di qu si re st ba) = ba := rfl
theorem UX_s_pway {h : XH} {K : Nat} {w d r : Int32} {n : Nat → Int64} {s : Nat → Int32} {v : Int32} : xs_pway (UX h K w d r n s) K v = UX h K v d r n s := by
  unfold xs_pway
  rw [show va_up (xh_pway (UX h K w d r n s)) K v = va_up (xh_pway h) K v from up_up _ _ _ _]
  rfl
theorem UX_s_pdepth {h : XH} {K : Nat} {w d r : Int32} {n : Nat → Int64} {s : Nat → Int32} {v : Int32} : xs_pdepth (UX h K w d r n s) K v = UX h K w v r n s := by
  unfold xs_pdepth
  rw [show va_up (xh_pdepth (UX h K w d r n s)) K v = va_up (xh_pdepth h) K v from up_up _ _ _ _]
  rfl
theorem UX_s_pret {h : XH} {K : Nat} {w d r : Int32} {n : Nat → Int64} {s : Nat → Int32} {v : Int32} : xs_pret (UX h K w d r n s) K v = UX h K w d v n s := by
  unfold xs_pret
  rw [show va_up (xh_pret (UX h K w d r n s)) K v = va_up (xh_pret h) K v from up_up _ _ _ _]
  rfl
theorem UX_s_pnums {h : XH} {K : Nat} {w d r : Int32} {n : Nat → Int64} {s : Nat → Int32} {j : Nat} {v : Int64} : xs_pnums (UX h K w d r n s) K j v = UX h K w d r (va_up n j v) s := by
  unfold xs_pnums
  rw [UX_pnums, show va_up (xh_pnums (UX h K w d r n s)) K (va_up n j v) = va_up (xh_pnums h) K (va_up n j v) from up_up _ _ _ _]
  rfl
theorem UX_s_prets {h : XH} {K : Nat} {w d r : Int32} {n : Nat → Int64} {s : Nat → Int32} {j : Nat} {v : Int32} : xs_prets (UX h K w d r n s) K j v = UX h K w d r n (va_up s j v) := by
  unfold xs_prets
  rw [UX_prets, show va_up (xh_prets (UX h K w d r n s)) K (va_up s j v) = va_up (xh_prets h) K (va_up s j v) from up_up _ _ _ _]
  rfl
theorem UM_s_place {g : MH} {i : Nat} {pl di qu si re : Int32} {st : Nat → Int64} {ba : Nat → Int32} {v : Int32} : ms_place (UM g i pl di qu si re st ba) i v = UM g i v di qu si re st ba := by
  unfold ms_place
  rw [show va_up (mh_place (UM g i pl di qu si re st ba)) i v = va_up (mh_place g) i v from up_up _ _ _ _]
  rfl
theorem UM_s_direction {g : MH} {i : Nat} {pl di qu si re : Int32} {st : Nat → Int64} {ba : Nat → Int32} {v : Int32} : ms_direction (UM g i pl di qu si re st ba) i v = UM g i pl v qu si re st ba := by
  unfold ms_direction
  rw [show va_up (mh_direction (UM g i pl di qu si re st ba)) i v = va_up (mh_direction g) i v from up_up _ _ _ _]
  rfl
theorem UM_s_quoted {g : MH} {i : Nat} {pl di qu si re : Int32} {st : Nat → Int64} {ba : Nat → Int32} {v : Int32} : ms_quoted (UM g i pl di qu si re st ba) i v = UM g i pl di v si re st ba := by
  unfold ms_quoted
  rw [show va_up (mh_quoted (UM g i pl di qu si re st ba)) i v = va_up (mh_quoted g) i v from up_up _ _ _ _]
  rfl
theorem UM_s_sizes {g : MH} {i : Nat} {pl di qu si re : Int32} {st : Nat → Int64} {ba : Nat → Int32} {v : Int32} : ms_sizes (UM g i pl di qu si re st ba) i v = UM g i pl di qu v re st ba := by
  unfold ms_sizes
  rw [show va_up (mh_sizes (UM g i pl di qu si re st ba)) i v = va_up (mh_sizes g) i v from up_up _ _ _ _]
  rfl
theorem UM_s_returns {g : MH} {i : Nat} {pl di qu si re : Int32} {st : Nat → Int64} {ba : Nat → Int32} {v : Int32} : ms_returns (UM g i pl di qu si re st ba) i v = UM g i pl di qu si v st ba := by
  unfold ms_returns
  rw [show va_up (mh_returns (UM g i pl di qu si re st ba)) i v = va_up (mh_returns g) i v from up_up _ _ _ _]
  rfl
theorem UM_s_stacks {g : MH} {i : Nat} {pl di qu si re : Int32} {st : Nat → Int64} {ba : Nat → Int32} {j : Nat} {v : Int64} : ms_stacks (UM g i pl di qu si re st ba) j v = UM g i pl di qu si re (va_up st j v) ba := rfl
theorem UM_s_back {g : MH} {i : Nat} {pl di qu si re : Int32} {st : Nat → Int64} {ba : Nat → Int32} {j : Nat} {v : Int32} : ms_back (UM g i pl di qu si re st ba) j v = UM g i pl di qu si re st (va_up ba j v) := rfl
theorem UX_c {h : XH} {K : Nat} {w d r : Int32} {n : Nat → Int64} {s : Nat → Int32} : (∀ j v, xs_digits (UX h K w d r n s) j v = UX (xs_digits h j v) K w d r n s) ∧ (∀ k v, xs_lsize (UX h K w d r n s) k v = UX (xs_lsize h k v) K w d r n s) ∧ (∀ k j v, xs_lchars (UX h K w d r n s) k j v = UX (xs_lchars h k j v) K w d r n s) ∧ (∀ v, xs_read (UX h K w d r n s) v = UX (xs_read h v) K w d r n s) ∧ (∀ a b c e, wX (UX h K w d r n s) a b c e = UX (wX h a b c e) K w d r n s) := ⟨fun _ _ => rfl, fun _ _ => rfl, fun _ _ _ => rfl, fun _ => rfl, fun _ _ _ _ => rfl⟩
theorem UM_c {g : MH} {i : Nat} {pl di qu si re : Int32} {st : Nat → Int64} {ba : Nat → Int32} : (∀ j v, ms_digits (UM g i pl di qu si re st ba) j v = UM (ms_digits g j v) i pl di qu si re st ba) ∧ (∀ v, ms_vshown (UM g i pl di qu si re st ba) v = UM (ms_vshown g v) i pl di qu si re st ba) ∧ (∀ j v, ms_output (UM g i pl di qu si re st ba) j v = UM (ms_output g j v) i pl di qu si re st ba) ∧ (∀ v, ms_vread (UM g i pl di qu si re st ba) v = UM (ms_vread g v) i pl di qu si re st ba) ∧ (∀ v, ms_vstopped (UM g i pl di qu si re st ba) v = UM (ms_vstopped g v) i pl di qu si re st ba) ∧ (∀ s a b e d x y, wM (UM g i pl di qu si re st ba) s a b e d x y = UM (wM g s a b e d x y) i pl di qu si re st ba) := ⟨fun _ _ => rfl, fun _ => rfl, fun _ _ => rfl, fun _ => rfl, fun _ => rfl, fun _ _ _ _ _ _ _ => rfl⟩
def pv (D : Nat) (n : Nat → Int64) : Int64 := if D = 0 then 0 else n (D - 1)
theorem popX {h : XH} {K : Nat} {w r : Int32} {n : Nat → Int64} {s : Nat → Int32} {D : Nat} (hD : D ≤ 24) : xf_Ptr_pop K (UX h K w (nI D) r n s) = some (pv D n, UX h K w (nI (D - 1)) r n s) := by
  unfold xf_Ptr_pop pv
  rw [UX_pdepth]
  by_cases h0 : D = 0
  · subst h0
    rw [if_pos (show nI 0 = (0 : Int32) from rfl), if_pos rfl]
  · rw [if_neg (show ¬ nI D = (0 : Int32) by rw [li_0, nqe (by omega) (by omega)]; exact h0), if_neg h0, li_1, pk_sub (by omega), UX_s_pdepth, Option.bind_some, UX_pdepth, gd_nI (by omega) (by omega), Option.bind_some, UX_pnums]
theorem pushX {h : XH} {K : Nat} {w r : Int32} {n : Nat → Int64} {s : Nat → Int32} {D : Nat} (hD : D < 24) {v : Int64} : xf_Ptr_push K v (UX h K w (nI D) r n s) = some (UX h K w (nI (D + 1)) r (va_up n D v) s) := by
  unfold xf_Ptr_push
  rw [UX_pdepth, if_neg (by rw [li_24, nql (by omega) (by omega)]; omega), gd_nI (by omega) (by omega), Option.bind_some, UX_s_pnums, Option.bind_some, UX_pdepth, UX_s_pdepth, Option.bind_some, nI_1]
theorem popM {g : MH} {i : Nat} {pl di qu re : Int32} {st : Nat → Int64} {ba : Nat → Int32} {D : Nat} (hi : i < 8) (hD : D ≤ 24) : mf_M_pop (nI i) (UM g i pl di qu (nI D) re st ba) = some (pv D (fun j => st (24 * i + j)), UM g i pl di qu (nI (D - 1)) re st ba) := by
  unfold mf_M_pop pv
  rw [gd_nI hi (by omega), Option.bind_some, UM_sizes]
  by_cases h0 : D = 0
  · subst h0
    rw [if_pos (show nI 0 = (0 : Int32) from rfl), if_pos rfl]
  · rw [if_neg (show ¬ nI D = (0 : Int32) by rw [li_0, nqe (by omega) (by omega)]; exact h0), if_neg h0, Option.bind_some, Option.bind_some, UM_sizes, li_1, pk_sub (by omega), UM_s_sizes, Option.bind_some, Option.bind_some, UM_sizes, li_24, pk_mul, nI_add, gd_nI (by omega) (by omega), Option.bind_some, UM_stacks]
theorem pushM {g : MH} {i : Nat} {pl di qu re : Int32} {st : Nat → Int64} {ba : Nat → Int32} {D : Nat} (hi : i < 8) (hD : D < 24) {v : Int64} : mf_M_push (nI i) v (UM g i pl di qu (nI D) re st ba) = some (UM g i pl di qu (nI (D + 1)) re (va_up st (24 * i + D) v) ba) := by
  unfold mf_M_push
  rw [gd_nI hi (by omega), Option.bind_some, UM_sizes, li_24, pk_mul, nI_add, gd_nI (by omega) (by omega), Option.bind_some, UM_s_stacks, Option.bind_some, Option.bind_some, Option.bind_some, UM_sizes, UM_s_sizes, Option.bind_some, nI_1]
def LK (i D : Nat) (n : Nat → Int64) (st st0 : Nat → Int64) : Prop := D ≤ 24 ∧ (∀ j, j < D → n j = st (24 * i + j)) ∧ ∀ y, y < 24 * i ∨ 24 * i + 24 ≤ y → st y = st0 y
theorem LK_pv {i D : Nat} {n st st0 : Nat → Int64} (h : LK i D n st st0) : pv D (fun j => st (24 * i + j)) = pv D n := by
  unfold pv
  by_cases h0 : D = 0
  · rw [if_pos h0, if_pos h0]
  · rw [if_neg h0, if_neg h0, h.2.1 (D - 1) (by omega)]
theorem LK_pop {i D : Nat} {n st st0 : Nat → Int64} (h : LK i D n st st0) : LK i (D - 1) n st st0 := ⟨by have := h.1; omega, fun j hj => h.2.1 j (by omega), h.2.2⟩
theorem LK_push {i D : Nat} {n st st0 : Nat → Int64} (h : LK i D n st st0) (hD : D < 24) (v : Int64) : LK i (D + 1) (va_up n D v) (va_up st (24 * i + D) v) st0 := by
  refine ⟨by omega, fun j hj => ?_, fun y hy => ?_⟩
  · by_cases h0 : j = D
    · rw [h0, up_eq, up_eq]
    · rw [up_ne h0, up_ne (by omega)]
      exact h.2.1 j (by omega)
  · rw [up_ne (by omega)]
    exact h.2.2 y hy
