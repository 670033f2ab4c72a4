/-! a second pointer: forking, counting the living -/
theorem up_comm {α : Type} {f : Nat → α} {j k : Nat} {a b : α} (h : j ≠ k) : va_up (va_up f j a) k b = va_up (va_up f k b) j a := by
  funext i
  by_cases h1 : i = k
  · rw [h1, up_eq, up_ne (Ne.symm h), up_eq]
  · by_cases h2 : i = j
    · rw [h2, up_ne h, up_eq, up_eq]
    · rw [up_ne h1, up_ne h2, up_ne h2, up_ne h1]
def cnt (f : Nat → Int32) : Nat → Nat
  | 0 => 0
  | x + 1 => cnt f x + (if f x = 0 then 0 else 1)
theorem cnt_le (f : Nat → Int32) : ∀ x, cnt f x ≤ x
  | 0 => Nat.le_refl _
  | x + 1 => by
    have := cnt_le f x
    unfold cnt
    split <;> omega
theorem living_L {F : Nat} {g : MH} {V : Nat} (hV : V ≤ 8) (hv : mh_vpointers g = nI V) : ∀ (r x : Nat), x + r = V → ∀ m, r < m → mf_M_living_L4 F m (nI (cnt (mh_lives g) x)) (nI x) g = some (nI (cnt (mh_lives g) V)) := by
  intro r
  induction r with
  | zero =>
    intro x hx m hm
    obtain ⟨m, rfl⟩ : ∃ q, m = q + 1 := ⟨m - 1, by omega⟩
    rw [mf_M_living_L4, hv, if_pos (by rw [nql (by omega) (by omega)]; omega), show x = V by omega]
  | succ r ih =>
    intro x hx m hm
    obtain ⟨m, rfl⟩ : ∃ q, m = q + 1 := ⟨m - 1, by omega⟩
    rw [mf_M_living_L4, hv, if_neg (by rw [nql (by omega) (by omega)]; omega), gd_nI (by omega) (by omega), Option.bind_some]
    unfold mf_M_living_J28
    have hi := ih (x + 1) (by omega) m (by omega)
    by_cases h0 : mh_lives g x = 0
    · rw [show cnt (mh_lives g) (x + 1) = cnt (mh_lives g) x by show _ + (if _ then 0 else 1) = _; rw [if_pos h0]; rfl] at hi
      rw [if_pos h0, nI_1]
      exact hi
    · rw [show cnt (mh_lives g) (x + 1) = cnt (mh_lives g) x + 1 by show _ + (if _ then 0 else 1) = _; rw [if_neg h0]] at hi
      rw [if_neg h0, nI_1, nI_1]
      exact hi
theorem living_ok {F : Nat} {g : MH} {V : Nat} (hF : 20 < F) (hV : V ≤ 8) (hv : mh_vpointers g = nI V) : mf_M_living F g = some (nI (cnt (mh_lives g) V)) :=
  living_L hV hv V 0 (by omega) F (by omega)
theorem UX_k_pway {h : XH} {K k : Nat} {w d r : Int32} {n : Nat → Int64} {s : Nat → Int32} {v : Int32} (hk : K ≠ k) : xs_pway (UX h K w d r n s) k v = UX (xs_pway h k v) K w d r n s := by
  unfold xs_pway
  rw [show va_up (xh_pway (UX h K w d r n s)) k v = va_up (va_up (xh_pway h) k v) K w from up_comm hk]
  rfl
theorem UX_k_pdepth {h : XH} {K k : Nat} {w d r : Int32} {n : Nat → Int64} {s : Nat → Int32} {v : Int32} (hk : K ≠ k) : xs_pdepth (UX h K w d r n s) k v = UX (xs_pdepth h k v) K w d r n s := by
  unfold xs_pdepth
  rw [show va_up (xh_pdepth (UX h K w d r n s)) k v = va_up (va_up (xh_pdepth h) k v) K d from up_comm hk]
  rfl
theorem UX_k_pret {h : XH} {K k : Nat} {w d r : Int32} {n : Nat → Int64} {s : Nat → Int32} {v : Int32} (hk : K ≠ k) : xs_pret (UX h K w d r n s) k v = UX (xs_pret h k v) K w d r n s := by
  unfold xs_pret
  rw [show va_up (xh_pret (UX h K w d r n s)) k v = va_up (va_up (xh_pret h) k v) K r from up_comm hk]
  rfl
theorem UX_k_pnums {h : XH} {K k : Nat} {w d r : Int32} {n : Nat → Int64} {s : Nat → Int32} {j : Nat} {v : Int64} (hk : K ≠ k) : xs_pnums (UX h K w d r n s) k j v = UX (xs_pnums h k j v) K w d r n s := by
  unfold xs_pnums
  rw [show xh_pnums (UX h K w d r n s) k = xh_pnums h k from up_ne (Ne.symm hk), show va_up (xh_pnums (UX h K w d r n s)) k (va_up (xh_pnums h k) j v) = va_up (va_up (xh_pnums h) k (va_up (xh_pnums h k) j v)) K n from up_comm hk]
  rfl
theorem UX_k_living {h : XH} {K : Nat} {w d r : Int32} {n : Nat → Int64} {s : Nat → Int32} {v : Int32} : xs_living (UX h K w d r n s) v = UX (xs_living h v) K w d r n s := rfl
theorem UM_k_place {g : MH} {i k : Nat} {pl di qu si re : Int32} {st : Nat → Int64} {ba : Nat → Int32} {v : Int32} (hk : i ≠ k) : ms_place (UM g i pl di qu si re st ba) k v = UM (ms_place g k v) i pl di qu si re st ba := by
  unfold ms_place
  rw [show va_up (mh_place (UM g i pl di qu si re st ba)) k v = va_up (va_up (mh_place g) k v) i pl from up_comm hk]
  rfl
theorem UM_k_direction {g : MH} {i k : Nat} {pl di qu si re : Int32} {st : Nat → Int64} {ba : Nat → Int32} {v : Int32} (hk : i ≠ k) : ms_direction (UM g i pl di qu si re st ba) k v = UM (ms_direction g k v) i pl di qu si re st ba := by
  unfold ms_direction
  rw [show va_up (mh_direction (UM g i pl di qu si re st ba)) k v = va_up (va_up (mh_direction g) k v) i di from up_comm hk]
  rfl
theorem UM_k_quoted {g : MH} {i k : Nat} {pl di qu si re : Int32} {st : Nat → Int64} {ba : Nat → Int32} {v : Int32} (hk : i ≠ k) : ms_quoted (UM g i pl di qu si re st ba) k v = UM (ms_quoted g k v) i pl di qu si re st ba := by
  unfold ms_quoted
  rw [show va_up (mh_quoted (UM g i pl di qu si re st ba)) k v = va_up (va_up (mh_quoted g) k v) i qu from up_comm hk]
  rfl
theorem UM_k_sizes {g : MH} {i k : Nat} {pl di qu si re : Int32} {st : Nat → Int64} {ba : Nat → Int32} {v : Int32} (hk : i ≠ k) : ms_sizes (UM g i pl di qu si re st ba) k v = UM (ms_sizes g k v) i pl di qu si re st ba := by
  unfold ms_sizes
  rw [show va_up (mh_sizes (UM g i pl di qu si re st ba)) k v = va_up (va_up (mh_sizes g) k v) i si from up_comm hk]
  rfl
theorem UM_k_returns {g : MH} {i k : Nat} {pl di qu si re : Int32} {st : Nat → Int64} {ba : Nat → Int32} {v : Int32} (hk : i ≠ k) : ms_returns (UM g i pl di qu si re st ba) k v = UM (ms_returns g k v) i pl di qu si re st ba := by
  unfold ms_returns
  rw [show va_up (mh_returns (UM g i pl di qu si re st ba)) k v = va_up (va_up (mh_returns g) k v) i re from up_comm hk]
  rfl
theorem UM_k_lives {g : MH} {i k : Nat} {pl di qu si re : Int32} {st : Nat → Int64} {ba : Nat → Int32} {v : Int32} : ms_lives (UM g i pl di qu si re st ba) k v = UM (ms_lives g k v) i pl di qu si re st ba := rfl
theorem UM_k_vpointers {g : MH} {i : Nat} {pl di qu si re : Int32} {st : Nat → Int64} {ba : Nat → Int32} {v : Int32} : ms_vpointers (UM g i pl di qu si re st ba) v = UM (ms_vpointers g v) i pl di qu si re st ba := rfl
theorem begin_ok {h : XH} {k : Nat} {w : Int32} : xf_Ptr_begin k w h = UX h k w (nI 0) (nI 0) (xh_pnums h k) (xh_prets h k) := by
  unfold xf_Ptr_begin
  conv => lhs; rw [← UX_id h k]
  rw [UX_s_pway, UX_s_pdepth, UX_s_pret]
  rfl
def fkX (h : XH) (K k : Nat) (L : Nat) (w1 w : Nat) (D r : Nat) (v : Int64) (n : Nat → Int64) (s : Nat → Int32) : XH := UX (UX (xs_living h (nI (L + 1))) k (nI w1) (nI 1) (nI 0) (va_up (xh_pnums h k) 0 v) (xh_prets h k)) K (nI w) (nI D) (nI r) n s
def fkM (g : MH) (i V : Nat) (w1 w : Nat) (D r : Nat) (v : Int64) (st : Nat → Int64) (ba : Nat → Int32) : MH := UM (UM (ms_lives (ms_vpointers g (nI (V + 1))) V 1) V (nI (w1 / 8)) (nI (w1 / 2 % 4)) (nI 0) (nI 1) (nI 0) st ba) i (nI (w / 8)) (nI (w / 2 % 4)) (nI 0) (nI D) (nI r) (va_up st (24 * V) v) ba
theorem forkX {h : XH} {K k p d D r L : Nat} {n : Nat → Int64} {s : Nat → Int32} (hp : p < 96) (hd : d < 4) (hD : D ≤ 24) (hL : L < 4) (hlv : xh_living h = nI L) (hk : xh_ptrs h L = k) (hk4 : k < 4) (hne : K ≠ k) : xf_Run_fork K (UX h K (nI (8 * p + 2 * d)) (nI D) (nI r) n s) = some (0, fkX h K k L (8 * mv p ((d + 3) % 4) + 2 * ((d + 3) % 4)) (8 * mv p d + 2 * d) (D - 1) r (pv D n) n s) := by
  unfold xf_Run_fork fkX
  have l1 : xh_living (UX h K (nI (8 * p + 2 * d)) (nI (D - 1)) (nI r) n s) = nI L := by simp only [UX_get]; exact hlv
  have l2 : xh_ptrs (UX h K (nI (8 * p + 2 * d)) (nI (D - 1)) (nI r) n s) L = k := by simp only [UX_get]; exact hk
  rw [popX hD, Option.bind_some, l1, if_neg (show ¬ (4 : Int32) ≤ nI L by rw [li_4, nql (by omega) (by omega)]; omega), gd_nI hL (by omega), Option.bind_some, l2, gn_ok hk4, Option.bind_some, nI_1, UX_k_living, Option.bind_some, UX_pway, leftE hp hd, aheadE hp (by omega)]
  unfold xf_Ptr_begin
  rw [UX_k_pway hne, UX_k_pdepth hne, UX_k_pret hne]
  have e : xs_pret (xs_pdepth (xs_pway (xs_living h (nI (L + 1))) k (nI (8 * mv p ((d + 3) % 4) + 2 * ((d + 3) % 4)))) k 0) k 0 = UX (xs_living h (nI (L + 1))) k (nI (8 * mv p ((d + 3) % 4) + 2 * ((d + 3) % 4))) (nI 0) (nI 0) (xh_pnums h k) (xh_prets h k) := by
    have := begin_ok (h := xs_living h (nI (L + 1))) (k := k) (w := nI (8 * mv p ((d + 3) % 4) + 2 * ((d + 3) % 4)))
    simp only [gx_living] at this
    exact this
  rw [e]
  unfold xf_Ptr_push
  have q1 : ∀ h0 w0 r0 n0 s0, xh_pdepth (UX (UX h0 k w0 (nI 0) r0 n0 s0) K (nI (8 * p + 2 * d)) (nI (D - 1)) (nI r) n s) k = nI 0 := by
    intro h0 w0 r0 n0 s0
    simp only [UX_get]
    rw [up_ne (Ne.symm hne), up_eq]
  rw [q1, if_neg (show ¬ (24 : Int32) ≤ nI 0 by decide), gd_nI (show 0 < 24 by omega) (by omega), Option.bind_some, UX_k_pnums hne, UX_s_pnums, Option.bind_some, q1, nI_1, UX_k_pdepth hne, UX_s_pdepth, Option.bind_some, Option.bind_some, UX_pway, aheadE hp hd, UX_s_pway, Option.bind_some]
theorem UM_flat (g : MH) (i : Nat) (pl di qu si re : Int32) (st : Nat → Int64) (ba : Nat → Int32) : UM g i pl di qu si re st ba = (mh_vfault g, mh_vtyped g, mh_vinputs g, mh_vread g, mh_vshown g, mh_vwritten g, mh_vpointers g, mh_vstopped g, mh_vsteps g, mh_vblocks g, mh_vdrops g, mh_field g, mh_text g, mh_input g, mh_output g, mh_page g, mh_digits g, mh_lives g, va_up (mh_place g) i pl, va_up (mh_direction g) i di, va_up (mh_quoted g) i qu, va_up (mh_sizes g) i si, st, va_up (mh_returns g) i re, ba, mh_begins g, mh_lengths g, mh_behind g, mh_covered g, mh_met g, mh_come g) := rfl
theorem UM_in {g : MH} {i V : Nat} {a b c e f pl di qu si re : Int32} {st st1 st2 : Nat → Int64} {ba ba1 ba2 : Nat → Int32} : UM (UM g V a b c e f st1 ba1) i pl di qu si re st ba = UM (UM g V a b c e f st2 ba2) i pl di qu si re st ba := by
  rw [UM_flat (UM g V a b c e f st1 ba1), UM_flat (UM g V a b c e f st2 ba2)]
  simp only [UM_get]
theorem bornM {g : MH} {i V : Nat} {pl di qu si re a b : Int32} {st : Nat → Int64} {ba : Nat → Int32} (hV : V < 8) (hv : mh_vpointers g = nI V) (hne : i ≠ V) : mf_M_born a b (UM g i pl di qu si re st ba) = some (UM (UM (ms_lives (ms_vpointers g (nI (V + 1))) V 1) V a b (nI 0) (nI 0) (nI 0) st ba) i pl di qu si re st ba) := by
  unfold mf_M_born
  rw [show mh_vpointers (UM g i pl di qu si re st ba) = nI V by simp only [UM_get]; exact hv, gd_nI hV (by omega), nI_1]
  simp only [Option.bind_some]
  rw [UM_k_vpointers, UM_k_lives, UM_k_place hne, UM_k_direction hne, UM_k_quoted hne, UM_k_sizes hne, UM_k_returns hne]
  have e : ∀ g0 : MH, ms_returns (ms_sizes (ms_quoted (ms_direction (ms_place g0 V a) V b) V (vp_nar .boolean 0)) V 0) V 0 = UM g0 V a b (nI 0) (nI 0) (nI 0) (mh_stacks g0) (mh_back g0) := by
    intro g0
    conv => lhs; rw [← UM_id g0 V]
    rw [UM_s_place, UM_s_direction, UM_s_quoted, UM_s_sizes, UM_s_returns]
    rfl
  rw [e, show vp_nar .boolean (1 : Int32) = 1 from rfl, UM_in]
theorem forkM {F : Nat} {g : MH} {i V p d D r : Nat} {st : Nat → Int64} {ba : Nat → Int32} (hF : 20 < F) (hi : i < 8) (hp : p < 96) (hd : d < 4) (hD : D ≤ 24) (hV : V < 8) (hv : mh_vpointers g = nI V) (hne : i ≠ V) (hl : cnt (mh_lives g) V < 4) : mf_M_doOne F (nI i) (nI 102) (UM g i (nI p) (nI d) (nI 0) (nI D) (nI r) st ba) = some (UM (UM (ms_lives (ms_vpointers g (nI (V + 1))) V 1) V (nI (mv p ((d + 3) % 4))) (nI ((d + 3) % 4)) (nI 0) (nI 1) (nI 0) st ba) i (nI p) (nI d) (nI 0) (nI (D - 1)) (nI r) (va_up st (24 * V) (pv D (fun j => st (24 * i + j)))) ba) := by
  unfold mf_M_doOne
  have l0 : mf_M_living F (UM g i (nI p) (nI d) (nI 0) (nI (D - 1)) (nI r) st ba) = some (nI (cnt (mh_lives g) V)) := by
    have := living_ok (F := F) (g := UM g i (nI p) (nI d) (nI 0) (nI (D - 1)) (nI r) st ba) (V := V) hF (by omega) (by simp only [UM_get]; exact hv)
    simp only [UM_get] at this
    exact this
  rw [popM hi hD, Option.bind_some, if_neg (show ¬ nI 102 = (99 : Int32) by decide), if_neg (show ¬ nI 102 = (114 : Int32) by decide), if_neg (show ¬ nI 102 = (63 : Int32) by decide), if_neg (show ¬ nI 102 = (110 : Int32) by decide), if_neg (show ¬ nI 102 = (98 : Int32) by decide), if_pos (show nI 102 = (102 : Int32) from rfl), l0, Option.bind_some, if_neg (show ¬ (4 : Int32) ≤ nI (cnt (mh_lives g) V) by rw [li_4, nql (by omega) (by omega)]; omega), gd_nI hi (by omega), Option.bind_some, Option.bind_some, UM_place, UM_direction, li_3, nI_add, rm4 (by omega), mm_moved p hp _ (by omega), bornM hV hv hne, Option.bind_some]
  have l1 : mh_vpointers (UM (UM (ms_lives (ms_vpointers g (nI (V + 1))) V 1) V (nI (mv p ((d + 3) % 4))) (nI ((d + 3) % 4)) (nI 0) (nI 0) (nI 0) st ba) i (nI p) (nI d) (nI 0) (nI (D - 1)) (nI r) st ba) - 1 = nI V := by
    simp only [UM_get, gm_lives, gm_vpointers]
    rw [li_1, pk_sub (by omega)]
    rfl
  rw [l1]
  unfold mf_M_push
  have q1 : ∀ g0 a b c e st1 ba1 st2, mh_sizes (UM (UM g0 V a b c (nI 0) e st1 ba1) i (nI p) (nI d) (nI 0) (nI (D - 1)) (nI r) st2 ba) V = nI 0 := by
    intro g0 a b c e st1 ba1 st2
    simp only [UM_get]
    rw [up_ne (Ne.symm hne), up_eq]
  rw [gd_nI hV (by omega), Option.bind_some, q1, li_24, pk_mul, nI_add, gd_nI (by omega) (by omega), Option.bind_some, UM_s_stacks, Option.bind_some, Option.bind_some, Option.bind_some, q1, nI_1, UM_k_sizes hne, UM_s_sizes, Option.bind_some, Option.bind_some]
  simp only [Nat.add_zero, Nat.zero_add]
theorem ac_102 {F : Nat} {h : XH} {g : MH} {K i p d D r L V : Nat} {n : Nat → Int64} {s : Nat → Int32} {st st0 : Nat → Int64} {ba ba0 : Nat → Int32} (hFu : 96 < F) (hi : i < 8) (hp : p < 96) (hd : d < 4) (hr8 : r ≤ 8) (hG : GL h g) (hL : LK i D n st st0) (hT : RT i r s ba ba0) (hf : mh_field g p = nI 102) (hV : V ≤ 8) (hv : mh_vpointers g = nI V) (hc : cnt (mh_lives g) V = L) (hlv : xh_living h = nI L) (hL4 : L ≤ 4) (hne : i ≠ V) (hV8 : L < 4 → V < 8 ∧ xh_ptrs h L < 4 ∧ K ≠ xh_ptrs h L) :
    mf_M_fits F (nI i) (UM g i (nI p) (nI d) (nI 0) (nI D) (nI r) st ba) = some (0, UM g i (nI p) (nI d) (nI 0) (nI D) (nI r) st ba) ∧ ((L = 4 ∧ OA h g K i st0 ba0 (xf_Run_act F K (nI 102) (UX h K (nI (8 * p + 2 * d)) (nI D) (nI r) n s)) (mf_M_act F (nI i) (UM g i (nI p) (nI d) (nI 0) (nI D) (nI r) st ba))) ∨ (L < 4 ∧ xf_Run_act F K (nI 102) (UX h K (nI (8 * p + 2 * d)) (nI D) (nI r) n s) = some (0, fkX h K (xh_ptrs h L) L (8 * mv p ((d + 3) % 4) + 2 * ((d + 3) % 4)) (8 * mv p d + 2 * d) (D - 1) r (pv D n) n s) ∧ mf_M_act F (nI i) (UM g i (nI p) (nI d) (nI 0) (nI D) (nI r) st ba) = some (fkM g i V (8 * mv p ((d + 3) % 4) + 2 * ((d + 3) % 4)) (8 * mv p d + 2 * d) (D - 1) r (pv D n) st ba))) := by
  have hD := hL.1
  have hft := fits_U (F := F) (di := nI d) (re := nI r) (st := st) (ba := ba) hi hp hD (show 102 < 127 by omega) hf (show mf_M_pops (nI 102) = nI 1 from rfl) (show mf_M_pushes (nI 102) = nI 0 from rfl) (by omega) (by omega) (by omega) (by omega) (by omega)
  have hx0 : xf_Run_act F K (nI 102) (UX h K (nI (8 * p + 2 * d)) (nI D) (nI r) n s) = (xf_Run_fork K (UX h K (nI (8 * p + 2 * d)) (nI D) (nI r) n s)).bind fun q1 => some ((q1.1, q1.2)) := rfl
  refine ⟨by rw [hft, if_neg (by omega)], ?_⟩
  rw [hx0, act_102 hi hp hf]
  unfold mf_M_act_J455
  by_cases h4 : L < 4
  · right
    obtain ⟨v8, k4, kne⟩ := hV8 h4
    refine ⟨h4, ?_, ?_⟩
    · rw [forkX hp hd hD h4 hlv rfl k4 kne, Option.bind_some]
    · obtain ⟨a1, a2, -⟩ := wp_parts (mv p d) d hd
      obtain ⟨a3, a4, -⟩ := wp_parts (mv p ((d + 3) % 4)) ((d + 3) % 4) (by omega)
      rw [forkM (by omega) hi hp hd hD v8 hv hne (by omega), Option.bind_some, J592_ok hi hp hd (by omega), LK_pv hL]
      unfold fkM
      rw [a1, a2, a3, a4]
      rfl
  · left
    refine ⟨by omega, ?_⟩
    have hX : xf_Run_fork K (UX h K (nI (8 * p + 2 * d)) (nI D) (nI r) n s) = some (0, UX h K (nI (8 * mv p d + 2 * d)) (nI (D - 1)) (nI r) n s) := by
      unfold xf_Run_fork
      have l1 : xh_living (UX h K (nI (8 * p + 2 * d)) (nI (D - 1)) (nI r) n s) = nI L := by simp only [UX_get]; exact hlv
      rw [popX hD, Option.bind_some, l1, if_pos (show (4 : Int32) ≤ nI L by rw [li_4, nql (by omega) (by omega)]; omega), UX_pway, aheadE hp hd, UX_s_pway, Option.bind_some]
    have hM : mf_M_doOne F (nI i) (nI 102) (UM g i (nI p) (nI d) (nI 0) (nI D) (nI r) st ba) = some (UM g i (nI p) (nI d) (nI 0) (nI (D - 1)) (nI r) st ba) := by
      unfold mf_M_doOne
      have l0 : mf_M_living F (UM g i (nI p) (nI d) (nI 0) (nI (D - 1)) (nI r) st ba) = some (nI (cnt (mh_lives g) V)) := by
        have := living_ok (F := F) (g := UM g i (nI p) (nI d) (nI 0) (nI (D - 1)) (nI r) st ba) (V := V) (by omega) (by omega) (by simp only [UM_get]; exact hv)
        simp only [UM_get] at this
        exact this
      rw [popM hi hD, Option.bind_some, if_neg (show ¬ nI 102 = (99 : Int32) by decide), if_neg (show ¬ nI 102 = (114 : Int32) by decide), if_neg (show ¬ nI 102 = (63 : Int32) by decide), if_neg (show ¬ nI 102 = (110 : Int32) by decide), if_neg (show ¬ nI 102 = (98 : Int32) by decide), if_pos (show nI 102 = (102 : Int32) from rfl), l0, Option.bind_some, if_pos (show (4 : Int32) ≤ nI (cnt (mh_lives g) V) by rw [li_4, nql (by omega) (by omega)]; omega)]
    rw [hX, hM, Option.bind_some, Option.bind_some, J592_ok hi hp hd (by omega)]
    exact oa_mk (mv_lt p hp d hd) hd hr8 rfl rfl hG (FX_r h) (FM_r g) (LK_pop hL) hT
