/-! signs that act -/
def OD (h : XH) (g : MH) (K i : Nat) (w d r : Int32) (n : Nat → Int64) (s : Nat → Int32) (pl di qu si re : Int32) (st : Nat → Int64) (ba : Nat → Int32) (cx : Option (Int32 × XH)) (cm : Option (Int32 × MH)) : Prop :=
  ∃ (h1 : XH) (g1 : MH) (code : Int32), (code = 2 ∨ code = 3) ∧ cx = some (code, UX h1 K w d r n s) ∧ cm = some (code, UM g1 i pl di qu si re st ba) ∧ GL h1 g1 ∧ FX h h1 ∧ FM g g1
theorem aheadE {p d : Nat} (hp : p < 96) (hd : d < 4) : xf_Way_ahead (nI (8 * p + 2 * d)) = nI (8 * mv p d + 2 * d) := by
  obtain ⟨h1, h2, h3⟩ := wp_parts p d hd
  rw [wy_ahead _ (by omega), h1, h2, show (8 * p + 2 * d) % 8 = 2 * d by omega]
theorem rightE {p d : Nat} (hp : p < 96) (hd : d < 4) : xf_Way_turned (nI (8 * p + 2 * d)) 1 = nI (8 * p + 2 * ((d + 1) % 4)) := by
  obtain ⟨h1, h2, h3⟩ := wp_parts p d hd
  rw [wy_right _ (by omega), h1, h2, h3, Nat.add_zero]
theorem leftE {p d : Nat} (hp : p < 96) (hd : d < 4) : xf_Way_turned (nI (8 * p + 2 * d)) 3 = nI (8 * p + 2 * ((d + 3) % 4)) := by
  obtain ⟨h1, h2, h3⟩ := wp_parts p d hd
  rw [wy_left _ (by omega), h1, h2, h3, Nat.add_zero]
theorem oa_mk {h h1 : XH} {g g1 : MH} {K i p d D r : Nat} {n : Nat → Int64} {s : Nat → Int32} {st st0 : Nat → Int64} {ba ba0 : Nat → Int32} {cx : Option (Int32 × XH)} {cm : Option MH} (hp : p < 96) (hd : d < 4) (hr8 : r ≤ 8) (hx : cx = some (0, UX h1 K (nI (8 * p + 2 * d)) (nI D) (nI r) n s)) (hm : cm = some (UM g1 i (nI p) (nI d) (nI 0) (nI D) (nI r) st ba)) (hG : GL h1 g1) (hX : FX h h1) (hM : FM g g1) (hL : LK i D n st st0) (hT : RT i r s ba ba0) : OA h g K i st0 ba0 cx cm := by
  obtain ⟨h1, h2, h3⟩ := wp_parts p d hd
  exact ⟨_, _, 8 * p + 2 * d, D, r, n, s, st, ba, by omega, hr8, hx, by rw [hm, h1, h2, h3], hG, hX, hM, hL, hT⟩
theorem ac_63 {F : Nat} {h : XH} {g : MH} {K i p d D r : Nat} {n : Nat → Int64} {s : Nat → Int32} {st st0 : Nat → Int64} {ba ba0 : Nat → Int32} (hi : i < 8) (hp : p < 96) (hd : d < 4) (hr8 : r ≤ 8) (hG : GL h g) (hL : LK i D n st st0) (hT : RT i r s ba ba0) (hf : mh_field g p = nI 63) : (mf_M_fits F (nI i) (UM g i (nI p) (nI d) (nI 0) (nI D) (nI r) st ba) = some (0, UM g i (nI p) (nI d) (nI 0) (nI D) (nI r) st ba) ∧ OA h g K i st0 ba0 (xf_Run_act F K (nI 63) (UX h K (nI (8 * p + 2 * d)) (nI D) (nI r) n s)) (mf_M_act F (nI i) (UM g i (nI p) (nI d) (nI 0) (nI D) (nI r) st ba))) := by
  have hD := hL.1
  have hft := fits_U (F := F) (di := nI d) (re := nI r) (st := st) (ba := ba) hi hp hD (show 63 < 127 by omega) hf (show mf_M_pops (nI 63) = nI 1 from rfl) (show mf_M_pushes (nI 63) = nI 0 from rfl) (by omega) (by omega) (by omega) (by omega) (by omega)
  refine ⟨by rw [hft, if_neg (by omega)], ?_⟩
  have hx0 : xf_Run_act F K (nI 63) (UX h K (nI (8 * p + 2 * d)) (nI D) (nI r) n s) = (xf_Run_turn K (UX h K (nI (8 * p + 2 * d)) (nI D) (nI r) n s)).bind fun q1 => some ((q1.1, q1.2)) := rfl
  rw [hx0, act_63 hi hp hf]
  unfold mf_M_act_J455 mf_M_doOne xf_Run_turn
  rw [popM hi hD, Option.bind_some, popX hD, Option.bind_some, LK_pv hL, if_neg (show ¬ nI 63 = (99 : Int32) by decide), if_neg (show ¬ nI 63 = (114 : Int32) by decide), if_pos (show nI 63 = (63 : Int32) from rfl)]
  simp only [gd_nI hi (show 8 < 2 ^ 31 by omega), Option.bind_some, UM_direction, UM_s_direction, UX_pway, UX_s_pway]
  by_cases h1 : lg_cmp (pv D n) 0 ≤ 0
  · by_cases h2 : 0 ≤ lg_cmp (pv D n) 0
    · rw [if_pos h1, if_pos h2, if_pos h1, if_pos h2]
      refine oa_mk (mv_lt p hp d hd) hd hr8 (by rw [Option.bind_some, aheadE hp hd]) (by rw [Option.bind_some, J592_ok hi hp hd (by omega)]; rfl) hG (FX_r h) (FM_r g) (LK_pop hL) hT
    · rw [if_pos h1, if_neg h2, if_pos h1, if_neg h2]
      refine oa_mk (p := mv p ((d + 3) % 4)) (d := (d + 3) % 4) (mv_lt p hp _ (by omega)) (by omega) hr8 (by rw [Option.bind_some, leftE hp hd, aheadE hp (by omega)]) (by rw [Option.bind_some, li_3, nI_add, rm4 (by omega), J592_ok hi hp (by omega) (by omega)]; rfl) hG (FX_r h) (FM_r g) (LK_pop hL) hT
  · rw [if_neg h1, if_neg h1]
    refine oa_mk (p := mv p ((d + 1) % 4)) (d := (d + 1) % 4) (mv_lt p hp _ (by omega)) (by omega) hr8 (by rw [Option.bind_some, rightE hp hd, aheadE hp (by omega)]) (by rw [Option.bind_some, nI_1, rm4 (by omega), J592_ok hi hp (by omega) (by omega)]; rfl) hG (FX_r h) (FM_r g) (LK_pop hL) hT
theorem ac_105 {F : Nat} {h : XH} {g : MH} {K i p d D r : Nat} {n : Nat → Int64} {s : Nat → Int32} {st st0 : Nat → Int64} {ba ba0 : Nat → Int32} (hi : i < 8) (hp : p < 96) (hd : d < 4) (hr8 : r ≤ 8) (hG : GL h g) (hL : LK i D n st st0) (hT : RT i r s ba ba0) (hf : mh_field g p = nI 105) : OD h g K i (nI (8 * p + 2 * d)) (nI D) (nI r) n s (nI p) (nI d) (nI 0) (nI D) (nI r) st ba (xf_Run_act F K (nI 105) (UX h K (nI (8 * p + 2 * d)) (nI D) (nI r) n s)) (mf_M_fits F (nI i) (UM g i (nI p) (nI d) (nI 0) (nI D) (nI r) st ba)) ∨ (mf_M_fits F (nI i) (UM g i (nI p) (nI d) (nI 0) (nI D) (nI r) st ba) = some (0, UM g i (nI p) (nI d) (nI 0) (nI D) (nI r) st ba) ∧ OA h g K i st0 ba0 (xf_Run_act F K (nI 105) (UX h K (nI (8 * p + 2 * d)) (nI D) (nI r) n s)) (mf_M_act F (nI i) (UM g i (nI p) (nI d) (nI 0) (nI D) (nI r) st ba))) := by
  have hD := hL.1
  have hft := fits_U (F := F) (di := nI d) (re := nI r) (st := st) (ba := ba) hi hp hD (show 105 < 127 by omega) hf (show mf_M_pops (nI 105) = nI 0 from rfl) (show mf_M_pushes (nI 105) = nI 1 from rfl) (by omega) (by omega) (by omega) (by omega) (by omega)
  have hx0 : xf_Run_act F K (nI 105) (UX h K (nI (8 * p + 2 * d)) (nI D) (nI r) n s) = (xf_Run_readNumber K (UX h K (nI (8 * p + 2 * d)) (nI D) (nI r) n s)).bind fun q1 => some ((q1.1, q1.2)) := rfl
  rw [hx0]
  unfold xf_Run_readNumber
  rw [isFull_ok hD]
  by_cases h24 : D = 24
  · left
    refine ⟨h, g, 2, Or.inl rfl, ?_, ?_, hG, FX_r h, FM_r g⟩
    · rw [if_pos h24, if_neg (by decide), Option.bind_some]
    · rw [hft, if_pos (by omega)]
  · right
    refine ⟨by rw [hft, if_neg (by omega)], ?_⟩
    rw [if_neg h24, if_pos rfl, act_105 hi hp hf]
    obtain ⟨hF, hTx, hO, hP, hI, hB⟩ := hG
    obtain ⟨na, ra, hn, hr, e1, e2, e3, e4, hnm⟩ := id hI
    have e1' : xh_given (UX h K (nI (8 * p + 2 * d)) (nI D) (nI r) n s) = nI na := e1
    have e3' : xh_read (UX h K (nI (8 * p + 2 * d)) (nI D) (nI r) n s) = nI ra := e3
    have q1 : ∀ x : Int64, mh_vinputs (UM g i (nI p) (nI d) (nI 0) (nI (D + 1)) (nI r) (va_up st (24 * i + D) x) ba) = nI na := fun _ => e2
    have q2 : ∀ x : Int64, mh_vread (UM g i (nI p) (nI d) (nI 0) (nI (D + 1)) (nI r) (va_up st (24 * i + D) x) ba) = nI ra := fun _ => e4
    rw [e1', e3', e2, e4]
    unfold mf_M_act_J500 mf_M_act_J528
    by_cases h1 : na ≤ ra
    · have h1' : nI na ≤ nI ra := by rw [nql (by omega) (by omega)]; exact h1
      rw [if_pos h1', if_pos h1', pushX (by omega), pushM hi (by omega)]
      simp only [Option.bind_some, UX_pway, UX_s_pway, q1, q2, eq_true h1', if_true, UM_c, aheadE hp hd, J592_ok hi hp hd (show 105 < 127 by omega)]
      refine oa_mk (g1 := ms_vread g (nI ra)) (mv_lt p hp d hd) hd hr8 rfl rfl ⟨hF, hTx, hO, hP, ⟨na, ra, hn, hr, e1, e2, e3, rfl, hnm⟩, hB⟩ (FX_r h) ⟨rfl, rfl, rfl, rfl, rfl, rfl, rfl, rfl, rfl, rfl⟩ (LK_push hL (by omega) _) hT
    · have h1' : ¬ nI na ≤ nI ra := by rw [nql (by omega) (by omega)]; exact h1
      have q3 : xh_innums (UX h K (nI (8 * p + 2 * d)) (nI D) (nI r) n s) ra = mh_input g ra := hnm ra (by omega)
      have q4 : ∀ x, xh_read (UX h K (nI (8 * p + 2 * d)) (nI (D + 1)) (nI r) (va_up n D x) s) = nI ra := fun _ => e3
      rw [if_neg h1', if_neg h1', gd_nI (by omega) (by omega), Option.bind_some, Option.bind_some, q3, pushX (by omega), pushM hi (by omega)]
      simp only [Option.bind_some, q4, UX_c, UX_pway, UX_s_pway, q1, q2, eq_false h1', if_false, UM_c, aheadE hp hd, nI_1, J592_ok hi hp hd (show 105 < 127 by omega)]
      refine oa_mk (h1 := xs_read h (nI (ra + 1))) (g1 := ms_vread g (nI (ra + 1))) (mv_lt p hp d hd) hd hr8 rfl rfl ⟨hF, hTx, hO, hP, ⟨na, ra + 1, hn, by omega, e1, e2, rfl, rfl, hnm⟩, hB⟩ ⟨rfl, rfl, rfl, rfl, rfl, rfl, rfl, rfl, rfl⟩ ⟨rfl, rfl, rfl, rfl, rfl, rfl, rfl, rfl, rfl, rfl⟩ (LK_push hL (by omega) _) hT
theorem out_ok {h : XH} {g : MH} {K i : Nat} {w d r : Int32} {n : Nat → Int64} {s : Nat → Int32} {pl di qu si re : Int32} {st : Nat → Int64} {ba : Nat → Int32} {t : Nat} {v : Int32} (ht : t < 80) (hv : SG v) (e1 : xh_lsize h 0 = nI t) (e2 : mh_vshown g = nI t) (hch : ∀ i, i < t → xh_lchars h 0 i = mh_output g i ∧ SG (mh_output g i)) :
    xf_Line_add 0 v (UX h K w d r n s) = some (UX (xs_lsize (xs_lchars h 0 t v) 0 (nI (t + 1))) K w d r n s) ∧ mf_M_show v (UM g i pl di qu si re st ba) = some (UM (ms_vshown (ms_output g t v) (nI (t + 1))) i pl di qu si re st ba) ∧ (xh_lsize (xs_lsize (xs_lchars h 0 t v) 0 (nI (t + 1))) 0 = nI (t + 1) ∧ mh_vshown (ms_vshown (ms_output g t v) (nI (t + 1))) = nI (t + 1) ∧ ∀ i, i < t + 1 → xh_lchars (xs_lsize (xs_lchars h 0 t v) 0 (nI (t + 1))) 0 i = mh_output (ms_vshown (ms_output g t v) (nI (t + 1))) i ∧ SG (mh_output (ms_vshown (ms_output g t v) (nI (t + 1))) i)) := by
  have l1 : xh_lsize (UX h K w d r n s) = xh_lsize h := by simp only [UX_get]
  have l2 : xh_lsize (UX (xs_lchars h 0 t v) K w d r n s) = xh_lsize h := by simp only [UX_get, gx_lchars]
  have l3 : mh_vshown (UM g i pl di qu si re st ba) = mh_vshown g := by simp only [UM_get]
  have l4 : mh_vshown (UM (ms_output g t v) i pl di qu si re st ba) = mh_vshown g := by simp only [UM_get, gm_output]
  refine ⟨?_, ?_, ?_, ?_, fun i hi => ?_⟩
  · unfold xf_Line_add
    rw [l1, e1, show nI (xh_cap 0) = nI 80 from rfl, if_neg (by rw [nql (by omega) (by omega)]; omega), show xh_cap 0 = 80 from rfl, gd_nI ht (by omega), Option.bind_some, Option.bind_some, nar_SG hv, UX_c.2.2.1, l2, e1, Option.bind_some, nI_1, UX_c.2.1]
  · unfold mf_M_show
    rw [l3, e2, gd_nI ht (by omega), Option.bind_some, Option.bind_some, UM_c.2.2.1, l4, e2, Option.bind_some, nI_1, UM_c.2.1]
  · simp only [gx_lsize]
    exact up_eq
  · simp only [gm_vshown]
  · simp only [gx_lsize, gx_lchars, gm_vshown, gm_output]
    rw [up_eq]
    by_cases h0 : i = t
    · rw [h0, up_eq, up_eq]; exact ⟨rfl, hv⟩
    · rw [up_ne h0, up_ne h0]; exact hch i (by omega)
theorem GL_out {h : XH} {g : MH} {t : Nat} {v : Int32} (hG : GL h g) (ht : t < 80) (h1 : xh_lsize (xs_lsize (xs_lchars h 0 t v) 0 (nI (t + 1))) 0 = nI (t + 1) ∧ mh_vshown (ms_vshown (ms_output g t v) (nI (t + 1))) = nI (t + 1) ∧ ∀ i, i < t + 1 → xh_lchars (xs_lsize (xs_lchars h 0 t v) 0 (nI (t + 1))) 0 i = mh_output (ms_vshown (ms_output g t v) (nI (t + 1))) i ∧ SG (mh_output (ms_vshown (ms_output g t v) (nI (t + 1))) i)) : GL (xs_lsize (xs_lchars h 0 t v) 0 (nI (t + 1))) (ms_vshown (ms_output g t v) (nI (t + 1))) := by
  obtain ⟨hF, hTx, hO, hP, hI, hB⟩ := hG
  refine ⟨hF, ?_, ⟨t + 1, by omega, h1.1, h1.2.1, h1.2.2⟩, ?_, hI, hB⟩
  · show RL 12 (va_up (xh_lsize h) 0 (nI (t + 1)) 1) (va_up (xh_lchars h) 0 (va_up (xh_lchars h 0) t v) 1) (mh_vtyped g) (mh_text g)
    rw [up_ne (by omega), up_ne (by omega)]
    exact hTx
  · show RL 80 (va_up (xh_lsize h) 0 (nI (t + 1)) 2) (va_up (xh_lchars h) 0 (va_up (xh_lchars h 0) t v) 2) (mh_vwritten g) (mh_page g)
    rw [up_ne (by omega), up_ne (by omega)]
    exact hP
theorem ac_98 {F : Nat} {h : XH} {g : MH} {K i p d D r : Nat} {n : Nat → Int64} {s : Nat → Int32} {st st0 : Nat → Int64} {ba ba0 : Nat → Int32} (hi : i < 8) (hp : p < 96) (hd : d < 4) (hr8 : r ≤ 8) (hG : GL h g) (hL : LK i D n st st0) (hT : RT i r s ba ba0) (hf : mh_field g p = nI 98) : OD h g K i (nI (8 * p + 2 * d)) (nI D) (nI r) n s (nI p) (nI d) (nI 0) (nI D) (nI r) st ba (xf_Run_act F K (nI 98) (UX h K (nI (8 * p + 2 * d)) (nI D) (nI r) n s)) (mf_M_fits F (nI i) (UM g i (nI p) (nI d) (nI 0) (nI D) (nI r) st ba)) ∨ (mf_M_fits F (nI i) (UM g i (nI p) (nI d) (nI 0) (nI D) (nI r) st ba) = some (0, UM g i (nI p) (nI d) (nI 0) (nI D) (nI r) st ba) ∧ OA h g K i st0 ba0 (xf_Run_act F K (nI 98) (UX h K (nI (8 * p + 2 * d)) (nI D) (nI r) n s)) (mf_M_act F (nI i) (UM g i (nI p) (nI d) (nI 0) (nI D) (nI r) st ba))) := by
  have hD := hL.1
  have hx0 : xf_Run_act F K (nI 98) (UX h K (nI (8 * p + 2 * d)) (nI D) (nI r) n s) = (xf_Run_writeCharacter K (UX h K (nI (8 * p + 2 * d)) (nI D) (nI r) n s)).bind fun q1 => some ((q1.1, q1.2)) := rfl
  obtain ⟨t, ht, e1, e2, hch⟩ := id hG.2.2.1
  have hf' : mh_field (UM g i (nI p) (nI d) (nI 0) (nI D) (nI r) st ba) p = nI 98 := hf
  have hft : mf_M_fits F (nI i) (UM g i (nI p) (nI d) (nI 0) (nI D) (nI r) st ba) = if t < 80 then some (0, UM g i (nI p) (nI d) (nI 0) (nI D) (nI r) st ba) else some (3, UM g i (nI p) (nI d) (nI 0) (nI D) (nI r) st ba) := by
    have key : ∀ x, x ≤ 24 → mf_M_fits_J72 F (nI i) (nI 98) (nI x) (UM g i (nI p) (nI d) (nI 0) (nI D) (nI r) st ba) = if t < 80 then some (0, UM g i (nI p) (nI d) (nI 0) (nI D) (nI r) st ba) else some (3, UM g i (nI p) (nI d) (nI 0) (nI D) (nI r) st ba) := by
      intro x hx
      unfold mf_M_fits_J72 mf_M_fits_J103 mf_M_fits_J115 mf_M_fits_J136
      rw [show mf_M_pushes (nI 98) = nI 0 from rfl, nI_add, if_neg (show ¬ (24 : Int32) < nI (x + 0) by rw [li_24, nqt (by omega) (by omega)]; omega), if_neg (show ¬ nI 98 = (67 : Int32) by decide), if_neg (show ¬ nI 98 = (110 : Int32) by decide), if_pos (show nI 98 = (98 : Int32) from rfl), if_pos (show nI 98 = (98 : Int32) from rfl), show mh_vshown (UM g i (nI p) (nI d) (nI 0) (nI D) (nI r) st ba) = nI t from e2, nI_1]
      by_cases h1 : t < 80
      · rw [if_pos h1, if_pos (show nI (t + 1) ≤ (80 : Int32) by rw [li_80, nql (by omega) (by omega)]; omega)]
      · rw [if_neg h1, if_neg (show ¬ nI (t + 1) ≤ (80 : Int32) by rw [li_80, nql (by omega) (by omega)]; omega)]
    unfold mf_M_fits
    simp only [gd_nI hi (show 8 < 2 ^ 31 by omega), Option.bind_some, UM_place, UM_quoted, UM_sizes, gd_nI hp (show 96 < 2 ^ 31 by omega), hf', show mf_M_pops (nI 98) = nI 1 from rfl, nql (show 1 < 2 ^ 31 by omega) (show D < 2 ^ 31 by omega)]
    rw [if_pos (show nI 0 = (0 : Int32) from rfl)]
    by_cases h1 : 1 ≤ D
    · rw [if_pos h1, pk_sub h1, key _ (by omega)]
    · rw [if_neg h1]
      exact key 0 (by omega)
  have hroom : xf_Line_hasRoom 0 1 (UX h K (nI (8 * p + 2 * d)) (nI D) (nI r) n s) = if t < 80 then 1 else 0 := by
    unfold xf_Line_hasRoom
    rw [show xh_lsize (UX h K (nI (8 * p + 2 * d)) (nI D) (nI r) n s) 0 = nI t from e1, show nI (xh_cap 0) = nI 80 from rfl, pk_sub (by omega)]
    by_cases h1 : t < 80
    · rw [if_pos h1, if_neg (by rw [li_1, nqt (by omega) (by omega)]; omega)]
    · rw [if_neg h1, if_pos (by rw [li_1, nqt (by omega) (by omega)]; omega)]
  rw [hx0, hft]
  unfold xf_Run_writeCharacter
  rw [hroom]
  by_cases h1 : t < 80
  · right
    rw [if_pos h1, if_pos h1, if_neg (by decide), popX hD, Option.bind_some]
    obtain ⟨s1, s2⟩ := signOf_ok (pv D n)
    obtain ⟨o1, o2, o3⟩ := out_ok (K := K) (i := i) (w := nI (8 * p + 2 * d)) (d := nI (D - 1)) (r := nI r) (n := n) (s := s) (pl := nI p) (di := nI d) (qu := nI 0) (si := nI (D - 1)) (re := nI r) (st := st) (ba := ba) h1 s2 e1 e2 hch
    refine ⟨rfl, ?_⟩
    rw [act_98 hi hp hf]
    unfold mf_M_act_J455 mf_M_doOne
    rw [popM hi hD, Option.bind_some, LK_pv hL, if_neg (show ¬ nI 98 = (99 : Int32) by decide), if_neg (show ¬ nI 98 = (114 : Int32) by decide), if_neg (show ¬ nI 98 = (63 : Int32) by decide), if_neg (show ¬ nI 98 = (110 : Int32) by decide), if_pos (show nI 98 = (98 : Int32) from rfl), o2, s1, o1]
    simp only [Option.bind_some, UX_pway, UX_s_pway, aheadE hp hd, J592_ok hi hp hd (show 98 < 127 by omega)]
    exact oa_mk (mv_lt p hp d hd) hd hr8 rfl rfl (GL_out hG h1 o3) ⟨rfl, rfl, rfl, rfl, rfl, rfl, rfl, rfl, rfl⟩ ⟨rfl, rfl, rfl, rfl, rfl, rfl, rfl, rfl, rfl, rfl⟩ (LK_pop hL) hT
  · left
    rw [if_neg h1, if_neg h1, if_pos rfl, Option.bind_some]
    exact ⟨h, g, 3, Or.inr rfl, rfl, rfl, hG, FX_r h, FM_r g⟩
