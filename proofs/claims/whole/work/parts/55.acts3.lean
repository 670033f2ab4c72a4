/-! signs that act: writing a sign -/
theorem ac_119 {F : Nat} {h : XH} {g : MH} {K i p d D r : Nat} {n : Nat → Int64} {s : Nat → Int32} {st st0 : Nat → Int64} {ba ba0 : Nat → Int32} (hFu : 96 < F) (hi : i < 8) (hp : p < 96) (hd : d < 4) (hr8 : r ≤ 8) (hG : GL h g) (hL : LK i D n st st0) (hT : RT i r s ba ba0) (hf : mh_field g p = nI 119) : (mf_M_fits F (nI i) (UM g i (nI p) (nI d) (nI 0) (nI D) (nI r) st ba) = some (0, UM g i (nI p) (nI d) (nI 0) (nI D) (nI r) st ba) ∧ OA h g K i st0 ba0 (xf_Run_act F K (nI 119) (UX h K (nI (8 * p + 2 * d)) (nI D) (nI r) n s)) (mf_M_act F (nI i) (UM g i (nI p) (nI d) (nI 0) (nI D) (nI r) st ba))) := by
  have hD := hL.1
  have hft := fits_U (F := F) (di := nI d) (re := nI r) (st := st) (ba := ba) hi hp hD (show 119 < 127 by omega) hf (show mf_M_pops (nI 119) = nI 3 from rfl) (show mf_M_pushes (nI 119) = nI 0 from rfl) (by omega) (by omega) (by omega) (by omega) (by omega)
  have hx0 : xf_Run_act F K (nI 119) (UX h K (nI (8 * p + 2 * d)) (nI D) (nI r) n s) = (xf_Run_writeSign F K (UX h K (nI (8 * p + 2 * d)) (nI D) (nI r) n s)).bind fun q1 => some ((q1.1, q1.2)) := rfl
  obtain ⟨x, y, hx, hy, e, e1, e2⟩ := popPlace_ok (K := K) (h := h) (w := nI (8 * p + 2 * d)) (r := nI r) (n := n) (s := s) hD
  obtain ⟨s1, s2⟩ := signOf_ok (pv (D - 1 - 1) n)
  have hFx : RF (xh_signs (UX h K (nI (8 * p + 2 * d)) (nI (D - 1 - 1 - 1)) (nI r) n s)) (mh_field (UM g i (nI p) (nI d) (nI 0) (nI (D - 1 - 1 - 1)) (nI r) st ba)) := by
    simp only [UX_get, UM_get]
    exact hG.1
  have hBx : RB (mh_field (UM g i (nI p) (nI d) (nI 0) (nI (D - 1 - 1 - 1)) (nI r) st ba)) (xh_held (UX h K (nI (8 * p + 2 * d)) (nI (D - 1 - 1 - 1)) (nI r) n s)) (xh_dropped (UX h K (nI (8 * p + 2 * d)) (nI (D - 1 - 1 - 1)) (nI r) n s)) (xh_row (UX h K (nI (8 * p + 2 * d)) (nI (D - 1 - 1 - 1)) (nI r) n s)) (xh_bbegin (UX h K (nI (8 * p + 2 * d)) (nI (D - 1 - 1 - 1)) (nI r) n s)) (xh_bbehind (UX h K (nI (8 * p + 2 * d)) (nI (D - 1 - 1 - 1)) (nI r) n s)) (xh_bsize (UX h K (nI (8 * p + 2 * d)) (nI (D - 1 - 1 - 1)) (nI r) n s)) (xh_blow (UX h K (nI (8 * p + 2 * d)) (nI (D - 1 - 1 - 1)) (nI r) n s)) (xh_bhigh (UX h K (nI (8 * p + 2 * d)) (nI (D - 1 - 1 - 1)) (nI r) n s)) (mh_vblocks (UM g i (nI p) (nI d) (nI 0) (nI (D - 1 - 1 - 1)) (nI r) st ba)) (mh_vdrops (UM g i (nI p) (nI d) (nI 0) (nI (D - 1 - 1 - 1)) (nI r) st ba)) (mh_begins (UM g i (nI p) (nI d) (nI 0) (nI (D - 1 - 1 - 1)) (nI r) st ba)) (mh_behind (UM g i (nI p) (nI d) (nI 0) (nI (D - 1 - 1 - 1)) (nI r) st ba)) (mh_lengths (UM g i (nI p) (nI d) (nI 0) (nI (D - 1 - 1 - 1)) (nI r) st ba)) (mh_covered (UM g i (nI p) (nI d) (nI 0) (nI (D - 1 - 1 - 1)) (nI r) st ba)) := by
    simp only [UX_get, UM_get]
    exact hG.2.2.2.2.2
  obtain ⟨sx, f, dr, hd', s', a, b, e', d', dv, bv, w1, w2, w3, w4⟩ := write_ok (Fu := F) hFu (show 12 * y + x < 96 by omega) s2 hFx hBx
  have w4' : RB s' hd' dr f (xh_bbegin h) (xh_bbehind h) (xh_bsize h) (xh_blow h) (xh_bhigh h) bv dv a e' b d' := by
    simp only [UX_get] at w4
    exact w4
  have hX : xf_Run_writeSign F K (UX h K (nI (8 * p + 2 * d)) (nI D) (nI r) n s) = some (0, UX (wX h sx f dr hd') K (nI (8 * mv p d + 2 * d)) (nI (D - 1 - 1 - 1)) (nI r) n s) := by
    unfold xf_Run_writeSign
    rw [e, Option.bind_some, popX (by omega), Option.bind_some, s1, w1, Option.bind_some, UX_c.2.2.2.2, UX_pway, aheadE hp hd, UX_s_pway, Option.bind_some]
  have hM : mf_M_doWrite F (nI i) (UM g i (nI p) (nI d) (nI 0) (nI D) (nI r) st ba) = some (UM (wM g s' a b e' d' dv bv) i (nI p) (nI d) (nI 0) (nI (D - 1 - 1 - 1)) (nI r) st ba) := by
    unfold mf_M_doWrite
    rw [popM hi hD, Option.bind_some, popM hi (by omega), Option.bind_some, popM hi (by omega), Option.bind_some, LK_pv hL, LK_pv (LK_pop hL), LK_pv (LK_pop (LK_pop hL)), e1, Option.bind_some, e2, Option.bind_some, li_12, pk_mul, nI_add, w2, Option.bind_some, UM_c.2.2.2.2.2]
  refine ⟨by rw [hft, if_neg (by omega)], ?_⟩
  rw [hx0, act_119 hi hp hf, hX, hM, Option.bind_some, Option.bind_some, J592_ok hi hp hd (by omega)]
  exact oa_mk (mv_lt p hp d hd) hd hr8 rfl rfl (GL_wr hG w3 w4') (FX_wX _ _ _ _ _) (FM_wM _ _ _ _ _ _ _ _) (LK_pop (LK_pop (LK_pop hL))) hT
