/-! signs that act: call, return, end -/
theorem ac_67 {F : Nat} {h : XH} {g : MH} {K i p d D r : Nat} {n : Nat → Int64} {s : Nat → Int32} {st st0 : Nat → Int64} {ba ba0 : Nat → Int32} (hi : i < 8) (hp : p < 96) (hd : d < 4) (hr8 : r ≤ 8) (hG : GL h g) (hL : LK i D n st st0) (hT : RT i r s ba ba0) (hf : mh_field g p = nI 67) : OD h g K i (nI (8 * p + 2 * d)) (nI D) (nI r) n s (nI p) (nI d) (nI 0) (nI D) (nI r) st ba (xf_Run_act F K (nI 67) (UX h K (nI (8 * p + 2 * d)) (nI D) (nI r) n s)) (mf_M_fits F (nI i) (UM g i (nI p) (nI d) (nI 0) (nI D) (nI r) st ba)) ∨ (mf_M_fits F (nI i) (UM g i (nI p) (nI d) (nI 0) (nI D) (nI r) st ba) = some (0, UM g i (nI p) (nI d) (nI 0) (nI D) (nI r) st ba) ∧ OA h g K i st0 ba0 (xf_Run_act F K (nI 67) (UX h K (nI (8 * p + 2 * d)) (nI D) (nI r) n s)) (mf_M_act F (nI i) (UM g i (nI p) (nI d) (nI 0) (nI D) (nI r) st ba))) := by
  have hD := hL.1
  have hx0 : xf_Run_act F K (nI 67) (UX h K (nI (8 * p + 2 * d)) (nI D) (nI r) n s) = (xf_Run_goAway K (UX h K (nI (8 * p + 2 * d)) (nI D) (nI r) n s)).bind fun q1 => some ((q1.1, q1.2)) := rfl
  have hf' : mh_field (UM g i (nI p) (nI d) (nI 0) (nI D) (nI r) st ba) p = nI 67 := hf
  have hft : mf_M_fits F (nI i) (UM g i (nI p) (nI d) (nI 0) (nI D) (nI r) st ba) = if r = 8 then some (2, UM g i (nI p) (nI d) (nI 0) (nI D) (nI r) st ba) else some (0, UM g i (nI p) (nI d) (nI 0) (nI D) (nI r) st ba) := by
    have key : ∀ x, x ≤ 24 → mf_M_fits_J72 F (nI i) (nI 67) (nI x) (UM g i (nI p) (nI d) (nI 0) (nI D) (nI r) st ba) = if r = 8 then some (2, UM g i (nI p) (nI d) (nI 0) (nI D) (nI r) st ba) else some (0, UM g i (nI p) (nI d) (nI 0) (nI D) (nI r) st ba) := by
      intro x hx
      unfold mf_M_fits_J72 mf_M_fits_J103
      rw [show mf_M_pushes (nI 67) = nI 0 from rfl, nI_add, if_neg (show ¬ (24 : Int32) < nI (x + 0) by rw [li_24, nqt (by omega) (by omega)]; omega), if_pos (show nI 67 = (67 : Int32) from rfl), gd_nI hi (by omega), Option.bind_some, UM_returns]
      by_cases h1 : r = 8
      · rw [if_pos h1, if_pos (show nI r = (8 : Int32) by rw [h1]; rfl)]
      · rw [if_neg h1, if_neg (show ¬ nI r = (8 : Int32) from nI_neq (b := 8) h1 (by omega) (by omega)), if_neg (by decide), if_neg (by decide)]
    unfold mf_M_fits
    simp only [gd_nI hi (show 8 < 2 ^ 31 by omega), Option.bind_some, UM_place, UM_quoted, UM_sizes, gd_nI hp (show 96 < 2 ^ 31 by omega), hf', show mf_M_pops (nI 67) = nI 2 from rfl, nql (show 2 < 2 ^ 31 by omega) (show D < 2 ^ 31 by omega)]
    rw [if_pos (show nI 0 = (0 : Int32) from rfl)]
    by_cases h1 : 2 ≤ D
    · rw [if_pos h1, pk_sub h1, key _ (by omega)]
    · rw [if_neg h1]
      exact key 0 (by omega)
  rw [hx0, hft]
  unfold xf_Run_goAway
  rw [UX_pret]
  by_cases h1 : r = 8
  · left
    rw [if_pos h1, if_pos (show nI r = (8 : Int32) by rw [h1]; rfl), Option.bind_some]
    exact ⟨h, g, 2, Or.inl rfl, rfl, rfl, hG, FX_r h, FM_r g⟩
  · right
    obtain ⟨x, y, hx, hy, e, e1, e2⟩ := popPlace_ok (K := K) (h := h) (w := nI (8 * p + 2 * d)) (r := nI r) (n := n) (s := s) hD
    have hwo : xf_Way_of (nI (12 * y + x)) (nI d) 0 = nI (8 * (12 * y + x) + 2 * d) := wy_of _ (by omega) d hd 0 (by omega)
    rw [if_neg h1, if_neg (show ¬ nI r = (8 : Int32) from nI_neq (b := 8) h1 (by omega) (by omega)), e, Option.bind_some, UX_pret, gd_nI (by omega) (by omega), Option.bind_some, UX_pway, aheadE hp hd, UX_s_prets, Option.bind_some, UX_pret, UX_s_pret, Option.bind_some, UX_pway, wy_dir _ (by omega), (wp_parts p d hd).2.1, hwo, UX_s_pway, Option.bind_some, Option.bind_some, nI_1]
    refine ⟨rfl, ?_⟩
    rw [act_67 hi hp hf]
    unfold mf_M_doCall
    have hmv := mm_moved p hp d hd
    have hml := mv_lt p hp d hd
    rw [popM hi hD, Option.bind_some, popM hi (by omega), Option.bind_some, LK_pv hL, LK_pv (LK_pop hL)]
    rw [gd_nI hi (by omega), Option.bind_some, Option.bind_some, Option.bind_some, Option.bind_some, UM_returns, UM_place, UM_direction, hmv, li_4, pk_mul, nI_add]
    rw [show (8 : Int32) * nI i + nI r = nI (8 * i + r) by rw [li_8, pk_mul, nI_add], gd_nI (show 8 * i + r < 64 by omega) (by omega), Option.bind_some, Option.bind_some, UM_s_back, Option.bind_some, Option.bind_some, UM_returns, nI_1, UM_s_returns, Option.bind_some, e1, Option.bind_some, e2, Option.bind_some, Option.bind_some, li_12, pk_mul, nI_add, UM_s_place, Option.bind_some, Option.bind_some]
    refine oa_mk (p := 12 * y + x) (d := d) (r := r + 1) (by omega) hd (by omega) rfl rfl hG (FX_r h) (FM_r g) (LK_pop (LK_pop hL)) ⟨fun j hj => ?_, fun z hz => ?_⟩
    · by_cases h2 : j = r
      · refine ⟨8 * mv p d + 2 * d, by omega, by omega, by rw [h2, up_eq], ?_⟩
        rw [h2, up_eq, (wp_parts (mv p d) d hd).1, (wp_parts (mv p d) d hd).2.1]
      · obtain ⟨v, v1, v2, v3, v4⟩ := hT.1 j (by omega)
        exact ⟨v, v1, v2, by rw [up_ne h2]; exact v3, by rw [up_ne (by omega)]; exact v4⟩
    · rw [up_ne (by omega)]
      exact hT.2 z hz
theorem ac_82 {F : Nat} {h : XH} {g : MH} {K i p d D r : Nat} {n : Nat → Int64} {s : Nat → Int32} {st st0 : Nat → Int64} {ba ba0 : Nat → Int32} (hi : i < 8) (hp : p < 96) (hd : d < 4) (hr8 : r ≤ 8) (hG : GL h g) (hL : LK i D n st st0) (hT : RT i r s ba ba0) (hf : mh_field g p = nI 82) : (mf_M_fits F (nI i) (UM g i (nI p) (nI d) (nI 0) (nI D) (nI r) st ba) = some (0, UM g i (nI p) (nI d) (nI 0) (nI D) (nI r) st ba) ∧ xf_Run_act F K (nI 82) (UX h K (nI (8 * p + 2 * d)) (nI D) (nI r) n s) = some (1, UX h K (nI (8 * p + 2 * d)) (nI D) (nI r) n s) ∧ mf_M_act F (nI i) (UM g i (nI p) (nI d) (nI 0) (nI D) (nI r) st ba) = some (ms_lives (UM g i (nI p) (nI d) (nI 0) (nI D) (nI r) st ba) i 0)) ∨ (mf_M_fits F (nI i) (UM g i (nI p) (nI d) (nI 0) (nI D) (nI r) st ba) = some (0, UM g i (nI p) (nI d) (nI 0) (nI D) (nI r) st ba) ∧ OA h g K i st0 ba0 (xf_Run_act F K (nI 82) (UX h K (nI (8 * p + 2 * d)) (nI D) (nI r) n s)) (mf_M_act F (nI i) (UM g i (nI p) (nI d) (nI 0) (nI D) (nI r) st ba))) := by
  have hD := hL.1
  have hft := fits_U (F := F) (di := nI d) (re := nI r) (st := st) (ba := ba) hi hp hD (show 82 < 127 by omega) hf (show mf_M_pops (nI 82) = nI 0 from rfl) (show mf_M_pushes (nI 82) = nI 0 from rfl) (by omega) (by omega) (by omega) (by omega) (by omega)
  have hx0 : xf_Run_act F K (nI 82) (UX h K (nI (8 * p + 2 * d)) (nI D) (nI r) n s) = (xf_Run_goBack K (UX h K (nI (8 * p + 2 * d)) (nI D) (nI r) n s)).bind fun q1 => some ((q1.1, q1.2)) := rfl
  rw [hx0, hft, if_neg (by omega), act_82 hi hp hf]
  by_cases h0 : r = 0
  · left
    subst h0
    refine ⟨rfl, ?_, ?_⟩
    · unfold xf_Run_goBack
      rw [UX_pret, if_pos (show nI 0 = (0 : Int32) from rfl)]
      rfl
    · unfold mf_M_doReturn
      rw [gd_nI hi (by omega), Option.bind_some, UM_returns, if_pos (show nI 0 = (0 : Int32) from rfl)]
      rfl
  · right
    refine ⟨rfl, ?_⟩
    have h0' : ¬ nI r = (0 : Int32) := nI_neq (b := 0) h0 (by omega) (by omega)
    obtain ⟨v, v1, v2, v3, v4⟩ := hT.1 (r - 1) (by omega)
    have hx : xf_Run_goBack K (UX h K (nI (8 * p + 2 * d)) (nI D) (nI r) n s) = some (0, UX h K (nI v) (nI D) (nI (r - 1)) n s) := by
      unfold xf_Run_goBack
      rw [UX_pret, if_neg h0', li_1, pk_sub (by omega), UX_s_pret, Option.bind_some, UX_pret, gd_nI (by omega) (by omega), Option.bind_some, UX_prets, v3, UX_s_pway, Option.bind_some]
    have hm : mf_M_doReturn (nI i) (UM g i (nI p) (nI d) (nI 0) (nI D) (nI r) st ba) = some (UM g i (nI (v / 8)) (nI (v / 2 % 4)) (nI 0) (nI D) (nI (r - 1)) st ba) := by
      unfold mf_M_doReturn
      rw [gd_nI hi (by omega), Option.bind_some, UM_returns, if_neg h0', Option.bind_some, Option.bind_some, UM_returns, li_1, pk_sub (by omega), UM_s_returns, Option.bind_some, Option.bind_some, UM_returns, show (8 : Int32) * nI i + nI (r - 1) = nI (8 * i + (r - 1)) by rw [li_8, pk_mul, nI_add], gd_nI (show 8 * i + (r - 1) < 64 by omega) (by omega), Option.bind_some, Option.bind_some, UM_back, v4, rm4 (by omega), dv4 (by omega), UM_s_place, Option.bind_some, Option.bind_some, UM_s_direction, Option.bind_some, show (4 * (v / 8) + v / 2 % 4) / 4 = v / 8 by omega, show (4 * (v / 8) + v / 2 % 4) % 4 = v / 2 % 4 by omega]
    rw [hx, hm, Option.bind_some, Option.bind_some]
    exact oa_mk (p := v / 8) (d := v / 2 % 4) (r := r - 1) (by omega) (by omega) (by omega) (by rw [show 8 * (v / 8) + 2 * (v / 2 % 4) = v by omega]) rfl hG (FX_r h) (FM_r g) hL ⟨fun j hj => hT.1 j (by omega), hT.2⟩
theorem ac_64 {F : Nat} {h : XH} {g : MH} {K i p d D r : Nat} {n : Nat → Int64} {s : Nat → Int32} {st st0 : Nat → Int64} {ba ba0 : Nat → Int32} (hi : i < 8) (hp : p < 96) (hd : d < 4) (hr8 : r ≤ 8) (hG : GL h g) (hL : LK i D n st st0) (hT : RT i r s ba ba0) (hf : mh_field g p = nI 64) : (mf_M_fits F (nI i) (UM g i (nI p) (nI d) (nI 0) (nI D) (nI r) st ba) = some (0, UM g i (nI p) (nI d) (nI 0) (nI D) (nI r) st ba) ∧ xf_Run_act F K (nI 64) (UX h K (nI (8 * p + 2 * d)) (nI D) (nI r) n s) = some (1, UX h K (nI (8 * p + 2 * d)) (nI D) (nI r) n s) ∧ mf_M_act F (nI i) (UM g i (nI p) (nI d) (nI 0) (nI D) (nI r) st ba) = some (ms_lives (UM g i (nI p) (nI d) (nI 0) (nI D) (nI r) st ba) i 0)) := by
  have hD := hL.1
  have hft := fits_U (F := F) (di := nI d) (re := nI r) (st := st) (ba := ba) hi hp hD (show 64 < 127 by omega) hf (show mf_M_pops (nI 64) = nI 0 from rfl) (show mf_M_pushes (nI 64) = nI 0 from rfl) (by omega) (by omega) (by omega) (by omega) (by omega)
  refine ⟨by rw [hft, if_neg (by omega)], rfl, ?_⟩
  rw [act_64 hi hp hf]
  rfl
theorem GL_wr {h : XH} {g : MH} {s : Nat → Int32} {f : Nat → Nat} {dr hd : Int32} {s' a b e d : Nat → Int32} {dv bv : Int32} (hG : GL h g) (hF : RF s s') (hB : RB s' hd dr f (xh_bbegin h) (xh_bbehind h) (xh_bsize h) (xh_blow h) (xh_bhigh h) bv dv a e b d) : GL (wX h s f dr hd) (wM g s' a b e d dv bv) := by
  obtain ⟨_, hT, hO, hP, hI, _⟩ := hG
  simp only [GL, wX_get, wM_get]
  exact ⟨hF, hT, hO, hP, hI, hB⟩
theorem FX_wX (h : XH) (s : Nat → Int32) (f : Nat → Nat) (dr hd : Int32) : FX h (wX h s f dr hd) := by
  simp only [FX, wX_get, and_self]
theorem FM_wM (g : MH) (s a b e d : Nat → Int32) (dv bv : Int32) : FM g (wM g s a b e d dv bv) := by
  simp only [FM, wM_get, and_self]
