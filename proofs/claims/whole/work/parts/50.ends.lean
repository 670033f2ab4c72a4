/-! what one sign does: the frames, the ends, the fits -/
def GL (h : XH) (g : MH) : Prop :=
  RF (xh_signs h) (mh_field g) ∧ RL 12 (xh_lsize h 1) (xh_lchars h 1) (mh_vtyped g) (mh_text g) ∧ RL 80 (xh_lsize h 0) (xh_lchars h 0) (mh_vshown g) (mh_output g) ∧ RL 80 (xh_lsize h 2) (xh_lchars h 2) (mh_vwritten g) (mh_page g) ∧ RI (xh_given h) (xh_read h) (mh_vinputs g) (mh_vread g) (xh_innums h) (mh_input g) ∧
  RB (mh_field g) (xh_held h) (xh_dropped h) (xh_row h) (xh_bbegin h) (xh_bbehind h) (xh_bsize h) (xh_blow h) (xh_bhigh h) (mh_vblocks g) (mh_vdrops g) (mh_begins g) (mh_behind g) (mh_lengths g) (mh_covered g)
def FX (h h1 : XH) : Prop := xh_living h1 = xh_living h ∧ xh_ptrs h1 = xh_ptrs h ∧ xh_pway h1 = xh_pway h ∧ xh_pdepth h1 = xh_pdepth h ∧ xh_pret h1 = xh_pret h ∧ xh_pnums h1 = xh_pnums h ∧ xh_prets h1 = xh_prets h ∧ xh_steps h1 = xh_steps h ∧ xh_stopped h1 = xh_stopped h
def FM (g g1 : MH) : Prop := mh_vfault g1 = mh_vfault g ∧ mh_vpointers g1 = mh_vpointers g ∧ mh_vstopped g1 = mh_vstopped g ∧ mh_vsteps g1 = mh_vsteps g ∧ mh_lives g1 = mh_lives g ∧ mh_place g1 = mh_place g ∧ mh_direction g1 = mh_direction g ∧ mh_quoted g1 = mh_quoted g ∧ mh_sizes g1 = mh_sizes g ∧ mh_returns g1 = mh_returns g
theorem FX_r (h : XH) : FX h h := ⟨rfl, rfl, rfl, rfl, rfl, rfl, rfl, rfl, rfl⟩
theorem FM_r (g : MH) : FM g g := ⟨rfl, rfl, rfl, rfl, rfl, rfl, rfl, rfl, rfl, rfl⟩
def RT (i r : Nat) (s ba ba0 : Nat → Int32) : Prop := (∀ j, j < r → ∃ v, v < 768 ∧ v % 2 = 0 ∧ s j = nI v ∧ ba (8 * i + j) = nI (4 * (v / 8) + v / 2 % 4)) ∧ ∀ y, y < 8 * i ∨ 8 * i + 8 ≤ y → ba y = ba0 y
theorem bh_ev {w c : Nat} (hq : w % 2 = 0) : bh w c = 8 * (if c = 35 then mv (mv (w / 8) (tn c (w / 2 % 4))) (tn c (w / 2 % 4)) else mv (w / 8) (tn c (w / 2 % 4))) + 2 * tn c (w / 2 % 4) + (if c = 34 then 1 else 0) := by
  unfold bh
  rw [if_neg (by omega)]
theorem bh_od {w c : Nat} (hq : w % 2 = 1) : bh w c = 8 * mv (w / 8) (w / 2 % 4) + 2 * (w / 2 % 4) + (if c = 34 then 0 else 1) := by
  unfold bh
  rw [if_pos hq]
theorem bh_parts {w c : Nat} (hq : w % 2 = 0) : bh w c / 8 = (if c = 35 then mv (mv (w / 8) (tn c (w / 2 % 4))) (tn c (w / 2 % 4)) else mv (w / 8) (tn c (w / 2 % 4))) ∧ bh w c / 2 % 4 = tn c (w / 2 % 4) ∧ bh w c % 2 = (if c = 34 then 1 else 0) := by
  have h1 : tn c (w / 2 % 4) < 4 := tn_lt (by omega)
  have h2 : (if c = 34 then 1 else 0) ≤ 1 := by split <;> omega
  rw [bh_ev hq]
  generalize (if c = 34 then 1 else 0) = z at *
  generalize (if c = 35 then mv (mv (w / 8) (tn c (w / 2 % 4))) (tn c (w / 2 % 4)) else mv (w / 8) (tn c (w / 2 % 4))) = y
  generalize tn c (w / 2 % 4) = x at *
  omega
theorem bo_parts {w c : Nat} (hq : w % 2 = 1) : bh w c / 8 = mv (w / 8) (w / 2 % 4) ∧ bh w c / 2 % 4 = w / 2 % 4 ∧ bh w c % 2 = (if c = 34 then 0 else 1) := by
  have h2 : (if c = 34 then 0 else 1) ≤ 1 := by split <;> omega
  rw [bh_od hq]
  generalize (if c = 34 then 0 else 1) = z at *
  generalize mv (w / 8) (w / 2 % 4) = y
  omega
theorem wp_parts (y d : Nat) (hd : d < 4) : (8 * y + 2 * d) / 8 = y ∧ (8 * y + 2 * d) / 2 % 4 = d ∧ (8 * y + 2 * d) % 2 = 0 := by omega
theorem tn_id {c d : Nat} (h : c ≠ 62 ∧ c ≠ 118 ∧ c ≠ 60 ∧ c ≠ 94 ∧ c ≠ 47 ∧ c ≠ 92) : tn c d = d := by
  unfold tn
  rw [if_neg h.1, if_neg h.2.1, if_neg h.2.2.1, if_neg h.2.2.2.1, if_neg h.2.2.2.2.1, if_neg h.2.2.2.2.2]
theorem J592_ok {F : Nat} {g : MH} {i p d c : Nat} {qu si re : Int32} {st : Nat → Int64} {ba : Nat → Int32} (hi : i < 8) (hp : p < 96) (hd : d < 4) (hc : c < 127) : mf_M_act_J592 F (nI i) (nI c) (UM g i (nI p) (nI d) qu si re st ba) = some (UM g i (nI (if c = 35 then mv (mv p d) d else mv p d)) (nI d) qu si re st ba) := by
  have h1 := mv_lt p hp d hd
  unfold mf_M_act_J592
  simp only [gd_nI hi (show 8 < 2 ^ 31 by omega), Option.bind_some, UM_place, UM_direction, mm_moved p hp d hd, UM_s_place, mm_moved _ h1 d hd]
  by_cases h0 : c = 35
  · rw [if_pos h0, if_pos (show nI c = (35 : Int32) by rw [h0]; rfl)]
  · rw [if_neg h0, if_neg (show ¬ nI c = (35 : Int32) from nI_neq (b := 35) h0 (by omega) (by omega))]
theorem J576_ok {F : Nat} {g : MH} {i p d c : Nat} {qu si re : Int32} {st : Nat → Int64} {ba : Nat → Int32} (hi : i < 8) (hp : p < 96) (hd : d < 4) (hc : c < 127) : mf_M_act_J576 F (nI i) (nI c) (UM g i (nI p) (nI d) qu si re st ba) = some (UM g i (nI (if c = 35 then mv (mv p (tn c d)) (tn c d) else mv p (tn c d))) (nI (tn c d)) qu si re st ba) := by
  unfold mf_M_act_J576
  simp only [gd_nI hi (show 8 < 2 ^ 31 by omega), Option.bind_some, UM_direction, mm_turned hc hd, UM_s_direction]
  exact J592_ok hi hp (tn_lt hd) hc
theorem fits_U {F : Nat} {g : MH} {i p D a b c : Nat} {di re : Int32} {st : Nat → Int64} {ba : Nat → Int32} (hi : i < 8) (hp : p < 96) (hD : D ≤ 24) (hc : c < 127) (hf : mh_field g p = nI c) (ha : mf_M_pops (nI c) = nI a) (hb : mf_M_pushes (nI c) = nI b) (ha3 : a ≤ 3) (hb2 : b ≤ 2) (n1 : c ≠ 67) (n2 : c ≠ 110) (n3 : c ≠ 98) :
    mf_M_fits F (nI i) (UM g i (nI p) di (nI 0) (nI D) re st ba) = some (if 24 < D - a + b then 2 else 0, UM g i (nI p) di (nI 0) (nI D) re st ba) := by
  have hf' : mh_field (UM g i (nI p) di (nI 0) (nI D) re st ba) p = nI c := hf
  have key : ∀ x, x ≤ 24 → mf_M_fits_J72 F (nI i) (nI c) (nI x) (UM g i (nI p) di (nI 0) (nI D) re st ba) = some (if 24 < x + b then 2 else 0, UM g i (nI p) di (nI 0) (nI D) re st ba) := by
    intro x hx
    unfold mf_M_fits_J72 mf_M_fits_J103
    rw [hb, nI_add]
    by_cases h1 : 24 < x + b
    · rw [if_pos (show (24 : Int32) < nI (x + b) by rw [li_24, nqt (by omega) (by omega)]; exact h1), if_pos h1]
    · rw [if_neg (show ¬ (24 : Int32) < nI (x + b) by rw [li_24, nqt (by omega) (by omega)]; exact h1), if_neg h1, if_neg (show ¬ nI c = (67 : Int32) from nI_neq (b := 67) n1 (by omega) (by omega)), if_neg (show ¬ nI c = (110 : Int32) from nI_neq (b := 110) n2 (by omega) (by omega)), if_neg (show ¬ nI c = (98 : Int32) from nI_neq (b := 98) n3 (by omega) (by omega))]
  unfold mf_M_fits
  simp only [gd_nI hi (show 8 < 2 ^ 31 by omega), Option.bind_some, UM_place, UM_quoted, UM_sizes, gd_nI hp (show 96 < 2 ^ 31 by omega), hf', ha, nql (show a < 2 ^ 31 by omega) (show D < 2 ^ 31 by omega)]
  rw [if_pos (show nI 0 = (0 : Int32) from rfl)]
  by_cases h1 : a ≤ D
  · rw [if_pos h1, pk_sub h1, key _ (by omega)]
  · rw [if_neg h1, show D - a = 0 by omega]
    exact key 0 (by omega)
theorem fits_Q {F : Nat} {g : MH} {i p D c : Nat} {di re : Int32} {st : Nat → Int64} {ba : Nat → Int32} (hi : i < 8) (hp : p < 96) (hD : D ≤ 24) (hc : c < 127) (hf : mh_field g p = nI c) :
    mf_M_fits F (nI i) (UM g i (nI p) di (nI 1) (nI D) re st ba) = some (if c ≠ 34 ∧ D = 24 then 2 else 0, UM g i (nI p) di (nI 1) (nI D) re st ba) := by
  have hf' : mh_field (UM g i (nI p) di (nI 1) (nI D) re st ba) p = nI c := hf
  unfold mf_M_fits
  simp only [gd_nI hi (show 8 < 2 ^ 31 by omega), Option.bind_some, UM_place, UM_quoted, UM_sizes, gd_nI hp (show 96 < 2 ^ 31 by omega), hf']
  rw [if_neg (show ¬ nI 1 = (0 : Int32) by decide)]
  by_cases h1 : c = 34
  · rw [if_pos (show nI c = (34 : Int32) by rw [h1]; rfl), if_neg (fun h => h.1 h1)]
  · rw [if_neg (show ¬ nI c = (34 : Int32) from nI_neq (b := 34) h1 (by omega) (by omega))]
    by_cases h2 : D = 24
    · rw [if_pos (show nI D = (24 : Int32) by rw [h2]; rfl), if_pos ⟨h1, h2⟩]
    · rw [if_neg (show ¬ nI D = (24 : Int32) from nI_neq (b := 24) h2 (by omega) (by omega)), if_neg (fun h => h2 h.2)]
theorem pass_U {h : XH} {K w c D D' : Nat} {r : Int32} {n n' : Nat → Int64} {s : Nat → Int32} (hw : w < 768) (hq : w % 2 = 0) (hc : c < 127) (hr : xf_Run_reckon K (nI c) (UX h K (nI w) (nI D) r n s) = some (UX h K (nI w) (nI D') r n' s)) :
    xf_Run_pass_J20 K (nI c) (UX h K (nI w) (nI D) r n s) = some (0, UX h K (nI (bh w c)) (nI D') r n' s) := by
  unfold xf_Run_pass_J20
  rw [UX_pway, wy_quo w hw, hq, if_pos (show nI 0 = (0 : Int32) from rfl), hr, Option.bind_some, UX_pway, wy_behind hw hc, UX_s_pway, Option.bind_some]
theorem pushesMore_U {w c : Nat} (hw : w < 768) (hq : w % 2 = 0) (hc : c < 127) : xf_Run_pushesMore (nI w) (nI c) = if (48 ≤ c ∧ c ≤ 57) ∨ c = 99 then 1 else 0 := by
  unfold xf_Run_pushesMore
  rw [wy_quo w hw, hq, if_neg (show ¬ nI 0 = (1 : Int32) by decide)]
  simp only [li_48, li_99, li_57, nqt (show c < 2 ^ 31 by omega) (show 48 < 2 ^ 31 by omega), nqe (show c < 2 ^ 31 by omega) (show 99 < 2 ^ 31 by omega), nql (show c < 2 ^ 31 by omega) (show 57 < 2 ^ 31 by omega)]
  repeat' split
  all_goals first | rfl | omega
theorem pushesMore_Q {w c : Nat} (hw : w < 768) (hq : w % 2 = 1) (hc : c < 127) : xf_Run_pushesMore (nI w) (nI c) = if c = 34 then 0 else 1 := by
  unfold xf_Run_pushesMore
  rw [wy_quo w hw, hq, if_pos (show nI 1 = (1 : Int32) by decide)]
  simp only [li_34, nqe (show c < 2 ^ 31 by omega) (show 34 < 2 ^ 31 by omega)]
theorem isFull_ok {h : XH} {K D : Nat} {w r : Int32} {n : Nat → Int64} {s : Nat → Int32} (hD : D ≤ 24) : xf_Ptr_isFull K (UX h K w (nI D) r n s) = if D = 24 then 1 else 0 := by
  unfold xf_Ptr_isFull
  rw [UX_pdepth]
  simp only [li_24, nqe (show D < 2 ^ 31 by omega) (show 24 < 2 ^ 31 by omega)]
theorem act_34 {F : Nat} {g : MH} {i p : Nat} {di si re : Int32} {st : Nat → Int64} {ba : Nat → Int32} (hi : i < 8) (hp : p < 96) (hf : mh_field g p = nI 34) : mf_M_act F (nI i) (UM g i (nI p) di (nI 0) si re st ba) = mf_M_act_J592 F (nI i) (nI 34) (ms_quoted (UM g i (nI p) di (nI 0) si re st ba) i (vp_nar .boolean 1)) := by
  have hf' : mh_field (UM g i (nI p) di (nI 0) si re st ba) p = nI 34 := hf
  unfold mf_M_act
  simp only [gd_nI hi (show 8 < 2 ^ 31 by omega), Option.bind_some, UM_place, UM_quoted, gd_nI hp (show 96 < 2 ^ 31 by omega), hf']
  rfl
theorem act_42 {F : Nat} {g : MH} {i p : Nat} {di si re : Int32} {st : Nat → Int64} {ba : Nat → Int32} (hi : i < 8) (hp : p < 96) (hf : mh_field g p = nI 42) : mf_M_act F (nI i) (UM g i (nI p) di (nI 0) si re st ba) = mf_M_act_J446 F (nI i) (nI 42) (UM g i (nI p) di (nI 0) si re st ba) := by
  have hf' : mh_field (UM g i (nI p) di (nI 0) si re st ba) p = nI 42 := hf
  unfold mf_M_act
  simp only [gd_nI hi (show 8 < 2 ^ 31 by omega), Option.bind_some, UM_place, UM_quoted, gd_nI hp (show 96 < 2 ^ 31 by omega), hf']
  rfl
theorem act_43 {F : Nat} {g : MH} {i p : Nat} {di si re : Int32} {st : Nat → Int64} {ba : Nat → Int32} (hi : i < 8) (hp : p < 96) (hf : mh_field g p = nI 43) : mf_M_act F (nI i) (UM g i (nI p) di (nI 0) si re st ba) = mf_M_act_J446 F (nI i) (nI 43) (UM g i (nI p) di (nI 0) si re st ba) := by
  have hf' : mh_field (UM g i (nI p) di (nI 0) si re st ba) p = nI 43 := hf
  unfold mf_M_act
  simp only [gd_nI hi (show 8 < 2 ^ 31 by omega), Option.bind_some, UM_place, UM_quoted, gd_nI hp (show 96 < 2 ^ 31 by omega), hf']
  rfl
theorem act_45 {F : Nat} {g : MH} {i p : Nat} {di si re : Int32} {st : Nat → Int64} {ba : Nat → Int32} (hi : i < 8) (hp : p < 96) (hf : mh_field g p = nI 45) : mf_M_act F (nI i) (UM g i (nI p) di (nI 0) si re st ba) = mf_M_act_J446 F (nI i) (nI 45) (UM g i (nI p) di (nI 0) si re st ba) := by
  have hf' : mh_field (UM g i (nI p) di (nI 0) si re st ba) p = nI 45 := hf
  unfold mf_M_act
  simp only [gd_nI hi (show 8 < 2 ^ 31 by omega), Option.bind_some, UM_place, UM_quoted, gd_nI hp (show 96 < 2 ^ 31 by omega), hf']
  rfl
theorem act_100 {F : Nat} {g : MH} {i p : Nat} {di si re : Int32} {st : Nat → Int64} {ba : Nat → Int32} (hi : i < 8) (hp : p < 96) (hf : mh_field g p = nI 100) : mf_M_act F (nI i) (UM g i (nI p) di (nI 0) si re st ba) = mf_M_act_J446 F (nI i) (nI 100) (UM g i (nI p) di (nI 0) si re st ba) := by
  have hf' : mh_field (UM g i (nI p) di (nI 0) si re st ba) p = nI 100 := hf
  unfold mf_M_act
  simp only [gd_nI hi (show 8 < 2 ^ 31 by omega), Option.bind_some, UM_place, UM_quoted, gd_nI hp (show 96 < 2 ^ 31 by omega), hf']
  rfl
theorem act_103 {F : Nat} {g : MH} {i p : Nat} {di si re : Int32} {st : Nat → Int64} {ba : Nat → Int32} (hi : i < 8) (hp : p < 96) (hf : mh_field g p = nI 103) : mf_M_act F (nI i) (UM g i (nI p) di (nI 0) si re st ba) = mf_M_act_J446 F (nI i) (nI 103) (UM g i (nI p) di (nI 0) si re st ba) := by
  have hf' : mh_field (UM g i (nI p) di (nI 0) si re st ba) p = nI 103 := hf
  unfold mf_M_act
  simp only [gd_nI hi (show 8 < 2 ^ 31 by omega), Option.bind_some, UM_place, UM_quoted, gd_nI hp (show 96 < 2 ^ 31 by omega), hf']
  rfl
theorem act_109 {F : Nat} {g : MH} {i p : Nat} {di si re : Int32} {st : Nat → Int64} {ba : Nat → Int32} (hi : i < 8) (hp : p < 96) (hf : mh_field g p = nI 109) : mf_M_act F (nI i) (UM g i (nI p) di (nI 0) si re st ba) = mf_M_act_J446 F (nI i) (nI 109) (UM g i (nI p) di (nI 0) si re st ba) := by
  have hf' : mh_field (UM g i (nI p) di (nI 0) si re st ba) p = nI 109 := hf
  unfold mf_M_act
  simp only [gd_nI hi (show 8 < 2 ^ 31 by omega), Option.bind_some, UM_place, UM_quoted, gd_nI hp (show 96 < 2 ^ 31 by omega), hf']
  rfl
theorem act_115 {F : Nat} {g : MH} {i p : Nat} {di si re : Int32} {st : Nat → Int64} {ba : Nat → Int32} (hi : i < 8) (hp : p < 96) (hf : mh_field g p = nI 115) : mf_M_act F (nI i) (UM g i (nI p) di (nI 0) si re st ba) = mf_M_act_J446 F (nI i) (nI 115) (UM g i (nI p) di (nI 0) si re st ba) := by
  have hf' : mh_field (UM g i (nI p) di (nI 0) si re st ba) p = nI 115 := hf
  unfold mf_M_act
  simp only [gd_nI hi (show 8 < 2 ^ 31 by omega), Option.bind_some, UM_place, UM_quoted, gd_nI hp (show 96 < 2 ^ 31 by omega), hf']
  rfl
theorem act_63 {F : Nat} {g : MH} {i p : Nat} {di si re : Int32} {st : Nat → Int64} {ba : Nat → Int32} (hi : i < 8) (hp : p < 96) (hf : mh_field g p = nI 63) : mf_M_act F (nI i) (UM g i (nI p) di (nI 0) si re st ba) = mf_M_act_J455 F (nI i) (nI 63) (UM g i (nI p) di (nI 0) si re st ba) := by
  have hf' : mh_field (UM g i (nI p) di (nI 0) si re st ba) p = nI 63 := hf
  unfold mf_M_act
  simp only [gd_nI hi (show 8 < 2 ^ 31 by omega), Option.bind_some, UM_place, UM_quoted, gd_nI hp (show 96 < 2 ^ 31 by omega), hf']
  rfl
theorem act_98 {F : Nat} {g : MH} {i p : Nat} {di si re : Int32} {st : Nat → Int64} {ba : Nat → Int32} (hi : i < 8) (hp : p < 96) (hf : mh_field g p = nI 98) : mf_M_act F (nI i) (UM g i (nI p) di (nI 0) si re st ba) = mf_M_act_J455 F (nI i) (nI 98) (UM g i (nI p) di (nI 0) si re st ba) := by
  have hf' : mh_field (UM g i (nI p) di (nI 0) si re st ba) p = nI 98 := hf
  unfold mf_M_act
  simp only [gd_nI hi (show 8 < 2 ^ 31 by omega), Option.bind_some, UM_place, UM_quoted, gd_nI hp (show 96 < 2 ^ 31 by omega), hf']
  rfl
theorem act_99 {F : Nat} {g : MH} {i p : Nat} {di si re : Int32} {st : Nat → Int64} {ba : Nat → Int32} (hi : i < 8) (hp : p < 96) (hf : mh_field g p = nI 99) : mf_M_act F (nI i) (UM g i (nI p) di (nI 0) si re st ba) = mf_M_act_J455 F (nI i) (nI 99) (UM g i (nI p) di (nI 0) si re st ba) := by
  have hf' : mh_field (UM g i (nI p) di (nI 0) si re st ba) p = nI 99 := hf
  unfold mf_M_act
  simp only [gd_nI hi (show 8 < 2 ^ 31 by omega), Option.bind_some, UM_place, UM_quoted, gd_nI hp (show 96 < 2 ^ 31 by omega), hf']
  rfl
theorem act_102 {F : Nat} {g : MH} {i p : Nat} {di si re : Int32} {st : Nat → Int64} {ba : Nat → Int32} (hi : i < 8) (hp : p < 96) (hf : mh_field g p = nI 102) : mf_M_act F (nI i) (UM g i (nI p) di (nI 0) si re st ba) = mf_M_act_J455 F (nI i) (nI 102) (UM g i (nI p) di (nI 0) si re st ba) := by
  have hf' : mh_field (UM g i (nI p) di (nI 0) si re st ba) p = nI 102 := hf
  unfold mf_M_act
  simp only [gd_nI hi (show 8 < 2 ^ 31 by omega), Option.bind_some, UM_place, UM_quoted, gd_nI hp (show 96 < 2 ^ 31 by omega), hf']
  rfl
theorem act_110 {F : Nat} {g : MH} {i p : Nat} {di si re : Int32} {st : Nat → Int64} {ba : Nat → Int32} (hi : i < 8) (hp : p < 96) (hf : mh_field g p = nI 110) : mf_M_act F (nI i) (UM g i (nI p) di (nI 0) si re st ba) = mf_M_act_J455 F (nI i) (nI 110) (UM g i (nI p) di (nI 0) si re st ba) := by
  have hf' : mh_field (UM g i (nI p) di (nI 0) si re st ba) p = nI 110 := hf
  unfold mf_M_act
  simp only [gd_nI hi (show 8 < 2 ^ 31 by omega), Option.bind_some, UM_place, UM_quoted, gd_nI hp (show 96 < 2 ^ 31 by omega), hf']
  rfl
theorem act_114 {F : Nat} {g : MH} {i p : Nat} {di si re : Int32} {st : Nat → Int64} {ba : Nat → Int32} (hi : i < 8) (hp : p < 96) (hf : mh_field g p = nI 114) : mf_M_act F (nI i) (UM g i (nI p) di (nI 0) si re st ba) = mf_M_act_J455 F (nI i) (nI 114) (UM g i (nI p) di (nI 0) si re st ba) := by
  have hf' : mh_field (UM g i (nI p) di (nI 0) si re st ba) p = nI 114 := hf
  unfold mf_M_act
  simp only [gd_nI hi (show 8 < 2 ^ 31 by omega), Option.bind_some, UM_place, UM_quoted, gd_nI hp (show 96 < 2 ^ 31 by omega), hf']
  rfl
theorem act_120 {F : Nat} {g : MH} {i p : Nat} {di si re : Int32} {st : Nat → Int64} {ba : Nat → Int32} (hi : i < 8) (hp : p < 96) (hf : mh_field g p = nI 120) : mf_M_act F (nI i) (UM g i (nI p) di (nI 0) si re st ba) = mf_M_act_J455 F (nI i) (nI 120) (UM g i (nI p) di (nI 0) si re st ba) := by
  have hf' : mh_field (UM g i (nI p) di (nI 0) si re st ba) p = nI 120 := hf
  unfold mf_M_act
  simp only [gd_nI hi (show 8 < 2 ^ 31 by omega), Option.bind_some, UM_place, UM_quoted, gd_nI hp (show 96 < 2 ^ 31 by omega), hf']
  rfl
theorem act_64 {F : Nat} {g : MH} {i p : Nat} {di si re : Int32} {st : Nat → Int64} {ba : Nat → Int32} (hi : i < 8) (hp : p < 96) (hf : mh_field g p = nI 64) : mf_M_act F (nI i) (UM g i (nI p) di (nI 0) si re st ba) = some (ms_lives (UM g i (nI p) di (nI 0) si re st ba) i (vp_nar .boolean 0)) := by
  have hf' : mh_field (UM g i (nI p) di (nI 0) si re st ba) p = nI 64 := hf
  unfold mf_M_act
  simp only [gd_nI hi (show 8 < 2 ^ 31 by omega), Option.bind_some, UM_place, UM_quoted, gd_nI hp (show 96 < 2 ^ 31 by omega), hf']
  rfl
theorem act_67 {F : Nat} {g : MH} {i p : Nat} {di si re : Int32} {st : Nat → Int64} {ba : Nat → Int32} (hi : i < 8) (hp : p < 96) (hf : mh_field g p = nI 67) : mf_M_act F (nI i) (UM g i (nI p) di (nI 0) si re st ba) = (mf_M_doCall (nI i) (UM g i (nI p) di (nI 0) si re st ba)).bind fun q25 => some (q25) := by
  have hf' : mh_field (UM g i (nI p) di (nI 0) si re st ba) p = nI 67 := hf
  unfold mf_M_act
  simp only [gd_nI hi (show 8 < 2 ^ 31 by omega), Option.bind_some, UM_place, UM_quoted, gd_nI hp (show 96 < 2 ^ 31 by omega), hf']
  rfl
theorem act_82 {F : Nat} {g : MH} {i p : Nat} {di si re : Int32} {st : Nat → Int64} {ba : Nat → Int32} (hi : i < 8) (hp : p < 96) (hf : mh_field g p = nI 82) : mf_M_act F (nI i) (UM g i (nI p) di (nI 0) si re st ba) = (mf_M_doReturn (nI i) (UM g i (nI p) di (nI 0) si re st ba)).bind fun q26 => some (q26) := by
  have hf' : mh_field (UM g i (nI p) di (nI 0) si re st ba) p = nI 82 := hf
  unfold mf_M_act
  simp only [gd_nI hi (show 8 < 2 ^ 31 by omega), Option.bind_some, UM_place, UM_quoted, gd_nI hp (show 96 < 2 ^ 31 by omega), hf']
  rfl
theorem act_119 {F : Nat} {g : MH} {i p : Nat} {di si re : Int32} {st : Nat → Int64} {ba : Nat → Int32} (hi : i < 8) (hp : p < 96) (hf : mh_field g p = nI 119) : mf_M_act F (nI i) (UM g i (nI p) di (nI 0) si re st ba) = (mf_M_doWrite F (nI i) (UM g i (nI p) di (nI 0) si re st ba)).bind fun q30 => mf_M_act_J592 F (nI i) (nI 119) q30 := by
  have hf' : mh_field (UM g i (nI p) di (nI 0) si re st ba) p = nI 119 := hf
  unfold mf_M_act
  simp only [gd_nI hi (show 8 < 2 ^ 31 by omega), Option.bind_some, UM_place, UM_quoted, gd_nI hp (show 96 < 2 ^ 31 by omega), hf']
  rfl
abbrev plain (c : Nat) : Prop := c ≠ 34 ∧ c ≠ 42 ∧ c ≠ 43 ∧ c ≠ 45 ∧ c ≠ 63 ∧ c ≠ 64 ∧ c ≠ 67 ∧ c ≠ 82 ∧ c ≠ 98 ∧ c ≠ 99 ∧ c ≠ 100 ∧ c ≠ 102 ∧ c ≠ 103 ∧ c ≠ 105 ∧ c ≠ 109 ∧ c ≠ 110 ∧ c ≠ 114 ∧ c ≠ 115 ∧ c ≠ 119 ∧ c ≠ 120
theorem act_plain {F : Nat} {g : MH} {i p c : Nat} {di si re : Int32} {st : Nat → Int64} {ba : Nat → Int32} (hi : i < 8) (hp : p < 96) (hc : c < 127) (hf : mh_field g p = nI c) (hpl : plain c) : mf_M_act F (nI i) (UM g i (nI p) di (nI 0) si re st ba) = mf_M_act_J554 F (nI i) (nI c) (UM g i (nI p) di (nI 0) si re st ba) := by
  have hf' : mh_field (UM g i (nI p) di (nI 0) si re st ba) p = nI c := hf
  obtain ⟨h34, h42, h43, h45, h63, h64, h67, h82, h98, h99, h100, h102, h103, h105, h109, h110, h114, h115, h119, h120⟩ := hpl
  unfold mf_M_act
  simp only [gd_nI hi (show 8 < 2 ^ 31 by omega), Option.bind_some, UM_place, UM_quoted, gd_nI hp (show 96 < 2 ^ 31 by omega), hf']
  rw [if_pos (show nI 0 = (0 : Int32) from rfl)]
  simp only [show ¬ nI c = (34 : Int32) from nI_neq (b := 34) h34 (by omega) (by omega), show ¬ nI c = (42 : Int32) from nI_neq (b := 42) h42 (by omega) (by omega), show ¬ nI c = (43 : Int32) from nI_neq (b := 43) h43 (by omega) (by omega), show ¬ nI c = (45 : Int32) from nI_neq (b := 45) h45 (by omega) (by omega), show ¬ nI c = (63 : Int32) from nI_neq (b := 63) h63 (by omega) (by omega), show ¬ nI c = (64 : Int32) from nI_neq (b := 64) h64 (by omega) (by omega), show ¬ nI c = (67 : Int32) from nI_neq (b := 67) h67 (by omega) (by omega), show ¬ nI c = (82 : Int32) from nI_neq (b := 82) h82 (by omega) (by omega), show ¬ nI c = (98 : Int32) from nI_neq (b := 98) h98 (by omega) (by omega), show ¬ nI c = (99 : Int32) from nI_neq (b := 99) h99 (by omega) (by omega), show ¬ nI c = (100 : Int32) from nI_neq (b := 100) h100 (by omega) (by omega), show ¬ nI c = (102 : Int32) from nI_neq (b := 102) h102 (by omega) (by omega), show ¬ nI c = (103 : Int32) from nI_neq (b := 103) h103 (by omega) (by omega), show ¬ nI c = (105 : Int32) from nI_neq (b := 105) h105 (by omega) (by omega), show ¬ nI c = (109 : Int32) from nI_neq (b := 109) h109 (by omega) (by omega), show ¬ nI c = (110 : Int32) from nI_neq (b := 110) h110 (by omega) (by omega), show ¬ nI c = (114 : Int32) from nI_neq (b := 114) h114 (by omega) (by omega), show ¬ nI c = (115 : Int32) from nI_neq (b := 115) h115 (by omega) (by omega), show ¬ nI c = (119 : Int32) from nI_neq (b := 119) h119 (by omega) (by omega), show ¬ nI c = (120 : Int32) from nI_neq (b := 120) h120 (by omega) (by omega), if_false, ite_self]
theorem act_105 {F : Nat} {g : MH} {i p : Nat} {di si re : Int32} {st : Nat → Int64} {ba : Nat → Int32} (hi : i < 8) (hp : p < 96) (hf : mh_field g p = nI 105) : mf_M_act F (nI i) (UM g i (nI p) di (nI 0) si re st ba) = if mh_vinputs g ≤ mh_vread g then mf_M_act_J500 F (nI i) (nI 105) (nI i) (-1) (UM g i (nI p) di (nI 0) si re st ba) else (gd 40 (mh_vread g)).bind fun j29 => mf_M_act_J500 F (nI i) (nI 105) (nI i) (mh_input g j29) (UM g i (nI p) di (nI 0) si re st ba) := by
  have hf' : mh_field (UM g i (nI p) di (nI 0) si re st ba) p = nI 105 := hf
  unfold mf_M_act
  simp only [gd_nI hi (show 8 < 2 ^ 31 by omega), Option.bind_some, UM_place, UM_quoted, gd_nI hp (show 96 < 2 ^ 31 by omega), hf']
  rfl
theorem act_Q {F : Nat} {g : MH} {i p c : Nat} {di si re : Int32} {st : Nat → Int64} {ba : Nat → Int32} (hi : i < 8) (hp : p < 96) (hc : c < 127) (hf : mh_field g p = nI c) : mf_M_act F (nI i) (UM g i (nI p) di (nI 1) si re st ba) = if c = 34 then mf_M_act_J34 F (nI i) (nI c) (UM g i (nI p) di (nI 1) si re st ba) else (mf_M_push (nI i) (nI c).toInt64 (UM g i (nI p) di (nI 1) si re st ba)).bind fun q37 => mf_M_act_J34 F (nI i) (nI c) q37 := by
  have hf' : mh_field (UM g i (nI p) di (nI 1) si re st ba) p = nI c := hf
  unfold mf_M_act
  simp only [gd_nI hi (show 8 < 2 ^ 31 by omega), Option.bind_some, UM_place, UM_quoted, gd_nI hp (show 96 < 2 ^ 31 by omega), hf']
  rw [if_neg (show ¬ nI 1 = (0 : Int32) by decide)]
  simp only [li_34, nqe (show c < 2 ^ 31 by omega) (show 34 < 2 ^ 31 by omega)]
