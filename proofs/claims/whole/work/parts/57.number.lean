/-! writing a number out: both sides -/
theorem FX_t {a b c : XH} (h1 : FX a b) (h2 : FX b c) : FX a c := by
  obtain ⟨x1, x2, x3, x4, x5, x6, x7, x8, x9⟩ := h1
  obtain ⟨y1, y2, y3, y4, y5, y6, y7, y8, y9⟩ := h2
  exact ⟨y1.trans x1, y2.trans x2, y3.trans x3, y4.trans x4, y5.trans x5, y6.trans x6, y7.trans x7, y8.trans x8, y9.trans x9⟩
theorem FM_t {a b c : MH} (h1 : FM a b) (h2 : FM b c) : FM a c := by
  obtain ⟨x1, x2, x3, x4, x5, x6, x7, x8, x9, x10⟩ := h1
  obtain ⟨y1, y2, y3, y4, y5, y6, y7, y8, y9, y10⟩ := h2
  exact ⟨y1.trans x1, y2.trans x2, y3.trans x3, y4.trans x4, y5.trans x5, y6.trans x6, y7.trans x7, y8.trans x8, y9.trans x9, y10.trans x10⟩
theorem FX_out (h : XH) (t : Nat) (v u : Int32) : FX h (xs_lsize (xs_lchars h 0 t v) 0 u) := by
  simp only [FX, gx_lsize, gx_lchars, and_self]
theorem FM_out (g : MH) (t : Nat) (v u : Int32) : FM g (ms_vshown (ms_output g t v) u) := by
  simp only [FM, gm_vshown, gm_output, and_self]
def vM (c : Nat) : Int32 := if c = 0 then -1 else nI (c - 1)
theorem vM_s (c : Nat) : nI c + (-1 : Int32) = vM c := by
  unfold vM
  by_cases h : c = 0
  · subst h; rfl
  · rw [if_neg h]
    obtain ⟨k, rfl⟩ : ∃ k, c = k + 1 := ⟨c - 1, by omega⟩
    rw [nI_m1]
    rfl
theorem wn_ok {F K i p d D r : Nat} {n : Nat → Int64} {s : Nat → Int32} {st : Nat → Int64} {ba : Nat → Int32} (hp : p < 96) (hd : d < 4) : ∀ (c t : Nat) (h : XH) (g : MH), GL h g → xh_lsize h 0 = nI t → DD c (xh_digits h) (mh_digits g) → c ≤ 20 → t + c + 1 ≤ 80 → ∀ mx mm, c < mx → c < mm →
    ∃ h1 g1, xf_Run_writeNumber_L35 F mx K (nI (20 - c)) (UX h K (nI (8 * p + 2 * d)) (nI D) (nI r) n s) = some (0, UX h1 K (nI (8 * mv p d + 2 * d)) (nI D) (nI r) n s) ∧ mf_M_doOne_L162 F mm (vM c) (UM g i (nI p) (nI d) (nI 0) (nI D) (nI r) st ba) = some (UM g1 i (nI p) (nI d) (nI 0) (nI D) (nI r) st ba) ∧ GL h1 g1 ∧ FX h h1 ∧ FM g g1 := by
  intro c
  induction c with
  | zero =>
    intro t h g hG hs hdd hc ht mx mm hmx hmm
    obtain ⟨mx, rfl⟩ : ∃ q, mx = q + 1 := ⟨mx - 1, by omega⟩
    obtain ⟨mm, rfl⟩ : ∃ q, mm = q + 1 := ⟨mm - 1, by omega⟩
    obtain ⟨t', ht', e1, e2, hch⟩ := id hG.2.2.1
    have htt : t' = t := by
      have := e1.symm.trans hs
      rwa [nqe (by omega) (by omega)] at this
    subst htt
    obtain ⟨o1, o2, o3⟩ := out_ok (K := K) (i := i) (w := nI (8 * p + 2 * d)) (d := nI D) (r := nI r) (n := n) (s := s) (pl := nI p) (di := nI d) (qu := nI 0) (si := nI D) (re := nI r) (st := st) (ba := ba) (show t' < 80 by omega) SG_32 e1 e2 hch
    refine ⟨_, _, ?_, ?_, GL_out hG (by omega) o3, FX_out _ _ _ _, FM_out _ _ _ _⟩
    · rw [xf_Run_writeNumber_L35, if_pos (show (20 : Int32) ≤ nI (20 - 0) by decide), o1, Option.bind_some, UX_pway, aheadE hp hd, UX_s_pway, Option.bind_some]
    · rw [mf_M_doOne_L162, if_pos (show vM 0 < 0 by decide), o2, Option.bind_some]
  | succ c ih =>
    intro t h g hG hs hdd hc ht mx mm hmx hmm
    obtain ⟨mx, rfl⟩ : ∃ q, mx = q + 1 := ⟨mx - 1, by omega⟩
    obtain ⟨mm, rfl⟩ : ∃ q, mm = q + 1 := ⟨mm - 1, by omega⟩
    obtain ⟨t', ht', e1, e2, hch⟩ := id hG.2.2.1
    have htt : t' = t := by
      have := e1.symm.trans hs
      rwa [nqe (by omega) (by omega)] at this
    subst htt
    obtain ⟨d1, d2⟩ := hdd c (by omega)
    obtain ⟨o1, o2, o3⟩ := out_ok (K := K) (i := i) (w := nI (8 * p + 2 * d)) (d := nI D) (r := nI r) (n := n) (s := s) (pl := nI p) (di := nI d) (qu := nI 0) (si := nI D) (re := nI r) (st := st) (ba := ba) (show t' < 80 by omega) d2 e1 e2 hch
    obtain ⟨h1, g1, q1, q2, q3, q4, q5⟩ := ih (t' + 1) _ _ (GL_out hG (by omega) o3) o3.1 (by simp only [gx_lsize, gx_lchars, gm_vshown, gm_output]; exact fun j hj => hdd j (by omega)) (by omega) (by omega) mx mm (by omega) (by omega)
    refine ⟨h1, g1, ?_, ?_, q3, FX_t (FX_out _ _ _ _) q4, FM_t (FM_out _ _ _ _) q5⟩
    · rw [xf_Run_writeNumber_L35, if_neg (show ¬ (20 : Int32) ≤ nI (20 - (c + 1)) by rw [li_20, nql (by omega) (by omega)]; omega), gd_nI (by omega) (by omega), Option.bind_some, show xh_digits (UX h K (nI (8 * p + 2 * d)) (nI D) (nI r) n s) (20 - (c + 1)) = mh_digits g c by simp only [UX_get]; rw [show 20 - (c + 1) = 19 - c by omega]; exact d1, o1, Option.bind_some, nI_1, show 20 - (c + 1) + 1 = 20 - c by omega]
      exact q1
    · rw [mf_M_doOne_L162, show vM (c + 1) = nI c from rfl, if_neg (show ¬ nI c < 0 by rw [li_0, nqt (by omega) (by omega)]; omega), gd_nI (by omega) (by omega), Option.bind_some, show mh_digits (UM g i (nI p) (nI d) (nI 0) (nI D) (nI r) st ba) c = mh_digits g c by simp only [UM_get], o2, Option.bind_some, vM_s]
      exact q2
theorem nth_0 {D : Nat} {n : Nat → Int64} (hD : D ≤ 24) : nth D n 0 = pv D n := by
  unfold nth pv
  rw [if_neg (by decide)]
  by_cases h0 : D = 0
  · subst h0; rfl
  · have h1 : (0 : Int64) < (nI D).toInt64 := by
      rw [Int64.lt_iff_toInt_lt, Int32.toInt_toInt64]
      show (0 : Int) < (Int32.ofNat D).toInt
      rw [Int32.toInt_ofNat_of_lt (by omega)]
      omega
    rw [if_pos h1, if_neg h0]
    rfl
theorem topOf_ok {i D : Nat} {g : MH} {pl di qu re : Int32} {st : Nat → Int64} {ba : Nat → Int32} (hi : i < 8) (hD : D ≤ 24) : mf_M_topOf (nI i) (UM g i pl di qu (nI D) re st ba) = some (pv D (fun j => st (24 * i + j))) := by
  unfold mf_M_topOf pv
  rw [gd_nI hi (by omega), Option.bind_some, UM_sizes]
  by_cases h0 : D = 0
  · subst h0
    rw [if_pos (show nI 0 = (0 : Int32) from rfl), if_pos rfl]
  · rw [if_neg (show ¬ nI D = (0 : Int32) from nI_neq (b := 0) h0 (by omega) (by omega)), if_neg h0, Option.bind_some, UM_sizes, show (24 : Int32) * nI i + nI D - 1 = nI (24 * i + (D - 1)) by rw [li_24, pk_mul, nI_add, li_1, pk_sub (by omega), show 24 * i + D - 1 = 24 * i + (D - 1) by omega], gd_nI (by omega) (by omega), Option.bind_some, UM_stacks]
theorem UX_dig {h : XH} {K : Nat} {w d r : Int32} {n : Nat → Int64} {s f : Nat → Int32} : xz_digits (UX h K w d r n s) f = UX (xz_digits h f) K w d r n s := rfl
theorem UM_dig {g : MH} {i : Nat} {pl di qu si re : Int32} {st : Nat → Int64} {ba f : Nat → Int32} : mz_digits (UM g i pl di qu si re st ba) f = UM (mz_digits g f) i pl di qu si re st ba := rfl
theorem GL_dig {h : XH} {g : MH} {f f' : Nat → Int32} (hG : GL h g) : GL (xz_digits h f) (mz_digits g f') := by
  simp only [GL, gxz_digits, gmz_digits]
  exact hG
theorem FX_dig (h : XH) (f : Nat → Int32) : FX h (xz_digits h f) := by
  simp only [FX, gxz_digits, and_self]
theorem FM_dig (g : MH) (f : Nat → Int32) : FM g (mz_digits g f) := by
  simp only [FM, gmz_digits, and_self]
theorem ac_110 {F : Nat} {h : XH} {g : MH} {K i p d D r : Nat} {n : Nat → Int64} {s : Nat → Int32} {st st0 : Nat → Int64} {ba ba0 : Nat → Int32} (hFu : 96 < F) (hi : i < 8) (hp : p < 96) (hd : d < 4) (hr8 : r ≤ 8) (hG : GL h g) (hL : LK i D n st st0) (hT : RT i r s ba ba0) (hf : mh_field g p = nI 110) : OD h g K i (nI (8 * p + 2 * d)) (nI D) (nI r) n s (nI p) (nI d) (nI 0) (nI D) (nI r) st ba (xf_Run_act F K (nI 110) (UX h K (nI (8 * p + 2 * d)) (nI D) (nI r) n s)) (mf_M_fits F (nI i) (UM g i (nI p) (nI d) (nI 0) (nI D) (nI r) st ba)) ∨ (∃ g0, mf_M_fits F (nI i) (UM g i (nI p) (nI d) (nI 0) (nI D) (nI r) st ba) = some (0, UM g0 i (nI p) (nI d) (nI 0) (nI D) (nI r) st ba) ∧ FM g g0 ∧ OA h g K i st0 ba0 (xf_Run_act F K (nI 110) (UX h K (nI (8 * p + 2 * d)) (nI D) (nI r) n s)) (mf_M_act F (nI i) (UM g0 i (nI p) (nI d) (nI 0) (nI D) (nI r) st ba))) := by
  have hD := hL.1
  have hx0 : xf_Run_act F K (nI 110) (UX h K (nI (8 * p + 2 * d)) (nI D) (nI r) n s) = (xf_Run_writeNumber F K (UX h K (nI (8 * p + 2 * d)) (nI D) (nI r) n s)).bind fun q1 => some ((q1.1, q1.2)) := rfl
  have hf' : mh_field (UM g i (nI p) (nI d) (nI 0) (nI D) (nI r) st ba) p = nI 110 := hf
  obtain ⟨t, ht, e1, e2, hch⟩ := id hG.2.2.1
  obtain ⟨len, dx, dm, l1, l2, f1, f2, f3⟩ := spell_ok (F := F) (by omega) (pv D n) (UX h K (nI (8 * p + 2 * d)) (nI D) (nI r) n s) (UM g i (nI p) (nI d) (nI 0) (nI D) (nI r) st ba)
  rw [UX_dig] at f1
  rw [UM_dig] at f2
  have hft : mf_M_fits F (nI i) (UM g i (nI p) (nI d) (nI 0) (nI D) (nI r) st ba) = if t + len + 1 ≤ 80 then some (0, UM (mz_digits g dm) i (nI p) (nI d) (nI 0) (nI D) (nI r) st ba) else some (3, UM (mz_digits g dm) i (nI p) (nI d) (nI 0) (nI D) (nI r) st ba) := by
    have key : ∀ x, x ≤ 24 → mf_M_fits_J72 F (nI i) (nI 110) (nI x) (UM g i (nI p) (nI d) (nI 0) (nI D) (nI r) st ba) = if t + len + 1 ≤ 80 then some (0, UM (mz_digits g dm) i (nI p) (nI d) (nI 0) (nI D) (nI r) st ba) else some (3, UM (mz_digits g dm) i (nI p) (nI d) (nI 0) (nI D) (nI r) st ba) := by
      intro x hx
      unfold mf_M_fits_J72 mf_M_fits_J103 mf_M_fits_J115 mf_M_fits_J136
      rw [show mf_M_pushes (nI 110) = nI 0 from rfl, nI_add, if_neg (show ¬ (24 : Int32) < nI (x + 0) by rw [li_24, nqt (by omega) (by omega)]; omega), if_neg (show ¬ nI 110 = (67 : Int32) by decide), if_pos (show nI 110 = (110 : Int32) from rfl), if_neg (show ¬ nI 110 = (98 : Int32) by decide), topOf_ok hi hD, Option.bind_some, LK_pv hL, f2, Option.bind_some, show mh_vshown (UM (mz_digits g dm) i (nI p) (nI d) (nI 0) (nI D) (nI r) st ba) = nI t by simp only [UM_get, gmz_digits]; exact e2, nI_1, nI_add]
      by_cases h1 : t + len + 1 ≤ 80
      · rw [if_pos h1, if_pos (show nI (t + (len + 1)) ≤ (80 : Int32) by rw [li_80, nql (by omega) (by omega)]; omega)]
      · rw [if_neg h1, if_neg (show ¬ nI (t + (len + 1)) ≤ (80 : Int32) by rw [li_80, nql (by omega) (by omega)]; omega)]
    unfold mf_M_fits
    simp only [gd_nI hi (show 8 < 2 ^ 31 by omega), Option.bind_some, UM_place, UM_quoted, UM_sizes, gd_nI hp (show 96 < 2 ^ 31 by omega), hf', show mf_M_pops (nI 110) = nI 1 from rfl, nql (show 1 < 2 ^ 31 by omega) (show D < 2 ^ 31 by omega)]
    rw [if_pos (show nI 0 = (0 : Int32) from rfl)]
    by_cases h1 : 1 ≤ D
    · rw [if_pos h1, pk_sub h1, key _ (by omega)]
    · rw [if_neg h1]
      exact key 0 (by omega)
  have hroom : ∀ f, xf_Line_hasRoom 0 (((20 : Int32) - nI (20 - len)) + (1 : Int32)) (UX (xz_digits h f) K (nI (8 * p + 2 * d)) (nI D) (nI r) n s) = if t + len + 1 ≤ 80 then 1 else 0 := by
    intro f
    unfold xf_Line_hasRoom
    rw [show xh_lsize (UX (xz_digits h f) K (nI (8 * p + 2 * d)) (nI D) (nI r) n s) 0 = nI t by simp only [UX_get, gxz_digits]; exact e1, show nI (xh_cap 0) = nI 80 from rfl, pk_sub (by omega), li_20, pk_sub (by omega), nI_1, show 20 - (20 - len) + 1 = len + 1 by omega]
    by_cases h1 : t + len + 1 ≤ 80
    · rw [if_pos h1, if_neg (by rw [nqt (by omega) (by omega)]; omega)]
    · rw [if_neg h1, if_pos (by rw [nqt (by omega) (by omega)]; omega)]
  rw [hx0, hft]
  unfold xf_Run_writeNumber
  by_cases h1 : t + len + 1 ≤ 80
  · right
    refine ⟨mz_digits g dm, by rw [if_pos h1], FM_dig _ _, ?_⟩
    obtain ⟨len2, dx2, dm2, m1, m2, k1, k2, k3⟩ := spell_ok (F := F) (by omega) (pv D n) (UX h K (nI (8 * p + 2 * d)) (nI D) (nI r) n s) (UM (mz_digits g dm) i (nI p) (nI d) (nI 0) (nI (D - 1)) (nI r) st ba)
    rw [UX_dig] at k1
    rw [UM_dig] at k2
    have hll : len2 = len := by
      have h9 := Option.some.inj (k1.symm.trans f1)
      have h8 := congrArg Prod.fst h9
      have h7 : nI (20 - len2) = nI (20 - len) := h8
      rw [nqe (by omega) (by omega)] at h7
      omega
    subst hll
    obtain ⟨hh, gg, w1, w2, w3, w4, w5⟩ := wn_ok (F := F) (K := K) (i := i) (D := D - 1) (r := r) (n := n) (s := s) (st := st) (ba := ba) hp hd len2 t (xz_digits h dx2) (mz_digits (mz_digits g dm) dm2) (GL_dig (GL_dig (f := xh_digits h) hG)) e1 k3 m2 h1 F F (by omega) (by omega)
    have hM : mf_M_doOne F (nI i) (nI 110) (UM (mz_digits g dm) i (nI p) (nI d) (nI 0) (nI D) (nI r) st ba) = some (UM gg i (nI p) (nI d) (nI 0) (nI (D - 1)) (nI r) st ba) := by
      unfold mf_M_doOne
      rw [popM hi hD, Option.bind_some, LK_pv hL, if_neg (show ¬ nI 110 = (99 : Int32) by decide), if_neg (show ¬ nI 110 = (114 : Int32) by decide), if_neg (show ¬ nI 110 = (63 : Int32) by decide), if_pos (show nI 110 = (110 : Int32) from rfl), k2, Option.bind_some]
      show mf_M_doOne_L162 F F (nI len2 - 1) _ = _
      rw [show nI len2 - 1 = vM len2 by rw [← vM_s, Int32.sub_eq_add_neg]]
      exact w2
    have hX : (xf_Run_spell F (pv D n) (UX h K (nI (8 * p + 2 * d)) (nI D) (nI r) n s)).bind (fun q2 => if (xf_Line_hasRoom 0 (((20 : Int32) - q2.1) + (1 : Int32)) q2.2) = 0 then some (((3 : Int32), q2.2)) else (xf_Ptr_pop K q2.2).bind fun q3 => xf_Run_writeNumber_L35 F F K q2.1 q3.2) = some (0, UX hh K (nI (8 * mv p d + 2 * d)) (nI (D - 1)) (nI r) n s) := by
      rw [k1, Option.bind_some, hroom, if_pos h1, if_neg (by decide), popX hD, Option.bind_some]
      exact w1
    rw [fromTop_ok hD, Option.bind_some, nth_0 hD, hX, Option.bind_some, act_110 hi hp (by simp only [gmz_digits]; exact hf)]
    unfold mf_M_act_J455
    rw [hM, Option.bind_some, J592_ok hi hp hd (by omega)]
    exact oa_mk (mv_lt p hp d hd) hd hr8 rfl rfl w3 (FX_t (FX_dig _ _) w4) (FM_t (FM_dig _ _) (FM_t (FM_dig _ _) w5)) (LK_pop hL) hT
  · left
    refine ⟨xz_digits h dx, mz_digits g dm, 3, Or.inr rfl, ?_, by rw [if_neg h1], GL_dig hG, FX_dig _ _, FM_dig _ _⟩
    rw [fromTop_ok hD, Option.bind_some, nth_0 hD, f1, Option.bind_some, hroom, if_neg h1, if_pos rfl, Option.bind_some]
