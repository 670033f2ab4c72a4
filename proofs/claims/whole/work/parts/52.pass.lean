/-! signs that do not act: the same on both sides -/
def OA (h : XH) (g : MH) (K i : Nat) (st0 : Nat → Int64) (ba0 : Nat → Int32) (cx : Option (Int32 × XH)) (cm : Option MH) : Prop :=
  ∃ (h1 : XH) (g1 : MH) (w D r : Nat) (n : Nat → Int64) (s : Nat → Int32) (st : Nat → Int64) (ba : Nat → Int32), w < 768 ∧ r ≤ 8 ∧ cx = some (0, UX h1 K (nI w) (nI D) (nI r) n s) ∧ cm = some (UM g1 i (nI (w / 8)) (nI (w / 2 % 4)) (nI (w % 2)) (nI D) (nI r) st ba) ∧ GL h1 g1 ∧ FX h h1 ∧ FM g g1 ∧ LK i D n st st0 ∧ RT i r s ba ba0
def OP (w c : Nat) (h : XH) (g : MH) (K i : Nat) (st0 : Nat → Int64) (ba0 : Nat → Int32) (cx : Option (Int32 × XH)) (cm : Option MH) : Prop :=
  ∃ (D r : Nat) (n : Nat → Int64) (s : Nat → Int32) (st : Nat → Int64) (ba : Nat → Int32), bh w c < 768 ∧ r ≤ 8 ∧ cx = some (0, UX h K (nI (bh w c)) (nI D) (nI r) n s) ∧ cm = some (UM g i (nI (bh w c / 8)) (nI (bh w c / 2 % 4)) (nI (bh w c % 2)) (nI D) (nI r) st ba) ∧ GL h g ∧ LK i D n st st0 ∧ RT i r s ba ba0
theorem OP_OA {w c : Nat} {h : XH} {g : MH} {K i : Nat} {st0 : Nat → Int64} {ba0 : Nat → Int32} {cx : Option (Int32 × XH)} {cm : Option MH} (H : OP w c h g K i st0 ba0 cx cm) : OA h g K i st0 ba0 cx cm := by
  obtain ⟨D, r, n, s, st, ba, a1, a2, a3, a4, a5, a6, a7⟩ := H
  exact ⟨h, g, bh w c, D, r, n, s, st, ba, a1, a2, a3, a4, a5, FX_r h, FM_r g, a6, a7⟩
theorem na_fin {F : Nat} {h : XH} {g : MH} {K i w D r : Nat} {n : Nat → Int64} {s : Nat → Int32} {st st0 : Nat → Int64} {ba ba0 : Nat → Int32} {c D' : Nat} {n' st' : Nat → Int64} (hw : w < 768) (hq : w % 2 = 0) (hc : c < 127) (hr8 : r ≤ 8) (hG : GL h g) (hT : RT i r s ba ba0) (hx : xf_Run_reckon K (nI c) (UX h K (nI w) (nI D) (nI r) n s) = some (UX h K (nI w) (nI D') (nI r) n' s))
    (hm : mf_M_act F (nI i) (UM g i (nI (w / 8)) (nI (w / 2 % 4)) (nI 0) (nI D) (nI r) st ba) = some (UM g i (nI (if c = 35 then mv (mv (w / 8) (tn c (w / 2 % 4))) (tn c (w / 2 % 4)) else mv (w / 8) (tn c (w / 2 % 4)))) (nI (tn c (w / 2 % 4))) (nI (if c = 34 then 1 else 0)) (nI D') (nI r) st' ba)) (hL : LK i D' n' st' st0) :
    OP w c h g K i st0 ba0 (xf_Run_pass_J20 K (nI c) (UX h K (nI w) (nI D) (nI r) n s)) (mf_M_act F (nI i) (UM g i (nI (w / 8)) (nI (w / 2 % 4)) (nI 0) (nI D) (nI r) st ba)) := by
  obtain ⟨b1, b2, b3⟩ := bh_parts (w := w) (c := c) hq
  exact ⟨D', r, n', s, st', ba, bh_lt hw, hr8, pass_U hw hq hc hx, by rw [hm, b1, b2, b3], hG, hL, hT⟩
theorem pass_0 {h : XH} {K w c D : Nat} {r : Int32} {n : Nat → Int64} {s : Nat → Int32} (hw : w < 768) (hq : w % 2 = 0) (hc : c < 127) (hD : D ≤ 24) (hh : ¬ (((48 ≤ c ∧ c ≤ 57) ∨ c = 99) ∧ D = 24)) : xf_Run_pass K (nI c) (UX h K (nI w) (nI D) r n s) = xf_Run_pass_J20 K (nI c) (UX h K (nI w) (nI D) r n s) := by
  unfold xf_Run_pass
  rw [UX_pway, pushesMore_U hw hq hc, isFull_ok hD]
  by_cases h1 : (48 ≤ c ∧ c ≤ 57) ∨ c = 99
  · rw [if_pos h1, if_neg (by decide), if_neg (fun h2 => hh ⟨h1, h2⟩), if_pos (by decide)]
  · rw [if_neg h1, if_pos (by decide)]
theorem pass_2 {h : XH} {K w c : Nat} {r : Int32} {n : Nat → Int64} {s : Nat → Int32} (hw : w < 768) (hq : w % 2 = 0) (hc : c < 127) (hh : (48 ≤ c ∧ c ≤ 57) ∨ c = 99) : xf_Run_pass K (nI c) (UX h K (nI w) (nI 24) r n s) = some (2, UX h K (nI w) (nI 24) r n s) := by
  unfold xf_Run_pass
  rw [UX_pway, pushesMore_U hw hq hc, isFull_ok (by omega), if_pos hh, if_neg (by decide), if_pos rfl, if_neg (by decide)]
theorem reck_plain {K c : Nat} {h : XH} (hc : c < 127) (hp : plain c) (hd : ¬ (48 ≤ c ∧ c ≤ 57)) : xf_Run_reckon K (nI c) h = some h := by
  obtain ⟨h34, h42, h43, h45, h63, h64, h67, h82, h98, h99, h100, h102, h103, h105, h109, h110, h114, h115, h119, h120⟩ := hp
  have e : xf_Run_reckon_J22 K (nI c) h = some h := by
    unfold xf_Run_reckon_J22
    rw [if_neg (show ¬ nI c = (42 : Int32) from nI_neq (b := 42) h42 (by omega) (by omega)), if_neg (show ¬ nI c = (43 : Int32) from nI_neq (b := 43) h43 (by omega) (by omega)), if_neg (show ¬ nI c = (45 : Int32) from nI_neq (b := 45) h45 (by omega) (by omega)), if_neg (show ¬ nI c = (99 : Int32) from nI_neq (b := 99) h99 (by omega) (by omega)), if_neg (show ¬ nI c = (100 : Int32) from nI_neq (b := 100) h100 (by omega) (by omega)), if_neg (show ¬ nI c = (103 : Int32) from nI_neq (b := 103) h103 (by omega) (by omega)), if_neg (show ¬ nI c = (109 : Int32) from nI_neq (b := 109) h109 (by omega) (by omega)), if_neg (show ¬ nI c = (114 : Int32) from nI_neq (b := 114) h114 (by omega) (by omega)), if_neg (show ¬ nI c = (115 : Int32) from nI_neq (b := 115) h115 (by omega) (by omega)), if_neg (show ¬ nI c = (120 : Int32) from nI_neq (b := 120) h120 (by omega) (by omega))]
  unfold xf_Run_reckon
  rw [e]
  by_cases h1 : c < 48
  · rw [if_pos (show nI c < (48 : Int32) by rw [li_48, nqt (by omega) (by omega)]; exact h1)]
  · rw [if_neg (show ¬ nI c < (48 : Int32) by rw [li_48, nqt (by omega) (by omega)]; exact h1), if_pos (show (57 : Int32) < nI c by rw [li_57, nqt (by omega) (by omega)]; omega)]
theorem reck_34 {K : Nat} {h : XH} : xf_Run_reckon K (nI 34) h = some h := rfl
theorem reck_dig {K c : Nat} {h : XH} (hc : c < 127) (hd : 48 ≤ c ∧ c ≤ 57) : xf_Run_reckon K (nI c) h = (xf_Ptr_push K ((nI c - (48 : Int32)).toInt64) h).bind fun q20 => some (q20) := by
  unfold xf_Run_reckon
  rw [if_neg (show ¬ nI c < (48 : Int32) by rw [li_48, nqt (by omega) (by omega)]; omega), if_neg (show ¬ (57 : Int32) < nI c by rw [li_57, nqt (by omega) (by omega)]; omega)]
theorem pops_plain {c : Nat} (hc : c < 127) (hp : plain c) : mf_M_pops (nI c) = nI 0 ∧ (¬ (48 ≤ c ∧ c ≤ 57) → mf_M_pushes (nI c) = nI 0) ∧ ((48 ≤ c ∧ c ≤ 57) → mf_M_pushes (nI c) = nI 1) := by
  obtain ⟨h34, h42, h43, h45, h63, h64, h67, h82, h98, h99, h100, h102, h103, h105, h109, h110, h114, h115, h119, h120⟩ := hp
  refine ⟨?_, fun hd => ?_, fun hd => ?_⟩
  · unfold mf_M_pops
    rw [if_neg (show ¬ nI c = (42 : Int32) from nI_neq (b := 42) h42 (by omega) (by omega)), if_neg (show ¬ nI c = (43 : Int32) from nI_neq (b := 43) h43 (by omega) (by omega)), if_neg (show ¬ nI c = (45 : Int32) from nI_neq (b := 45) h45 (by omega) (by omega)), if_neg (show ¬ nI c = (63 : Int32) from nI_neq (b := 63) h63 (by omega) (by omega)), if_neg (show ¬ nI c = (67 : Int32) from nI_neq (b := 67) h67 (by omega) (by omega)), if_neg (show ¬ nI c = (98 : Int32) from nI_neq (b := 98) h98 (by omega) (by omega)), if_neg (show ¬ nI c = (99 : Int32) from nI_neq (b := 99) h99 (by omega) (by omega)), if_neg (show ¬ nI c = (100 : Int32) from nI_neq (b := 100) h100 (by omega) (by omega)), if_neg (show ¬ nI c = (102 : Int32) from nI_neq (b := 102) h102 (by omega) (by omega)), if_neg (show ¬ nI c = (103 : Int32) from nI_neq (b := 103) h103 (by omega) (by omega)), if_neg (show ¬ nI c = (109 : Int32) from nI_neq (b := 109) h109 (by omega) (by omega)), if_neg (show ¬ nI c = (110 : Int32) from nI_neq (b := 110) h110 (by omega) (by omega)), if_neg (show ¬ nI c = (114 : Int32) from nI_neq (b := 114) h114 (by omega) (by omega)), if_neg (show ¬ nI c = (115 : Int32) from nI_neq (b := 115) h115 (by omega) (by omega)), if_neg (show ¬ nI c = (119 : Int32) from nI_neq (b := 119) h119 (by omega) (by omega)), if_neg (show ¬ nI c = (120 : Int32) from nI_neq (b := 120) h120 (by omega) (by omega))]
    rfl
  · unfold mf_M_pushes
    rw [if_neg (show ¬ nI c = (42 : Int32) from nI_neq (b := 42) h42 (by omega) (by omega)), if_neg (show ¬ nI c = (43 : Int32) from nI_neq (b := 43) h43 (by omega) (by omega)), if_neg (show ¬ nI c = (45 : Int32) from nI_neq (b := 45) h45 (by omega) (by omega)), if_neg (show ¬ nI c = (99 : Int32) from nI_neq (b := 99) h99 (by omega) (by omega)), if_neg (show ¬ nI c = (100 : Int32) from nI_neq (b := 100) h100 (by omega) (by omega)), if_neg (show ¬ nI c = (103 : Int32) from nI_neq (b := 103) h103 (by omega) (by omega)), if_neg (show ¬ nI c = (105 : Int32) from nI_neq (b := 105) h105 (by omega) (by omega)), if_neg (show ¬ nI c = (109 : Int32) from nI_neq (b := 109) h109 (by omega) (by omega)), if_neg (show ¬ nI c = (114 : Int32) from nI_neq (b := 114) h114 (by omega) (by omega)), if_neg (show ¬ nI c = (115 : Int32) from nI_neq (b := 115) h115 (by omega) (by omega))]
    by_cases h1 : c < 48
    · rw [if_pos (show nI c < (48 : Int32) by rw [li_48, nqt (by omega) (by omega)]; exact h1)]
      rfl
    · rw [if_neg (show ¬ nI c < (48 : Int32) by rw [li_48, nqt (by omega) (by omega)]; exact h1), if_pos (show (57 : Int32) < nI c by rw [li_57, nqt (by omega) (by omega)]; omega)]
      rfl
  · unfold mf_M_pushes
    rw [if_neg (show ¬ nI c = (42 : Int32) from nI_neq (b := 42) h42 (by omega) (by omega)), if_neg (show ¬ nI c = (43 : Int32) from nI_neq (b := 43) h43 (by omega) (by omega)), if_neg (show ¬ nI c = (45 : Int32) from nI_neq (b := 45) h45 (by omega) (by omega)), if_neg (show ¬ nI c = (99 : Int32) from nI_neq (b := 99) h99 (by omega) (by omega)), if_neg (show ¬ nI c = (100 : Int32) from nI_neq (b := 100) h100 (by omega) (by omega)), if_neg (show ¬ nI c = (103 : Int32) from nI_neq (b := 103) h103 (by omega) (by omega)), if_neg (show ¬ nI c = (105 : Int32) from nI_neq (b := 105) h105 (by omega) (by omega)), if_neg (show ¬ nI c = (109 : Int32) from nI_neq (b := 109) h109 (by omega) (by omega)), if_neg (show ¬ nI c = (114 : Int32) from nI_neq (b := 114) h114 (by omega) (by omega)), if_neg (show ¬ nI c = (115 : Int32) from nI_neq (b := 115) h115 (by omega) (by omega)), if_neg (show ¬ nI c < (48 : Int32) by rw [li_48, nqt (by omega) (by omega)]; omega), if_neg (show ¬ (57 : Int32) < nI c by rw [li_57, nqt (by omega) (by omega)]; omega)]
    rfl
theorem dig_plain {c : Nat} (hd : 48 ≤ c ∧ c ≤ 57) : plain c ∧ c ≠ 35 ∧ (c ≠ 62 ∧ c ≠ 118 ∧ c ≠ 60 ∧ c ≠ 94 ∧ c ≠ 47 ∧ c ≠ 92) := by
  refine ⟨⟨by omega, by omega, by omega, by omega, by omega, by omega, by omega, by omega, by omega, by omega, by omega, by omega, by omega, by omega, by omega, by omega, by omega, by omega, by omega, by omega⟩, by omega, by omega, by omega, by omega, by omega, by omega, by omega⟩
theorem na_plain {F : Nat} {h : XH} {g : MH} {K i w D r : Nat} {n : Nat → Int64} {s : Nat → Int32} {st st0 : Nat → Int64} {ba ba0 : Nat → Int32} {c : Nat} (hi : i < 8) (hw : w < 768) (hq : w % 2 = 0) (hr8 : r ≤ 8) (hG : GL h g) (hL : LK i D n st st0) (hT : RT i r s ba ba0) (hc : c < 127) (hf : mh_field g (w / 8) = nI c) (hp : plain c) (hd : ¬ (48 ≤ c ∧ c ≤ 57)) : (xf_Run_pass K (nI c) (UX h K (nI w) (nI D) (nI r) n s) = some (2, UX h K (nI w) (nI D) (nI r) n s) ∧ mf_M_fits F (nI i) (UM g i (nI (w / 8)) (nI (w / 2 % 4)) (nI 0) (nI D) (nI r) st ba) = some (2, UM g i (nI (w / 8)) (nI (w / 2 % 4)) (nI 0) (nI D) (nI r) st ba)) ∨ (mf_M_fits F (nI i) (UM g i (nI (w / 8)) (nI (w / 2 % 4)) (nI 0) (nI D) (nI r) st ba) = some (0, UM g i (nI (w / 8)) (nI (w / 2 % 4)) (nI 0) (nI D) (nI r) st ba) ∧ OP w c h g K i st0 ba0 (xf_Run_pass K (nI c) (UX h K (nI w) (nI D) (nI r) n s)) (mf_M_act F (nI i) (UM g i (nI (w / 8)) (nI (w / 2 % 4)) (nI 0) (nI D) (nI r) st ba))) := by
  have hD := hL.1
  obtain ⟨p1, p2, -⟩ := pops_plain hc hp
  have hp' := hp
  obtain ⟨h34, -, -, -, -, -, h67, -, h98, h99, -, -, -, -, -, h110, -⟩ := hp'
  right
  refine ⟨?_, ?_⟩
  · rw [fits_U hi (by omega) hD hc hf p1 (p2 hd) (by omega) (by omega) h67 h110 h98, if_neg (by omega)]
  · rw [pass_0 hw hq hc hD (fun h1 => by rcases h1.1 with h2 | h2; exact hd h2; exact h99 h2)]
    refine na_fin hw hq hc hr8 hG hT (reck_plain hc hp hd) ?_ hL
    rw [act_plain hi (by omega) hc hf hp]
    unfold mf_M_act_J554
    rw [J576_ok hi (by omega) (by omega) hc, if_neg h34]
    by_cases h1 : c < 48
    · rw [if_pos (show nI c < (48 : Int32) by rw [li_48, nqt (by omega) (by omega)]; exact h1)]
    · rw [if_neg (show ¬ nI c < (48 : Int32) by rw [li_48, nqt (by omega) (by omega)]; exact h1), if_pos (show (57 : Int32) < nI c by rw [li_57, nqt (by omega) (by omega)]; omega)]
theorem na_dig {F : Nat} {h : XH} {g : MH} {K i w D r : Nat} {n : Nat → Int64} {s : Nat → Int32} {st st0 : Nat → Int64} {ba ba0 : Nat → Int32} {c : Nat} (hi : i < 8) (hw : w < 768) (hq : w % 2 = 0) (hr8 : r ≤ 8) (hG : GL h g) (hL : LK i D n st st0) (hT : RT i r s ba ba0) (hc : c < 127) (hf : mh_field g (w / 8) = nI c) (hd : 48 ≤ c ∧ c ≤ 57) : (xf_Run_pass K (nI c) (UX h K (nI w) (nI D) (nI r) n s) = some (2, UX h K (nI w) (nI D) (nI r) n s) ∧ mf_M_fits F (nI i) (UM g i (nI (w / 8)) (nI (w / 2 % 4)) (nI 0) (nI D) (nI r) st ba) = some (2, UM g i (nI (w / 8)) (nI (w / 2 % 4)) (nI 0) (nI D) (nI r) st ba)) ∨ (mf_M_fits F (nI i) (UM g i (nI (w / 8)) (nI (w / 2 % 4)) (nI 0) (nI D) (nI r) st ba) = some (0, UM g i (nI (w / 8)) (nI (w / 2 % 4)) (nI 0) (nI D) (nI r) st ba) ∧ OP w c h g K i st0 ba0 (xf_Run_pass K (nI c) (UX h K (nI w) (nI D) (nI r) n s)) (mf_M_act F (nI i) (UM g i (nI (w / 8)) (nI (w / 2 % 4)) (nI 0) (nI D) (nI r) st ba))) := by
  have hD := hL.1
  obtain ⟨hp, h35, htn⟩ := dig_plain hd
  obtain ⟨p1, -, p2⟩ := pops_plain hc hp
  have hft := fits_U (F := F) (di := nI (w / 2 % 4)) (re := nI r) (st := st) (ba := ba) hi (show w / 8 < 96 by omega) hD hc hf p1 (p2 hd) (by omega) (by omega) (by omega) (by omega) (by omega)
  by_cases h24 : D = 24
  · left
    subst h24
    exact ⟨pass_2 hw hq hc (Or.inl hd), by rw [hft, if_pos (by omega)]⟩
  · right
    refine ⟨by rw [hft, if_neg (by omega)], ?_⟩
    rw [pass_0 hw hq hc hD (fun h1 => h24 h1.2)]
    refine na_fin hw hq hc hr8 hG hT (by rw [reck_dig hc hd, pushX (by omega)]; rfl) ?_ (LK_push hL (by omega) ((nI c - (48 : Int32)).toInt64))
    rw [act_plain hi (by omega) hc hf hp]
    unfold mf_M_act_J554
    rw [if_neg (show ¬ nI c < (48 : Int32) by rw [li_48, nqt (by omega) (by omega)]; omega), if_neg (show ¬ (57 : Int32) < nI c by rw [li_57, nqt (by omega) (by omega)]; omega), pushM hi (by omega), Option.bind_some, J576_ok hi (by omega) (by omega) hc, if_neg (show ¬ c = 34 by omega)]
theorem na_34 {F : Nat} {h : XH} {g : MH} {K i w D r : Nat} {n : Nat → Int64} {s : Nat → Int32} {st st0 : Nat → Int64} {ba ba0 : Nat → Int32} (hi : i < 8) (hw : w < 768) (hq : w % 2 = 0) (hr8 : r ≤ 8) (hG : GL h g) (hL : LK i D n st st0) (hT : RT i r s ba ba0) (hf : mh_field g (w / 8) = nI 34) : (xf_Run_pass K (nI 34) (UX h K (nI w) (nI D) (nI r) n s) = some (2, UX h K (nI w) (nI D) (nI r) n s) ∧ mf_M_fits F (nI i) (UM g i (nI (w / 8)) (nI (w / 2 % 4)) (nI 0) (nI D) (nI r) st ba) = some (2, UM g i (nI (w / 8)) (nI (w / 2 % 4)) (nI 0) (nI D) (nI r) st ba)) ∨ (mf_M_fits F (nI i) (UM g i (nI (w / 8)) (nI (w / 2 % 4)) (nI 0) (nI D) (nI r) st ba) = some (0, UM g i (nI (w / 8)) (nI (w / 2 % 4)) (nI 0) (nI D) (nI r) st ba) ∧ OP w 34 h g K i st0 ba0 (xf_Run_pass K (nI 34) (UX h K (nI w) (nI D) (nI r) n s)) (mf_M_act F (nI i) (UM g i (nI (w / 8)) (nI (w / 2 % 4)) (nI 0) (nI D) (nI r) st ba))) := by
  have hD := hL.1
  right
  refine ⟨?_, ?_⟩
  · rw [fits_U hi (by omega) hD (by omega) hf (show mf_M_pops (nI 34) = nI 0 from rfl) (show mf_M_pushes (nI 34) = nI 0 from rfl) (by omega) (by omega) (by omega) (by omega) (by omega), if_neg (by omega)]
  · rw [pass_0 hw hq (by omega) hD (fun h1 => by omega)]
    refine na_fin hw hq (by omega) hr8 hG hT reck_34 ?_ hL
    rw [act_34 hi (by omega) hf, UM_s_quoted, show vp_nar .boolean (1 : Int32) = nI 1 from rfl, J592_ok hi (by omega) (by omega) (by omega), tn_id (by omega)]
    rfl

theorem popX2 {h : XH} {K D : Nat} {w r : Int32} {n : Nat → Int64} {s : Nat → Int32} (hD : D ≤ 24) : (xf_Ptr_pop K (UX h K w (nI D) r n s)).bind (fun q1 => xf_Ptr_pop K q1.2) = some (pv (D - 1) n, UX h K w (nI (D - 1 - 1)) r n s) := by
  rw [popX hD, Option.bind_some, popX (by omega)]
theorem reck_join {K c D : Nat} {h : XH} {w r : Int32} {n : Nat → Int64} {s : Nat → Int32} (hD : D ≤ 24) (hc : c = 42 ∨ c = 43 ∨ c = 45 ∨ c = 100 ∨ c = 109) : ∃ v, mf_M_reckon (nI c) (pv (D - 1) n) (pv D n) = some v ∧ xf_Run_reckon K (nI c) (UX h K w (nI D) r n s) = some (UX h K w (nI (D - 1 - 1 + 1)) r (va_up n (D - 1 - 1) v) s) := by
  have hj : xf_Run_reckon K (nI c) (UX h K w (nI D) r n s) = (xf_Run_join K (nI c) (UX h K w (nI D) r n s)).bind fun q1 => some (q1) := by
    rcases hc with h | h | h | h | h <;> subst h <;> rfl
  rw [hj]
  unfold xf_Run_join
  rw [popX hD, Option.bind_some, popX (by omega), Option.bind_some]
  simp only [pushX (show D - 1 - 1 < 24 by omega)]
  unfold mf_M_reckon
  by_cases h0 : lg_cmp (pv D n) 0 = 0
  · rcases hc with h | h | h | h | h <;> subst h <;> simp only [h0, if_true] <;> exact ⟨_, rfl, rfl⟩
  · have h1 : ¬ pv D n = 0 := fun h => h0 ((lg_eq _ _).mpr h)
    rcases hc with h | h | h | h | h <;> subst h <;> simp only [eq_false h0, eq_false h1, if_false] <;> exact ⟨_, rfl, rfl⟩
theorem doReckon_join {i c D : Nat} {g : MH} {pl di qu re : Int32} {st : Nat → Int64} {ba : Nat → Int32} {v : Int64} (hi : i < 8) (hD : D ≤ 24) (hc : c = 42 ∨ c = 43 ∨ c = 45 ∨ c = 100 ∨ c = 109) (hv : mf_M_reckon (nI c) (pv (D - 1) (fun j => st (24 * i + j))) (pv D (fun j => st (24 * i + j))) = some v) : mf_M_doReckon (nI i) (nI c) (UM g i pl di qu (nI D) re st ba) = some (UM g i pl di qu (nI (D - 1 - 1 + 1)) re (va_up st (24 * i + (D - 1 - 1)) v) ba) := by
  unfold mf_M_doReckon
  rw [popM hi hD, Option.bind_some, popM hi (by omega), Option.bind_some, if_neg (by rcases hc with h | h | h | h | h <;> subst h <;> decide), if_neg (by rcases hc with h | h | h | h | h <;> subst h <;> decide), hv, Option.bind_some, pushM hi (by omega), Option.bind_some]
theorem na_join {F : Nat} {h : XH} {g : MH} {K i w D r : Nat} {n : Nat → Int64} {s : Nat → Int32} {st st0 : Nat → Int64} {ba ba0 : Nat → Int32} {c : Nat} (hi : i < 8) (hw : w < 768) (hq : w % 2 = 0) (hr8 : r ≤ 8) (hG : GL h g) (hL : LK i D n st st0) (hT : RT i r s ba ba0) (hf : mh_field g (w / 8) = nI c) (hc : c = 42 ∨ c = 43 ∨ c = 45 ∨ c = 100 ∨ c = 109) : (xf_Run_pass K (nI c) (UX h K (nI w) (nI D) (nI r) n s) = some (2, UX h K (nI w) (nI D) (nI r) n s) ∧ mf_M_fits F (nI i) (UM g i (nI (w / 8)) (nI (w / 2 % 4)) (nI 0) (nI D) (nI r) st ba) = some (2, UM g i (nI (w / 8)) (nI (w / 2 % 4)) (nI 0) (nI D) (nI r) st ba)) ∨ (mf_M_fits F (nI i) (UM g i (nI (w / 8)) (nI (w / 2 % 4)) (nI 0) (nI D) (nI r) st ba) = some (0, UM g i (nI (w / 8)) (nI (w / 2 % 4)) (nI 0) (nI D) (nI r) st ba) ∧ OP w c h g K i st0 ba0 (xf_Run_pass K (nI c) (UX h K (nI w) (nI D) (nI r) n s)) (mf_M_act F (nI i) (UM g i (nI (w / 8)) (nI (w / 2 % 4)) (nI 0) (nI D) (nI r) st ba))) := by
  have hD := hL.1
  have hpp : mf_M_pops (nI c) = nI 2 ∧ mf_M_pushes (nI c) = nI 1 := by rcases hc with h | h | h | h | h <;> subst h <;> exact ⟨rfl, rfl⟩
  have hft := fits_U (F := F) (di := nI (w / 2 % 4)) (re := nI r) (st := st) (ba := ba) hi (show w / 8 < 96 by omega) hD (show c < 127 by omega) hf hpp.1 hpp.2 (by omega) (by omega) (by omega) (by omega) (by omega)
  obtain ⟨v, v1, v2⟩ := reck_join (K := K) (h := h) (w := nI w) (r := nI r) (n := n) (s := s) hD hc
  right
  refine ⟨by rw [hft, if_neg (by omega)], ?_⟩
  rw [pass_0 hw hq (by omega) hD (fun h1 => by omega)]
  refine na_fin hw hq (by omega) hr8 hG hT v2 ?_ (LK_push (LK_pop (LK_pop hL)) (by omega) v)
  have ha : mf_M_act F (nI i) (UM g i (nI (w / 8)) (nI (w / 2 % 4)) (nI 0) (nI D) (nI r) st ba) = mf_M_act_J446 F (nI i) (nI c) (UM g i (nI (w / 8)) (nI (w / 2 % 4)) (nI 0) (nI D) (nI r) st ba) := by
    rcases hc with h | h | h | h | h <;> subst h
    · exact act_42 hi (by omega) hf
    · exact act_43 hi (by omega) hf
    · exact act_45 hi (by omega) hf
    · exact act_100 hi (by omega) hf
    · exact act_109 hi (by omega) hf
  rw [ha]
  unfold mf_M_act_J446
  rw [doReckon_join (v := v) hi hD hc (by rw [LK_pv hL, LK_pv (LK_pop hL)]; exact v1), Option.bind_some, J592_ok hi (by omega) (by omega) (by omega), tn_id (by omega), if_neg (show ¬ c = 35 by omega), if_neg (show ¬ c = 34 by omega)]
theorem doOne_99 {F i D : Nat} {g : MH} {pl di qu re : Int32} {st : Nat → Int64} {ba : Nat → Int32} {v : Int64} (hi : i < 8) (hD : D < 24) (hv : pv D (fun j => st (24 * i + j)) = v) : mf_M_doOne F (nI i) (nI 99) (UM g i pl di qu (nI D) re st ba) = some (UM g i pl di qu (nI (D - 1 + 1 + 1)) re (va_up (va_up st (24 * i + (D - 1)) v) (24 * i + (D - 1 + 1)) v) ba) := by
  unfold mf_M_doOne
  rw [popM hi (by omega), Option.bind_some, hv, if_pos (show nI 99 = (99 : Int32) from rfl), pushM hi (by omega), Option.bind_some, pushM hi (by omega), Option.bind_some]
theorem na_99 {F : Nat} {h : XH} {g : MH} {K i w D r : Nat} {n : Nat → Int64} {s : Nat → Int32} {st st0 : Nat → Int64} {ba ba0 : Nat → Int32} (hi : i < 8) (hw : w < 768) (hq : w % 2 = 0) (hr8 : r ≤ 8) (hG : GL h g) (hL : LK i D n st st0) (hT : RT i r s ba ba0) (hf : mh_field g (w / 8) = nI 99) : (xf_Run_pass K (nI 99) (UX h K (nI w) (nI D) (nI r) n s) = some (2, UX h K (nI w) (nI D) (nI r) n s) ∧ mf_M_fits F (nI i) (UM g i (nI (w / 8)) (nI (w / 2 % 4)) (nI 0) (nI D) (nI r) st ba) = some (2, UM g i (nI (w / 8)) (nI (w / 2 % 4)) (nI 0) (nI D) (nI r) st ba)) ∨ (mf_M_fits F (nI i) (UM g i (nI (w / 8)) (nI (w / 2 % 4)) (nI 0) (nI D) (nI r) st ba) = some (0, UM g i (nI (w / 8)) (nI (w / 2 % 4)) (nI 0) (nI D) (nI r) st ba) ∧ OP w 99 h g K i st0 ba0 (xf_Run_pass K (nI 99) (UX h K (nI w) (nI D) (nI r) n s)) (mf_M_act F (nI i) (UM g i (nI (w / 8)) (nI (w / 2 % 4)) (nI 0) (nI D) (nI r) st ba))) := by
  have hD := hL.1
  have hft := fits_U (F := F) (di := nI (w / 2 % 4)) (re := nI r) (st := st) (ba := ba) hi (show w / 8 < 96 by omega) hD (show 99 < 127 by omega) hf (show mf_M_pops (nI 99) = nI 1 from rfl) (show mf_M_pushes (nI 99) = nI 2 from rfl) (by omega) (by omega) (by omega) (by omega) (by omega)
  by_cases h24 : D = 24
  · left
    subst h24
    exact ⟨pass_2 hw hq (by omega) (Or.inr rfl), by rw [hft, if_pos (by omega)]⟩
  · right
    refine ⟨by rw [hft, if_neg (by omega)], ?_⟩
    rw [pass_0 hw hq (by omega) hD (fun h1 => by omega)]
    refine na_fin (D' := D - 1 + 1 + 1) hw hq (by omega) hr8 hG hT ?_ ?_ (LK_push (LK_push (LK_pop hL) (by omega) (pv D n)) (by omega) (pv D n))
    · show ((xf_Ptr_pop K (UX h K (nI w) (nI D) (nI r) n s)).bind _) = _
      rw [popX hD, Option.bind_some, pushX (by omega), Option.bind_some, pushX (by omega), Option.bind_some]
    · rw [act_99 hi (by omega) hf]
      unfold mf_M_act_J455
      rw [doOne_99 hi (by omega) (LK_pv hL), Option.bind_some, J592_ok hi (by omega) (by omega) (by omega), tn_id (by omega)]
      rfl
theorem doReckon_115 {i D : Nat} {g : MH} {pl di qu re : Int32} {st : Nat → Int64} {ba : Nat → Int32} {v u : Int64} (hi : i < 8) (hD : D ≤ 24) (hv : pv D (fun j => st (24 * i + j)) = v) (hu : pv (D - 1) (fun j => st (24 * i + j)) = u) : mf_M_doReckon (nI i) (nI 115) (UM g i pl di qu (nI D) re st ba) = some (UM g i pl di qu (nI (D - 1 - 1 + 1 + 1)) re (va_up (va_up st (24 * i + (D - 1 - 1)) v) (24 * i + (D - 1 - 1 + 1)) u) ba) := by
  unfold mf_M_doReckon
  rw [popM hi hD, Option.bind_some, popM hi (by omega), Option.bind_some, hv, hu, if_neg (show ¬ nI 115 = (103 : Int32) by decide), if_pos (show nI 115 = (115 : Int32) from rfl), pushM hi (by omega), Option.bind_some, pushM hi (by omega), Option.bind_some]
theorem na_115 {F : Nat} {h : XH} {g : MH} {K i w D r : Nat} {n : Nat → Int64} {s : Nat → Int32} {st st0 : Nat → Int64} {ba ba0 : Nat → Int32} (hi : i < 8) (hw : w < 768) (hq : w % 2 = 0) (hr8 : r ≤ 8) (hG : GL h g) (hL : LK i D n st st0) (hT : RT i r s ba ba0) (hf : mh_field g (w / 8) = nI 115) : (xf_Run_pass K (nI 115) (UX h K (nI w) (nI D) (nI r) n s) = some (2, UX h K (nI w) (nI D) (nI r) n s) ∧ mf_M_fits F (nI i) (UM g i (nI (w / 8)) (nI (w / 2 % 4)) (nI 0) (nI D) (nI r) st ba) = some (2, UM g i (nI (w / 8)) (nI (w / 2 % 4)) (nI 0) (nI D) (nI r) st ba)) ∨ (mf_M_fits F (nI i) (UM g i (nI (w / 8)) (nI (w / 2 % 4)) (nI 0) (nI D) (nI r) st ba) = some (0, UM g i (nI (w / 8)) (nI (w / 2 % 4)) (nI 0) (nI D) (nI r) st ba) ∧ OP w 115 h g K i st0 ba0 (xf_Run_pass K (nI 115) (UX h K (nI w) (nI D) (nI r) n s)) (mf_M_act F (nI i) (UM g i (nI (w / 8)) (nI (w / 2 % 4)) (nI 0) (nI D) (nI r) st ba))) := by
  have hD := hL.1
  have hft := fits_U (F := F) (di := nI (w / 2 % 4)) (re := nI r) (st := st) (ba := ba) hi (show w / 8 < 96 by omega) hD (show 115 < 127 by omega) hf (show mf_M_pops (nI 115) = nI 2 from rfl) (show mf_M_pushes (nI 115) = nI 2 from rfl) (by omega) (by omega) (by omega) (by omega) (by omega)
  · right
    refine ⟨by rw [hft, if_neg (by omega)], ?_⟩
    rw [pass_0 hw hq (by omega) hD (fun h1 => by omega)]
    refine na_fin (D' := D - 1 - 1 + 1 + 1) hw hq (by omega) hr8 hG hT ?_ ?_ (LK_push (LK_push (LK_pop (LK_pop hL)) (by omega) (pv D n)) (by omega) (pv (D - 1) n))
    · show ((xf_Ptr_pop K (UX h K (nI w) (nI D) (nI r) n s)).bind _) = _
      rw [popX hD, Option.bind_some, popX (by omega), Option.bind_some, pushX (by omega), Option.bind_some, pushX (by omega), Option.bind_some]
    · rw [act_115 hi (by omega) hf]
      unfold mf_M_act_J446
      rw [doReckon_115 hi hD (LK_pv hL) (LK_pv (LK_pop hL)), Option.bind_some, J592_ok hi (by omega) (by omega) (by omega), tn_id (by omega)]
      rfl
theorem doOne_120 {F i D : Nat} {g : MH} {pl di qu re : Int32} {st : Nat → Int64} {ba : Nat → Int32} (hi : i < 8) (hD : D ≤ 24) : mf_M_doOne F (nI i) (nI 120) (UM g i pl di qu (nI D) re st ba) = some (UM g i pl di qu (nI (D - 1)) re st ba) := by
  unfold mf_M_doOne
  rw [popM hi (by omega), Option.bind_some]
  rfl
theorem na_120 {F : Nat} {h : XH} {g : MH} {K i w D r : Nat} {n : Nat → Int64} {s : Nat → Int32} {st st0 : Nat → Int64} {ba ba0 : Nat → Int32} (hi : i < 8) (hw : w < 768) (hq : w % 2 = 0) (hr8 : r ≤ 8) (hG : GL h g) (hL : LK i D n st st0) (hT : RT i r s ba ba0) (hf : mh_field g (w / 8) = nI 120) : (xf_Run_pass K (nI 120) (UX h K (nI w) (nI D) (nI r) n s) = some (2, UX h K (nI w) (nI D) (nI r) n s) ∧ mf_M_fits F (nI i) (UM g i (nI (w / 8)) (nI (w / 2 % 4)) (nI 0) (nI D) (nI r) st ba) = some (2, UM g i (nI (w / 8)) (nI (w / 2 % 4)) (nI 0) (nI D) (nI r) st ba)) ∨ (mf_M_fits F (nI i) (UM g i (nI (w / 8)) (nI (w / 2 % 4)) (nI 0) (nI D) (nI r) st ba) = some (0, UM g i (nI (w / 8)) (nI (w / 2 % 4)) (nI 0) (nI D) (nI r) st ba) ∧ OP w 120 h g K i st0 ba0 (xf_Run_pass K (nI 120) (UX h K (nI w) (nI D) (nI r) n s)) (mf_M_act F (nI i) (UM g i (nI (w / 8)) (nI (w / 2 % 4)) (nI 0) (nI D) (nI r) st ba))) := by
  have hD := hL.1
  have hft := fits_U (F := F) (di := nI (w / 2 % 4)) (re := nI r) (st := st) (ba := ba) hi (show w / 8 < 96 by omega) hD (show 120 < 127 by omega) hf (show mf_M_pops (nI 120) = nI 1 from rfl) (show mf_M_pushes (nI 120) = nI 0 from rfl) (by omega) (by omega) (by omega) (by omega) (by omega)
  · right
    refine ⟨by rw [hft, if_neg (by omega)], ?_⟩
    rw [pass_0 hw hq (by omega) hD (fun h1 => by omega)]
    refine na_fin (D' := D - 1) hw hq (by omega) hr8 hG hT ?_ ?_ (LK_pop hL)
    · show ((xf_Ptr_pop K (UX h K (nI w) (nI D) (nI r) n s)).bind _) = _
      rw [popX hD, Option.bind_some]
    · rw [act_120 hi (by omega) hf]
      unfold mf_M_act_J455
      rw [doOne_120 hi hD, Option.bind_some, J592_ok hi (by omega) (by omega) (by omega), tn_id (by omega)]
      rfl
def nth (D : Nat) (n : Nat → Int64) (v : Int64) : Int64 := if v < 0 then 0 else if v < (nI D).toInt64 then n (D - 1 - (v.toInt32).toNatClampNeg) else 0
theorem fromTop_ok {K D : Nat} {h : XH} {w r : Int32} {n : Nat → Int64} {s : Nat → Int32} (hD : D ≤ 24) (v : Int64) : xf_Ptr_fromTop K v (UX h K w (nI D) r n s) = some (nth D n v) := by
  unfold xf_Ptr_fromTop nth
  rw [UX_pdepth, UX_pnums]
  by_cases h0 : v < 0
  · rw [if_pos ((lg_lt _ _).mpr h0), if_pos h0]
  · rw [if_neg (fun h => h0 ((lg_lt _ _).mp h)), if_neg h0]
    by_cases h1 : v < (nI D).toInt64
    · obtain ⟨j, hj, e⟩ := i64_small (by omega) h0 h1
      rw [if_neg (fun h => (lg_ge _ _).mp h h1), if_pos h1, e, li_1, pk_sub (by omega), pk_sub (by omega), gd_nI (by omega) (by omega), Option.bind_some, nI_clamp (by omega)]
    · rw [if_pos ((lg_ge _ _).mpr h1), if_neg h1]
theorem nth_ok {i D : Nat} {n st st0 : Nat → Int64} (hL : LK i D n st st0) (v : Int64) : nth D (fun j => st (24 * i + j)) v = nth D n v := by
  unfold nth
  by_cases h0 : v < 0
  · rw [if_pos h0, if_pos h0]
  · rw [if_neg h0, if_neg h0]
    by_cases h1 : v < (nI D).toInt64
    · have hD := hL.1
      obtain ⟨j, hj, e⟩ := i64_small (by omega) h0 h1
      rw [if_pos h1, if_pos h1, e, nI_clamp (by omega), hL.2.1 _ (by omega)]
    · rw [if_neg h1, if_neg h1]
theorem doOne_114 {F i D : Nat} {g : MH} {pl di qu re : Int32} {st : Nat → Int64} {ba : Nat → Int32} {v u : Int64} (hi : i < 8) (hD : D ≤ 24) (hv : pv D (fun j => st (24 * i + j)) = v) (hu : nth (D - 1) (fun j => st (24 * i + j)) v = u) : mf_M_doOne F (nI i) (nI 114) (UM g i pl di qu (nI D) re st ba) = some (UM g i pl di qu (nI (D - 1 + 1)) re (va_up st (24 * i + (D - 1)) u) ba) := by
  unfold mf_M_doOne
  rw [popM hi (by omega), Option.bind_some, hv, if_neg (show ¬ nI 114 = (99 : Int32) by decide), if_pos (show nI 114 = (114 : Int32) from rfl)]
  unfold nth at hu
  by_cases h0 : v < 0
  · rw [if_pos h0] at hu
    rw [if_pos ((lg_lt _ _).mpr h0), hu, pushM hi (by omega), Option.bind_some]
  · rw [if_neg h0] at hu
    rw [if_neg (fun h => h0 ((lg_lt _ _).mp h))]
    simp only [gd_nI hi (show 8 < 2 ^ 31 by omega), Option.bind_some, UM_sizes, UM_stacks]
    by_cases h1 : v < (nI (D - 1)).toInt64
    · obtain ⟨j, hj, e⟩ := i64_small (by omega) h0 h1
      rw [if_pos h1, e, nI_clamp (by omega)] at hu
      rw [if_neg (fun h => (lg_ge _ _).mp h h1), e, li_24, li_1, pk_mul, nI_add, pk_sub (by omega), pk_sub (by omega), gd_nI (by omega) (by omega), Option.bind_some, show 24 * i + (D - 1) - 1 - j = 24 * i + (D - 1 - 1 - j) by omega, show st (24 * i + (D - 1 - 1 - j)) = u from hu, pushM hi (by omega), Option.bind_some]
    · rw [if_neg h1] at hu
      rw [if_pos ((lg_ge _ _).mpr h1), hu, pushM hi (by omega), Option.bind_some]
theorem na_114 {F : Nat} {h : XH} {g : MH} {K i w D r : Nat} {n : Nat → Int64} {s : Nat → Int32} {st st0 : Nat → Int64} {ba ba0 : Nat → Int32} (hi : i < 8) (hw : w < 768) (hq : w % 2 = 0) (hr8 : r ≤ 8) (hG : GL h g) (hL : LK i D n st st0) (hT : RT i r s ba ba0) (hf : mh_field g (w / 8) = nI 114) : (xf_Run_pass K (nI 114) (UX h K (nI w) (nI D) (nI r) n s) = some (2, UX h K (nI w) (nI D) (nI r) n s) ∧ mf_M_fits F (nI i) (UM g i (nI (w / 8)) (nI (w / 2 % 4)) (nI 0) (nI D) (nI r) st ba) = some (2, UM g i (nI (w / 8)) (nI (w / 2 % 4)) (nI 0) (nI D) (nI r) st ba)) ∨ (mf_M_fits F (nI i) (UM g i (nI (w / 8)) (nI (w / 2 % 4)) (nI 0) (nI D) (nI r) st ba) = some (0, UM g i (nI (w / 8)) (nI (w / 2 % 4)) (nI 0) (nI D) (nI r) st ba) ∧ OP w 114 h g K i st0 ba0 (xf_Run_pass K (nI 114) (UX h K (nI w) (nI D) (nI r) n s)) (mf_M_act F (nI i) (UM g i (nI (w / 8)) (nI (w / 2 % 4)) (nI 0) (nI D) (nI r) st ba))) := by
  have hD := hL.1
  have hft := fits_U (F := F) (di := nI (w / 2 % 4)) (re := nI r) (st := st) (ba := ba) hi (show w / 8 < 96 by omega) hD (show 114 < 127 by omega) hf (show mf_M_pops (nI 114) = nI 1 from rfl) (show mf_M_pushes (nI 114) = nI 1 from rfl) (by omega) (by omega) (by omega) (by omega) (by omega)
  · right
    refine ⟨by rw [hft, if_neg (by omega)], ?_⟩
    rw [pass_0 hw hq (by omega) hD (fun h1 => by omega)]
    refine na_fin (D' := D - 1 + 1) hw hq (by omega) hr8 hG hT ?_ ?_ (LK_push (LK_pop hL) (by omega) (nth (D - 1) n (pv D n)))
    · show ((xf_Ptr_pop K (UX h K (nI w) (nI D) (nI r) n s)).bind _) = _
      rw [popX hD, Option.bind_some, fromTop_ok (by omega), Option.bind_some, pushX (by omega), Option.bind_some]
    · rw [act_114 hi (by omega) hf]
      unfold mf_M_act_J455
      rw [doOne_114 hi hD (LK_pv hL) (nth_ok (LK_pop hL) _), Option.bind_some, J592_ok hi (by omega) (by omega) (by omega), tn_id (by omega)]
      rfl
theorem popPlace_ok {K D : Nat} {h : XH} {w r : Int32} {n : Nat → Int64} {s : Nat → Int32} (hD : D ≤ 24) : ∃ x y, x < 12 ∧ y < 8 ∧ xf_Run_popPlace K (UX h K w (nI D) r n s) = some (nI (12 * y + x), UX h K w (nI (D - 1 - 1)) r n s) ∧ mf_M_mod (pv D n) 8 = some (nI y) ∧ mf_M_mod (pv (D - 1) n) 12 = some (nI x) := by
  obtain ⟨x, y, hx, hy, e, e1, e2⟩ := place2 (pv (D - 1) n) (pv D n)
  refine ⟨x, y, hx, hy, ?_, e1, e2⟩
  unfold xf_Run_popPlace
  rw [popX hD, Option.bind_some, popX (by omega), Option.bind_some, e, Option.bind_some]
theorem na_103 {F : Nat} {h : XH} {g : MH} {K i w D r : Nat} {n : Nat → Int64} {s : Nat → Int32} {st st0 : Nat → Int64} {ba ba0 : Nat → Int32} (hi : i < 8) (hw : w < 768) (hq : w % 2 = 0) (hr8 : r ≤ 8) (hG : GL h g) (hL : LK i D n st st0) (hT : RT i r s ba ba0) (hf : mh_field g (w / 8) = nI 103) : (xf_Run_pass K (nI 103) (UX h K (nI w) (nI D) (nI r) n s) = some (2, UX h K (nI w) (nI D) (nI r) n s) ∧ mf_M_fits F (nI i) (UM g i (nI (w / 8)) (nI (w / 2 % 4)) (nI 0) (nI D) (nI r) st ba) = some (2, UM g i (nI (w / 8)) (nI (w / 2 % 4)) (nI 0) (nI D) (nI r) st ba)) ∨ (mf_M_fits F (nI i) (UM g i (nI (w / 8)) (nI (w / 2 % 4)) (nI 0) (nI D) (nI r) st ba) = some (0, UM g i (nI (w / 8)) (nI (w / 2 % 4)) (nI 0) (nI D) (nI r) st ba) ∧ OP w 103 h g K i st0 ba0 (xf_Run_pass K (nI 103) (UX h K (nI w) (nI D) (nI r) n s)) (mf_M_act F (nI i) (UM g i (nI (w / 8)) (nI (w / 2 % 4)) (nI 0) (nI D) (nI r) st ba))) := by
  have hD := hL.1
  have hft := fits_U (F := F) (di := nI (w / 2 % 4)) (re := nI r) (st := st) (ba := ba) hi (show w / 8 < 96 by omega) hD (show 103 < 127 by omega) hf (show mf_M_pops (nI 103) = nI 2 from rfl) (show mf_M_pushes (nI 103) = nI 1 from rfl) (by omega) (by omega) (by omega) (by omega) (by omega)
  obtain ⟨x, y, hx, hy, e, e1, e2⟩ := popPlace_ok (K := K) (h := h) (w := nI w) (r := nI r) (n := n) (s := s) hD
  have hF := hG.1 (12 * y + x) (by omega)
  right
  refine ⟨by rw [hft, if_neg (by omega)], ?_⟩
  rw [pass_0 hw hq (by omega) hD (fun h1 => by omega)]
  refine na_fin (D' := D - 1 - 1 + 1) hw hq (by omega) hr8 hG hT ?_ ?_ (LK_push (LK_pop (LK_pop hL)) (by omega) ((mh_field g (12 * y + x)).toInt64))
  · show ((xf_Run_popPlace K (UX h K (nI w) (nI D) (nI r) n s)).bind _) = _
    rw [e, Option.bind_some, gd_nI (by omega) (by omega), Option.bind_some, show xh_signs (UX h K (nI w) (nI (D - 1 - 1)) (nI r) n s) (12 * y + x) = mh_field g (12 * y + x) from hF.1, pushX (by omega), Option.bind_some]
  · rw [act_103 hi (by omega) hf]
    unfold mf_M_act_J446 mf_M_doReckon
    rw [popM hi hD, Option.bind_some, popM hi (by omega), Option.bind_some, LK_pv hL, LK_pv (LK_pop hL), if_pos (show nI 103 = (103 : Int32) from rfl), e1, Option.bind_some, e2, Option.bind_some, li_12, pk_mul, nI_add, gd_nI (by omega) (by omega), Option.bind_some, pushM hi (by omega), Option.bind_some, Option.bind_some, J592_ok hi (by omega) (by omega) (by omega), tn_id (by omega)]
    rfl
theorem na_U {F : Nat} {h : XH} {g : MH} {K i w D r : Nat} {n : Nat → Int64} {s : Nat → Int32} {st st0 : Nat → Int64} {ba ba0 : Nat → Int32} {c : Nat} (hi : i < 8) (hw : w < 768) (hq : w % 2 = 0) (hr8 : r ≤ 8) (hG : GL h g) (hL : LK i D n st st0) (hT : RT i r s ba ba0) (hc : c < 127) (hf : mh_field g (w / 8) = nI c) (hac : ¬ ac c) : (xf_Run_pass K (nI c) (UX h K (nI w) (nI D) (nI r) n s) = some (2, UX h K (nI w) (nI D) (nI r) n s) ∧ mf_M_fits F (nI i) (UM g i (nI (w / 8)) (nI (w / 2 % 4)) (nI 0) (nI D) (nI r) st ba) = some (2, UM g i (nI (w / 8)) (nI (w / 2 % 4)) (nI 0) (nI D) (nI r) st ba)) ∨ (mf_M_fits F (nI i) (UM g i (nI (w / 8)) (nI (w / 2 % 4)) (nI 0) (nI D) (nI r) st ba) = some (0, UM g i (nI (w / 8)) (nI (w / 2 % 4)) (nI 0) (nI D) (nI r) st ba) ∧ OP w c h g K i st0 ba0 (xf_Run_pass K (nI c) (UX h K (nI w) (nI D) (nI r) n s)) (mf_M_act F (nI i) (UM g i (nI (w / 8)) (nI (w / 2 % 4)) (nI 0) (nI D) (nI r) st ba))) := by
  by_cases hd : 48 ≤ c ∧ c ≤ 57
  · exact na_dig hi hw hq hr8 hG hL hT hc hf hd
  by_cases h34 : c = 34
  · subst h34; exact na_34 hi hw hq hr8 hG hL hT hf
  by_cases hj : c = 42 ∨ c = 43 ∨ c = 45 ∨ c = 100 ∨ c = 109
  · exact na_join hi hw hq hr8 hG hL hT hf hj
  by_cases h99 : c = 99
  · subst h99; exact na_99 hi hw hq hr8 hG hL hT hf
  by_cases h103 : c = 103
  · subst h103; exact na_103 hi hw hq hr8 hG hL hT hf
  by_cases h114 : c = 114
  · subst h114; exact na_114 hi hw hq hr8 hG hL hT hf
  by_cases h115 : c = 115
  · subst h115; exact na_115 hi hw hq hr8 hG hL hT hf
  by_cases h120 : c = 120
  · subst h120; exact na_120 hi hw hq hr8 hG hL hT hf
  · refine na_plain hi hw hq hr8 hG hL hT hc hf ?_ hd
    unfold ac at hac
    refine ⟨by omega, by omega, by omega, by omega, by omega, by omega, by omega, by omega, by omega, by omega, by omega, by omega, by omega, by omega, by omega, by omega, by omega, by omega, by omega, by omega⟩
theorem na_Q {F : Nat} {h : XH} {g : MH} {K i w D r : Nat} {n : Nat → Int64} {s : Nat → Int32} {st st0 : Nat → Int64} {ba ba0 : Nat → Int32} {c : Nat} (hi : i < 8) (hw : w < 768) (hq : w % 2 = 1) (hr8 : r ≤ 8) (hG : GL h g) (hL : LK i D n st st0) (hT : RT i r s ba ba0) (hc : c < 127) (hf : mh_field g (w / 8) = nI c) : (xf_Run_pass K (nI c) (UX h K (nI w) (nI D) (nI r) n s) = some (2, UX h K (nI w) (nI D) (nI r) n s) ∧ mf_M_fits F (nI i) (UM g i (nI (w / 8)) (nI (w / 2 % 4)) (nI 1) (nI D) (nI r) st ba) = some (2, UM g i (nI (w / 8)) (nI (w / 2 % 4)) (nI 1) (nI D) (nI r) st ba)) ∨ (mf_M_fits F (nI i) (UM g i (nI (w / 8)) (nI (w / 2 % 4)) (nI 1) (nI D) (nI r) st ba) = some (0, UM g i (nI (w / 8)) (nI (w / 2 % 4)) (nI 1) (nI D) (nI r) st ba) ∧ OP w c h g K i st0 ba0 (xf_Run_pass K (nI c) (UX h K (nI w) (nI D) (nI r) n s)) (mf_M_act F (nI i) (UM g i (nI (w / 8)) (nI (w / 2 % 4)) (nI 1) (nI D) (nI r) st ba))) := by
  have hD := hL.1
  have hft := fits_Q (F := F) (di := nI (w / 2 % 4)) (re := nI r) (st := st) (ba := ba) hi (show w / 8 < 96 by omega) hD hc hf
  have hmv := mm_moved (w / 8) (by omega) (w / 2 % 4) (by omega)
  obtain ⟨b1, b2, b3⟩ := bo_parts (w := w) (c := c) hq
  by_cases h34 : c = 34
  · right
    refine ⟨by rw [hft, if_neg (fun h1 => h1.1 h34)], D, r, n, s, st, ba, bh_lt hw, hr8, ?_, ?_, hG, hL, hT⟩
    · unfold xf_Run_pass xf_Run_pass_J20
      rw [UX_pway, pushesMore_Q hw hq hc, if_pos h34, if_pos rfl, wy_quo w hw, hq, if_neg (show ¬ nI 1 = (0 : Int32) by decide), if_pos (show nI c = (34 : Int32) by rw [h34]; rfl), wy_behind hw hc, UX_s_pway, Option.bind_some]
    · rw [act_Q hi (by omega) hc hf, if_pos h34]
      unfold mf_M_act_J34 mf_M_act_J50
      rw [if_pos (show nI c = (34 : Int32) by rw [h34]; rfl)]
      simp only [gd_nI hi (show 8 < 2 ^ 31 by omega), Option.bind_some, UM_place, UM_direction, UM_s_quoted, hmv, UM_s_place]
      rw [b1, b2, b3, if_pos h34]
      rfl
  · by_cases h24 : D = 24
    · left
      subst h24
      refine ⟨?_, by rw [hft, if_pos ⟨h34, rfl⟩]⟩
      unfold xf_Run_pass
      rw [UX_pway, pushesMore_Q hw hq hc, if_neg h34, if_neg (by decide), isFull_ok (by omega), if_pos rfl, if_neg (by decide)]
    · right
      refine ⟨by rw [hft, if_neg (fun h1 => h24 h1.2)], D + 1, r, _, s, _, ba, bh_lt hw, hr8, ?_, ?_, hG, LK_push hL (by omega) ((nI c).toInt64), hT⟩
      · unfold xf_Run_pass xf_Run_pass_J20
        rw [UX_pway, pushesMore_Q hw hq hc, if_neg h34, if_neg (by decide), isFull_ok (by omega), if_neg h24, if_pos rfl, wy_quo w hw, hq, if_neg (show ¬ nI 1 = (0 : Int32) by decide), if_neg (show ¬ nI c = (34 : Int32) from nI_neq (b := 34) h34 (by omega) (by omega)), pushX (by omega), Option.bind_some, UX_pway, wy_behind hw hc, UX_s_pway, Option.bind_some]
      · rw [act_Q hi (by omega) hc hf, if_neg h34, pushM hi (by omega), Option.bind_some]
        unfold mf_M_act_J34 mf_M_act_J50
        rw [if_neg (show ¬ nI c = (34 : Int32) from nI_neq (b := 34) h34 (by omega) (by omega))]
        simp only [gd_nI hi (show 8 < 2 ^ 31 by omega), Option.bind_some, UM_place, UM_direction, UM_s_quoted, hmv, UM_s_place]
        rw [b1, b2, b3, if_neg h34]
        rfl
