/-! signs done together -/
def BK (zz : Nat) (h : XH) (g : MH) : Prop := zz ≤ 1 ∨ (xh_living h = nI 1 ∧ ∃ w, w < 768 ∧ xh_pway h (xh_ptrs h 0) = nI w ∧ ∀ t, t < zz → ¬ (pth (mh_field g) w t % 2 = 0 ∧ ac (sN (mh_field g (pth (mh_field g) w t / 8)))))
theorem pick_ok {F : Nat} {h : XH} {g : MH} {R K z D i w b : Nat} (hR1 : 1 ≤ R) (hR2 : R ≤ 1000) (hz1 : 1 ≤ z) (hz2 : z ≤ 32) (hD : D ≤ 24) (hb : xh_bsize h b = nI z) (hl : mh_lengths g i = nI z) (hi : i < 30) (hpd : xh_pdepth h K = nI D) (hsz : mh_sizes g 0 = nI D) (hfind : mf_M_findBlock F (nI w) g = some (nI i)) : ∃ zz, 1 ≤ zz ∧ zz ≤ R ∧ (zz ≤ 1 ∨ zz = z) ∧ xf_Run_signsTogether_J83a F (nI R) K b h = some (nI zz, h) ∧ ∀ rec, mf_M_fast_J117 F rec (nI R) (nI w) g = mf_M_fast_L175 F rec F (nI R) (nI zz) 0 g := by
  have e0 : ∀ rec, mf_M_fast_J170 F rec (nI R) g = mf_M_fast_L175 F rec F (nI R) (nI 1) 0 g := fun rec => rfl
  have hM : ∀ rec, mf_M_fast_J117 F rec (nI R) (nI w) g = if nI R < nI z then mf_M_fast_J170 F rec (nI R) g else if (24 : Int32) ≤ nI (z + D) then mf_M_fast_J170 F rec (nI R) g else mf_M_fast_J171 F rec (nI R) (nI z) g := by
    intro rec
    unfold mf_M_fast_J117
    rw [hfind, Option.bind_some, if_neg (show ¬ nI i < (0 : Int32) by rw [li_0, nqt (by omega) (by omega)]; omega), gd_nI hi (by omega), Option.bind_some, Option.bind_some, Option.bind_some, show gd 8 (0 : Int32) = some 0 from gd_nI (show 0 < 8 by omega) (by omega), Option.bind_some, hl, hsz, nI_add]
  have hX : xf_Run_signsTogether_J83a F (nI R) K b h = if nI R < nI z then some (nI 1, h) else if nI (z + D) < (24 : Int32) then some (nI z, h) else some (nI 1, h) := by
    unfold xf_Run_signsTogether_J83a
    rw [hb, hpd, nI_add]
    rfl
  by_cases h1 : R < z
  · have h1' : nI R < nI z := by rw [nqt (by omega) (by omega)]; exact h1
    refine ⟨1, by omega, hR1, Or.inl (by omega), by rw [hX, if_pos h1'], fun rec => by rw [hM, if_pos h1', e0]⟩
  · have h1' : ¬ nI R < nI z := by rw [nqt (by omega) (by omega)]; exact h1
    by_cases h2 : z + D < 24
    · refine ⟨z, hz1, by omega, Or.inr rfl, ?_, fun rec => ?_⟩
      · rw [hX, if_neg h1', if_pos (show nI (z + D) < (24 : Int32) by rw [li_24, nqt (by omega) (by omega)]; exact h2)]
      · rw [hM, if_neg h1', if_neg (show ¬ (24 : Int32) ≤ nI (z + D) by rw [li_24, nql (by omega) (by omega)]; omega)]
        rfl
    · refine ⟨1, by omega, hR1, Or.inl (by omega), ?_, fun rec => ?_⟩
      · rw [hX, if_neg h1', if_neg (show ¬ nI (z + D) < (24 : Int32) by rw [li_24, nqt (by omega) (by omega)]; exact h2)]
      · rw [hM, if_neg h1', if_pos (show (24 : Int32) ≤ nI (z + D) by rw [li_24, nql (by omega) (by omega)]; omega), e0]
theorem run_liv {h : XH} (hs : xf_Run_state h = 0) : ¬ xh_living h ≤ 0 := by
  have h0 := run_0 hs
  unfold xf_Run_state at hs
  rw [if_pos h0] at hs
  intro h1
  rw [if_pos h1] at hs
  exact absurd hs (by decide)
theorem way_sum {w : Nat} (hw : w < 768) : (((8 : Int32) * nI (w / 8)) + ((2 : Int32) * nI (w / 2 % 4))) + nI (w % 2) = nI w := by
  rw [li_8, li_2, pk_mul, pk_mul, nI_add, nI_add]
  congr 1
  omega
def M28 (F : Nat) (rec : Int32 → MH → Option (Int32 × MH)) (R w : Int32) (g : MH) : Option (Int32 × MH) := if (mh_vpointers g) = (1 : Int32) then (mf_M_isActAt w g).bind fun q8 => if q8 = 0 then (mf_M_findBlock F w g).bind fun q9 => if 0 ≤ q9 then mf_M_fast_J117 F rec R w g else if (30 : Int32) ≤ (mh_vblocks g) then mf_M_fast_J117 F rec R w g else (mf_M_makeBlock F w g).bind fun q15 => mf_M_fast_J117 F rec R w q15 else mf_M_fast_J172 F rec R 1 g else mf_M_fast_J172 F rec R 1 g
theorem L28_eq {F m R w : Nat} {h : XH} {g : MH} (hF : 20 < F) (hR : Rel h g) (hs : xf_Run_state h = 0) (hR1 : 1 ≤ R) (hR2 : R ≤ 1000) (hw : w < 768) (a5 : mh_place g 0 = nI (w / 8)) (a6 : mh_direction g 0 = nI (w / 2 % 4)) (a7 : mh_quoted g 0 = nI (w % 2)) : mf_M_fast_L28 F (m + 1) (nI R) g = M28 F (mf_M_fast_L28 F m) (nI R) (nI w) g := by
  have g8 : gd 8 (0 : Int32) = some 0 := gd_nI (show 0 < 8 by omega) (by omega)
  rw [mf_M_fast_L28, if_neg (show ¬ nI R ≤ (0 : Int32) by rw [li_0, nql (by omega) (by omega)]; omega), state_ok hF hR, Option.bind_some, if_pos hs, g8, Option.bind_some, Option.bind_some, Option.bind_some, a5, a6, a7]
  have hws := way_sum hw
  rcases Nat.mod_two_eq_zero_or_one w with h2 | h2
  · rw [h2] at hws
    rw [h2, if_pos (show nI 0 = (0 : Int32) from rfl), ← hws]
    rfl
  · rw [h2] at hws
    rw [h2, if_neg (show ¬ nI 1 = (0 : Int32) by decide), ← hws]
    rfl
theorem Rel_make {h : XH} {g : MH} {hd vb bb be bz : Int32} {mk met cov bg bm ln : Nat → Int32} {k : Nat} {lo hi : Int64} (hR : Rel h g) (hB : RB (mh_field g) hd (xh_dropped h) (xh_row h) (va_up (xh_bbegin h) k bb) (va_up (xh_bbehind h) k be) (va_up (xh_bsize h) k bz) (va_up (xh_blow h) k lo) (va_up (xh_bhigh h) k hi) vb (mh_vdrops g) bg bm ln cov) : Rel (TX h hd mk k bb be bz lo hi) (TM g vb met cov bg bm ln) := by
  obtain ⟨hF, hT, hO, hW, hI, hS, hP, -⟩ := hR
  unfold Rel
  simp only [TX_get, TM_get]
  exact ⟨hF, hT, hO, hW, hI, hS, hP, hB⟩
theorem together_ok {F R : Nat} {h : XH} {g : MH} (hFu : 1000 < F) (hR : Rel h g) (hs : xf_Run_state h = 0) (hR1 : 1 ≤ R) (hR2 : R ≤ 1000) : ∃ zz h2 g2, 1 ≤ zz ∧ zz ≤ R ∧ xf_Run_signsTogether F (nI R) h = some (nI zz, h2) ∧ (∀ m, mf_M_fast_L28 F (m + 1) (nI R) g = mf_M_fast_L175 F (mf_M_fast_L28 F m) F (nI R) (nI zz) 0 g2) ∧ Rel h2 g2 ∧ mh_vfault g2 = mh_vfault g ∧ xf_Run_state h2 = 0 ∧ BK zz h2 g2 := by
  have hR0 := hR
  obtain ⟨hF, hT, hO, hW, hI, hS, ⟨n, n4, e1, e2, p5, p6, p7⟩, nb, hnb, hd, vb, dr, rw0, rinj, hbr, huq⟩ := hR
  have hn1 : 1 ≤ n := by
    rcases Nat.eq_zero_or_pos n with h0 | h0
    · have := run_liv hs
      rw [e1, h0] at this
      exact absurd (show nI 0 ≤ (0 : Int32) by decide) this
    · exact h0
  obtain ⟨-, w, D, r, hw, hD, hr, a4, a5, a6, a7, a8, a9, -⟩ := p7 0 (by omega)
  have hK : xh_ptrs h 0 < 4 := p5 0 (by omega)
  have hrf := hF (w / 8) (by omega)
  have hc : sN (mh_field g (w / 8)) < 127 := by have := hrf.2.2.2; omega
  have hf : mh_field g (w / 8) = nI (sN (mh_field g (w / 8))) := hrf.2.1
  have hfx : xh_signs h (w / 8) = nI (sN (mh_field g (w / 8))) := hrf.1.trans hf
  have hM : ∀ m, mf_M_fast_L28 F (m + 1) (nI R) g = M28 F (mf_M_fast_L28 F m) (nI R) (nI w) g := fun m => L28_eq (by omega) hR0 hs hR1 hR2 hw a5 a6 a7
  have hX : xf_Run_signsTogether F (nI R) h = if nI n = (1 : Int32) then if (xf_P_isAct (nI w) (nI (sN (mh_field g (w / 8))))) = 0 then (xf_Blocks_find F (nI w) h).bind fun q4 => obr q4 ((xf_Blocks_make F (nI w) h).bind fun q6 => obr q6.1 (xf_Run_signsTogether_J83 F (nI R) (xh_ptrs h 0) q6.2) (fun o8 => (gn 30 o8).bind fun k7 => xf_Run_signsTogether_J83a F (nI R) (xh_ptrs h 0) k7 q6.2)) (fun o9 => (gn 30 o9).bind fun k5 => xf_Run_signsTogether_J83a F (nI R) (xh_ptrs h 0) k5 h) else some (nI 1, h) else some (nI 1, h) := by
    unfold xf_Run_signsTogether
    rw [show gd 4 (0 : Int32) = some 0 from gd_nI (show 0 < 4 by omega) (by omega), Option.bind_some, gn_ok hK, Option.bind_some, e1, a4, wy_place w hw, gd_nI (show w / 8 < 96 by omega) (by omega), Option.bind_some, hfx]
    rfl
  by_cases hn : n = 1
  · subst hn
    by_cases ha : w % 2 = 0 ∧ ac (sN (mh_field g (w / 8)))
    · refine ⟨1, h, g, by omega, hR1, ?_, fun m => ?_, hR0, rfl, hs, Or.inl (by omega)⟩
      · rw [hX, if_pos (show nI 1 = (1 : Int32) from rfl), if_neg (fun hz => (xx_isAct hw hc).mp hz ha)]
      · rw [hM]
        unfold M28
        rw [e2, if_pos (show nI 1 = (1 : Int32) from rfl), (actAt_ok hw hc hf).2 ha, Option.bind_some, if_neg (show ¬ (1 : Int32) = 0 by decide)]
        rfl
    · have hb0 : ∀ i, i < nb → xh_bbegin h (xh_row h i) = mh_begins g i := fun i hi => by
        obtain ⟨w', z', b1, b2, b3, b4, b5, b6⟩ := hbr i hi
        rw [b4, b5]
      have hX2 : xf_Run_signsTogether F (nI R) h = (xf_Blocks_find F (nI w) h).bind fun q4 => obr q4 ((xf_Blocks_make F (nI w) h).bind fun q6 => obr q6.1 (xf_Run_signsTogether_J83 F (nI R) (xh_ptrs h 0) q6.2) (fun o8 => (gn 30 o8).bind fun k7 => xf_Run_signsTogether_J83a F (nI R) (xh_ptrs h 0) k7 q6.2)) (fun o9 => (gn 30 o9).bind fun k5 => xf_Run_signsTogether_J83a F (nI R) (xh_ptrs h 0) k5 h) := by
        rw [hX, if_pos (show nI 1 = (1 : Int32) from rfl), if_pos ((xx_isAct hw hc).mpr ha)]
      have hM2 : ∀ m, mf_M_fast_L28 F (m + 1) (nI R) g = (mf_M_findBlock F (nI w) g).bind fun q9 => if 0 ≤ q9 then mf_M_fast_J117 F (mf_M_fast_L28 F m) (nI R) (nI w) g else if (30 : Int32) ≤ (mh_vblocks g) then mf_M_fast_J117 F (mf_M_fast_L28 F m) (nI R) (nI w) g else (mf_M_makeBlock F (nI w) g).bind fun q15 => mf_M_fast_J117 F (mf_M_fast_L28 F m) (nI R) (nI w) q15 := by
        intro m
        rw [hM]
        unfold M28
        rw [e2, if_pos (show nI 1 = (1 : Int32) from rfl), (actAt_ok hw hc hf).1 ha, Option.bind_some, if_pos rfl]
      rcases find_okF (F := F) (by omega) hnb hd vb rw0 hb0 huq (nI w) with ⟨f1, f2, f3⟩ | ⟨i, f0, f1, f2, f3⟩
      · by_cases h30 : nb = 30
        · refine ⟨1, h, g, by omega, hR1, ?_, fun m => ?_, hR0, rfl, hs, Or.inl (by omega)⟩
          · have e5 : xf_Blocks_make F (nI w) h = some (none, h) := by
              unfold xf_Blocks_make
              rw [hd, h30, if_pos (show nI 30 = (30 : Int32) from rfl)]
            rw [hX2, f1, Option.bind_some, e5]
            rfl
          · rw [hM2, f2, Option.bind_some, if_neg (show ¬ (0 : Int32) ≤ -1 by decide), vb, h30, if_pos (show (30 : Int32) ≤ nI 30 by decide)]
            unfold mf_M_fast_J117
            rw [f2, Option.bind_some, if_pos (show (-1 : Int32) < 0 by decide)]
            rfl
        · have hnb' : nb < 30 := by omega
          obtain ⟨z, mk, lo, hi, met, cov, z1, z2, z3, z4, z5⟩ := make_ok (F := F) (by omega) hF hd vb hnb' (rw0 nb hnb') hw ha
          have hB := RB_make hnb' hw z1 z2 dr rw0 rinj hbr huq f3 z5
          have hR3 := Rel_make (mk := mk) (met := met) hR0 hB
          have hR4 := hR3
          generalize hh3 : TX h (nI (nb + 1)) mk (xh_row h nb) (nI w) (nI (pth (mh_field g) w z)) (nI z) lo hi = h3 at *
          generalize hg3 : TM g (nI (nb + 1)) met cov (va_up (mh_begins g) nb (nI w)) (va_up (mh_behind g) nb (nI (pth (mh_field g) w z))) (va_up (mh_lengths g) nb (nI z)) = g3 at *
          have c1 : xh_bsize h3 (xh_row h nb) = nI z := by rw [← hh3]; exact up_eq
          have c2 : mh_lengths g3 nb = nI z := by rw [← hg3]; exact up_eq
          have c3 : xh_pdepth h3 (xh_ptrs h 0) = nI D := by rw [← hh3]; exact a8
          have c4 : mh_sizes g3 0 = nI D := by rw [← hg3]; exact a9
          have c5 : mh_begins g3 nb = nI w := by rw [← hg3]; exact up_eq
          have c6 : mh_field g3 = mh_field g := by rw [← hg3]; rfl
          have c7 : xh_living h3 = nI 1 := by rw [← hh3]; exact e1
          have c8 : xh_ptrs h3 = xh_ptrs h := by rw [← hh3]; rfl
          have c9 : xh_pway h3 (xh_ptrs h 0) = nI w := by rw [← hh3]; exact a4
          have c10 : xf_Run_state h3 = xf_Run_state h := by rw [← hh3]; rfl
          have c11 : mh_vfault g3 = mh_vfault g := by rw [← hg3]; rfl
          have c12 : xh_held h3 = nI (nb + 1) := by rw [← hh3]; rfl
          have c13 : mh_vblocks g3 = nI (nb + 1) := by rw [← hg3]; rfl
          obtain ⟨-, -, -, -, -, -, -, nb3, k1, k2, k3, k4, k5, k6, k7, k8⟩ := hR4
          have hb3 : ∀ i, i < nb3 → xh_bbegin h3 (xh_row h3 i) = mh_begins g3 i := fun i hi => by
            obtain ⟨w', z', b1, b2, b3, b4, b5, b6⟩ := k7 i hi
            rw [b4, b5]
          have hnb3 : nb3 = nb + 1 := by
            rw [c12] at k2
            have := (nI_eq (by omega) (by omega)).mp k2
            omega
          have ff : mf_M_findBlock F (nI w) g3 = some (nI nb) := by
            rcases find_okF (F := F) (by omega) k1 k2 k3 k5 hb3 k8 (nI w) with ⟨f1, f2, f3⟩ | ⟨i, f0, f1, f2, f3⟩
            · exact absurd c5 (f3 nb (by omega))
            · rw [f3, k8 i nb f0 (by omega) (f1.trans c5.symm)]
          obtain ⟨zz, y1, y2, y3, y4, y5⟩ := pick_ok (F := F) hR1 hR2 z1 z2 hD c1 c2 hnb' c3 c4 ff
          refine ⟨zz, h3, g3, y1, y2, ?_, fun m => ?_, hR3, c11, c10.trans hs, ?_⟩
          · rw [hX2, f1, Option.bind_some]
            show (xf_Blocks_make F (nI w) h).bind _ = _
            rw [z3, Option.bind_some]
            show (gn 30 (xh_row h nb)).bind _ = _
            rw [gn_ok (rw0 nb hnb'), Option.bind_some, y4]
          · rw [hM2, f2, Option.bind_some, if_neg (show ¬ (0 : Int32) ≤ -1 by decide), vb, if_neg (show ¬ (30 : Int32) ≤ nI nb by rw [li_30, nql (by omega) (by omega)]; omega), z4, Option.bind_some, y5]
          · rcases y3 with y3 | y3
            · exact Or.inl y3
            · right
              refine ⟨c7, w, hw, by rw [c8]; exact c9, fun t ht => ?_⟩
              rw [c6]
              exact (z5.2.2.2 t (by omega)).1
      · obtain ⟨w', z, b1, b2, b3, b4, b5, b6, b7, b8, b9, b10, b11⟩ := hbr i f0
        have hww : w' = w := (nI_eq (by omega) (by omega)).mp (b5.symm.trans f1)
        subst hww
        obtain ⟨zz, y1, y2, y3, y4, y5⟩ := pick_ok (F := F) hR1 hR2 b2 b3 hD b6 b7 (show i < 30 by omega) a8 a9 f3
        refine ⟨zz, h, g, y1, y2, ?_, fun m => ?_, hR0, rfl, hs, ?_⟩
        · rw [hX2, f2, Option.bind_some]
          show (gn 30 (xh_row h i)).bind _ = _
          rw [gn_ok (rw0 i (by omega)), Option.bind_some, y4]
        · rw [hM2, f3, Option.bind_some, if_pos (show (0 : Int32) ≤ nI i by rw [li_0, nql (by omega) (by omega)]; omega), y5]
        · rcases y3 with y3 | y3
          · exact Or.inl y3
          · right
            exact ⟨e1, w', hw, a4, fun t ht => (b11 t (by omega)).1⟩
  · refine ⟨1, h, g, by omega, hR1, ?_, fun m => ?_, hR0, rfl, hs, Or.inl (by omega)⟩
    · rw [hX, if_neg (show ¬ nI n = (1 : Int32) from nI_neq (b := 1) hn (by omega) (by omega))]
    · rw [hM]
      unfold M28
      rw [e2, if_neg (show ¬ nI n = (1 : Int32) from nI_neq (b := 1) hn (by omega) (by omega))]
      rfl
