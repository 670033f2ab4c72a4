/-! the fast way -/
theorem pth_shift {F : Nat → Int32} {w : Nat} : ∀ t, pth F w (t + 1) = pth F (bh w (sN (F (w / 8)))) t
  | 0 => rfl
  | t + 1 => by
    show bh (pth F w (t + 1)) (sN (F (pth F w (t + 1) / 8))) = bh (pth F _ t) (sN (F (pth F _ t / 8)))
    rw [pth_shift t]
theorem pth_ext {F G : Nat → Int32} {w : Nat} (hw : w < 768) (h : ∀ p, p < 96 → G p = F p) : ∀ t, pth G w t = pth F w t
  | 0 => rfl
  | t + 1 => by
    show bh (pth G w t) (sN (G (pth G w t / 8))) = bh (pth F w t) (sN (F (pth F w t / 8)))
    have h1 : pth F w t < 768 := pth_lt hw
    rw [pth_ext hw h t, h _ (by omega)]
theorem adv_pass {F w : Nat} {h h' : XH} {g : MH} (hFu : 96 < F) (hR : Rel h g) (hs : xf_Run_state h = 0) (hl : xh_living h = nI 1) (hw : w < 768) (hpw : xh_pway h (xh_ptrs h 0) = nI w) (hna : ¬ (w % 2 = 0 ∧ ac (sN (mh_field g (w / 8))))) (he : xf_Run_advance F h = some h') : xh_stopped h' ≠ 0 ∨ (xh_living h' = nI 1 ∧ xf_Run_state h' = 0 ∧ xh_signs h' = xh_signs h ∧ xh_pway h' (xh_ptrs h' 0) = nI (bh w (sN (mh_field g (w / 8))))) := by
  have h0 := run_0 hs
  obtain ⟨hF, hT, hO, hW, hI, hS, ⟨n, n4, e1, e2, p5, p6, p7⟩, hB⟩ := hR
  have hn : n = 1 := (nI_eq (by omega) (by omega)).mp (e1.symm.trans hl)
  subst hn
  have hG : GL h g := ⟨hF, hT, hO, hW, hI, hB⟩
  obtain ⟨w', D, r, hw', hr, hpw', eH, eG, hL, hT'⟩ := PX_data (show PX h g (xh_ptrs h 0) 0 from (p7 0 (by omega)).2)
  have hww : w' = w := (nI_eq (by omega) (by omega)).mp (hpw'.symm.trans hpw)
  subst hww
  have hrf := hF (w' / 8) (by omega)
  have hc : sN (mh_field g (w' / 8)) < 127 := by have := hrf.2.2.2; omega
  have hf : mh_field g (w' / 8) = nI (sN (mh_field g (w' / 8))) := hrf.2.1
  have hfx : xh_signs h (w' / 8) = nI (sN (mh_field g (w' / 8))) := hrf.1.trans hf
  generalize hcc : sN (mh_field g (w' / 8)) = c at hc hf hfx hna ⊢
  obtain ⟨f, rfl⟩ : ∃ q, F = q + 1 := ⟨F - 1, by omega⟩
  unfold xf_Run_advance at he
  rw [e1] at he
  have he : xf_Run_advance_L9 (f + 1) (f + 1) (nI 1) (nI 0) (nI 0) h = some h' := he
  rw [L9_eq (show 0 < 1 by omega) (by omega) (show 0 < 4 by omega) (p5 0 (by omega)) hw' hpw' hfx, if_pos ((xx_isAct hw' hc).mpr hna)] at he
  rcases sign_pass (F := f + 1) (L := 1) (V := 1) (show 0 < 8 by omega) hG hw' hr eH eG hL hT' hc hf hna with ⟨h1, -⟩ | ⟨-, D2, r2, n2, s2, st2, ba2, b1, b2, b3, -⟩
  · left
    rw [h1, Option.bind_some] at he
    unfold xf_Run_advance_J72 at he
    rw [if_neg (show ¬ (2 : Int32) = 0 by decide), if_neg (show ¬ (2 : Int32) = 1 by decide), Option.bind_some] at he
    rw [← Option.some.inj he]
    show (2 : Int32) ≠ 0
    decide
  · right
    rw [b3, Option.bind_some] at he
    unfold xf_Run_advance_J72 xf_Run_advance_J106 at he
    rw [if_pos rfl, nI_1] at he
    obtain ⟨f, rfl⟩ : ∃ q, f = q + 1 := ⟨f - 1, by omega⟩
    rw [xf_Run_advance_L9, if_pos (show nI 1 ≤ nI (0 + 1) by decide), Option.bind_some] at he
    rw [← Option.some.inj he]
    generalize hU : UX h (xh_ptrs h 0) (nI (bh w' c)) (nI D2) (nI r2) n2 s2 = U at *
    have u1 : xh_living U = nI 1 := by rw [← hU]; exact e1
    have u2 : xh_stopped U = 0 := by rw [← hU]; exact h0
    have u3 : xh_signs U = xh_signs h := by rw [← hU]; rfl
    have u4 : xh_ptrs U = xh_ptrs h := by rw [← hU]; rfl
    have u5 : xh_pway U (xh_ptrs h 0) = nI (bh w' c) := by rw [← hU]; exact up_eq
    refine ⟨u1, ?_, u3, ?_⟩
    · show (if xh_stopped U = 0 then if xh_living U ≤ 0 then (1 : Int32) else 0 else xh_stopped U) = 0
      rw [u2, if_pos rfl, u1, if_neg (by decide)]
    · show xh_pway U (xh_ptrs U 0) = _
      rw [u4]
      exact u5
theorem BK_next {F z : Nat} {h h' : XH} {g g' : MH} (hFu : 96 < F) (hR : Rel h g) (hs : xf_Run_state h = 0) (hB : BK (z + 1) h g) (he : xf_Run_advance F h = some h') (hR' : Rel h' g') : xh_stopped h' ≠ 0 ∨ z = 0 ∨ (xf_Run_state h' = 0 ∧ BK z h' g') := by
  rcases hB with hB | ⟨hl, w, hw, hpw, ht⟩
  · right; left; omega
  · rcases adv_pass hFu hR hs hl hw hpw (ht 0 (by omega)) he with h1 | ⟨h1, h2, h3, h4⟩
    · exact Or.inl h1
    · right; right
      refine ⟨h2, Or.inr ⟨h1, _, bh_lt hw, h4, fun t hz => ?_⟩⟩
      have hF : ∀ p, p < 96 → mh_field g' p = mh_field g p := fun p hp => by
        rw [← (hR'.1 p hp).1, h3]
        exact (hR.1 p hp).1
      have hb : bh w (sN (mh_field g (w / 8))) < 768 := bh_lt hw
      have hlt : pth (mh_field g) (bh w (sN (mh_field g (w / 8)))) t < 768 := pth_lt hb
      rw [pth_ext hb hF t, hF _ (by omega), ← pth_shift]
      exact ht (t + 1) (by omega)
theorem st_eq {h : XH} (h0 : xh_stopped h ≠ 0) : xf_Run_state h ≠ 0 := fun h1 => h0 (run_0 h1)
theorem inner_ok {F N : Nat} (hFu : 1000 < F) (hN : N ≤ 1000) : ∀ (z j x : Nat) (h : XH) (g : MH), Rel h g → mh_vfault g = 0 → x + z ≤ N → j + z ≤ 1000 → (xh_stopped h ≠ 0 ∨ z = 0 ∨ (xf_Run_state h = 0 ∧ BK z h g)) → ∀ (m m' R : Nat) (rec : Int32 → MH → Option (Int32 × MH)), z < m' → ∃ h' g', Rel h' g' ∧ mh_vfault g' = 0 ∧ mf_M_fast_L175 F rec m' (nI R) (nI (j + z)) (nI j) g = rec (nI R - nI (j + z)) g' ∧ (xf_P_fast_L8 F (m + z + 1) (nI N) (nI z) (nI x) h = xf_P_fast_L8 F (m + 1) (nI N) (nI 0) (nI (x + z)) h' ∨ (xf_Run_state h' ≠ 0 ∧ xf_P_fast_L8 F (m + z + 1) (nI N) (nI z) (nI x) h = some (xf_Run_state h', h'))) := by
  intro z
  induction z with
  | zero =>
    intro j x h g hR hf h1 h2 h3 m m' R rec hm
    obtain ⟨m', rfl⟩ : ∃ q, m' = q + 1 := ⟨m' - 1, by omega⟩
    refine ⟨h, g, hR, hf, ?_, Or.inl rfl⟩
    rw [mf_M_fast_L175, if_pos (show nI (j + 0) ≤ nI j by rw [nql (by omega) (by omega)]; omega)]
    rfl
  | succ z ih =>
    intro j x h g hR hf h1 h2 h3 m m' R rec hm
    obtain ⟨m', rfl⟩ : ∃ q, m' = q + 1 := ⟨m' - 1, by omega⟩
    have hnj : ¬ nI (j + (z + 1)) ≤ nI j := by rw [nql (by omega) (by omega)]; omega
    have hnx : ¬ nI N ≤ nI x := by rw [nql (by omega) (by omega)]; omega
    have hst : xh_stopped h = mh_vstopped g := hR.2.2.2.2.2.1.1
    have e8 : xf_P_fast_L8 F (m + (z + 1) + 1) (nI N) (nI (z + 1)) (nI x) h = if (xf_Run_state h) = 0 then xf_P_fast_J38 F (xf_P_fast_L8 F (m + (z + 1))) (nI N) (nI (z + 1)) (nI x) h else some (xf_Run_state h, h) := by
      rw [xf_P_fast_L8, if_neg hnx]
      by_cases h9 : xf_Run_state h = 0
      · rw [if_pos h9, if_pos h9, if_neg (show ¬ nI (z + 1) = (0 : Int32) from nI_neq (b := 0) (by omega) (by omega) (by omega))]
      · rw [if_neg h9, if_neg h9]
    by_cases h9 : xh_stopped h = 0
    · have hs : xf_Run_state h = 0 ∧ BK (z + 1) h g := by
        rcases h3 with h3 | h3 | h3
        · exact absurd h9 h3
        · omega
        · exact h3
      obtain ⟨h4, g4, a1, a2, a3, a4⟩ := stepAll_ok (F := F) (by omega) hR hf h9
      obtain ⟨h5, g5, b1, b2, b3, b4⟩ := ih (j + 1) (x + 1) h4 g4 a3 a4 (by omega) (by omega) (BK_next (by omega) hR hs.1 hs.2 a1 a3) m m' R rec (by omega)
      rw [show j + 1 + z = j + (z + 1) by omega] at b3
      rw [show x + 1 + z = x + (z + 1) by omega] at b4
      have e9 : xf_P_fast_L8 F (m + (z + 1) + 1) (nI N) (nI (z + 1)) (nI x) h = xf_P_fast_L8 F (m + z + 1) (nI N) (nI z) (nI (x + 1)) h4 := by
        rw [e8, if_pos hs.1]
        unfold xf_P_fast_J38
        rw [a1, Option.bind_some, nI_m1, nI_1]
        rfl
      refine ⟨h5, g5, b1, b2, ?_, ?_⟩
      · rw [mf_M_fast_L175, if_neg hnj, if_pos (hst.symm.trans h9), a2, Option.bind_some, nI_1]
        exact b3
      · rw [e9]
        exact b4
    · refine ⟨h, g, hR, hf, ?_, Or.inr ⟨st_eq h9, ?_⟩⟩
      · rw [mf_M_fast_L175, if_neg hnj, if_neg (fun h8 => h9 (hst.trans h8))]
        rfl
      · rw [e8, if_neg (st_eq h9)]
theorem outer_ok {F N : Nat} (hFu : 1000 < F) (hN : N ≤ 1000) : ∀ (B R : Nat), R ≤ B → ∀ (x : Nat) (h : XH) (g : MH), x + R = N → Rel h g → mh_vfault g = 0 → ∀ m m', R < m → R < m' → ∃ s h' g', xf_P_fast_L8 F m (nI N) (nI 0) (nI x) h = some (s, h') ∧ mf_M_fast_L28 F m' (nI R) g = some (s, g') ∧ Rel h' g' ∧ mh_vfault g' = 0 := by
  intro B
  induction B with
  | zero =>
    intro R hB x h g hx hR hf m m' h1 h2
    obtain ⟨m, rfl⟩ : ∃ q, m = q + 1 := ⟨m - 1, by omega⟩
    obtain ⟨m', rfl⟩ : ∃ q, m' = q + 1 := ⟨m' - 1, by omega⟩
    refine ⟨xf_Run_state h, h, g, ?_, ?_, hR, hf⟩
    · rw [xf_P_fast_L8, if_pos (by rw [nql (by omega) (by omega)]; omega)]
    · rw [mf_M_fast_L28, if_pos (show nI R ≤ (0 : Int32) by rw [li_0, nql (by omega) (by omega)]; omega), state_ok (by omega) hR, Option.bind_some]
  | succ B ih =>
    intro R hB x h g hx hR hf m m' h1 h2
    by_cases hR0 : R = 0
    · exact ih R (by omega) x h g hx hR hf m m' h1 h2
    obtain ⟨m, rfl⟩ : ∃ q, m = q + 1 := ⟨m - 1, by omega⟩
    obtain ⟨m', rfl⟩ : ∃ q, m' = q + 1 := ⟨m' - 1, by omega⟩
    have hnx : ¬ nI N ≤ nI x := by rw [nql (by omega) (by omega)]; omega
    by_cases hs : xf_Run_state h = 0
    · obtain ⟨zz, h3, g3, c1, c2, c3, c4, c5, c6, c7, c8⟩ := together_ok hFu hR hs (show 1 ≤ R by omega) (by omega)
      have eX : xf_P_fast_L8 F (m + 1) (nI N) (nI 0) (nI x) h = xf_P_fast_L8 F (m + 1) (nI N) (nI zz) (nI x) h3 := by
        rw [xf_P_fast_L8, if_neg hnx, if_pos hs, if_pos (show nI 0 = (0 : Int32) from rfl), pk_sub (by omega), show N - x = R by omega, c3, Option.bind_some, xf_P_fast_L8, if_neg hnx, if_pos c7, if_neg (show ¬ nI zz = (0 : Int32) from nI_neq (b := 0) (by omega) (by omega) (by omega))]
      obtain ⟨h4, g4, d1, d2, d3, d4⟩ := inner_ok hFu hN zz 0 x h3 g3 c5 (c6.trans hf) (by omega) (by omega) (Or.inr (Or.inr ⟨c7, c8⟩)) (m - zz) F R (mf_M_fast_L28 F m') (by omega)
      rw [Nat.zero_add, pk_sub (by omega)] at d3
      rw [show m - zz + zz + 1 = m + 1 by omega] at d4
      have d3 : mf_M_fast_L175 F (mf_M_fast_L28 F m') F (nI R) (nI zz) 0 g3 = mf_M_fast_L28 F m' (nI (R - zz)) g4 := d3
      rw [eX, c4, d3]
      rcases d4 with d4 | ⟨d4, d5⟩
      · rw [d4]
        exact ih (R - zz) (by omega) (x + zz) h4 g4 (by omega) d1 d2 (m - zz + 1) m' (by omega) (by omega)
      · refine ⟨xf_Run_state h4, h4, g4, d5, ?_, d1, d2⟩
        obtain ⟨m', rfl⟩ : ∃ q, m' = q + 1 := ⟨m' - 1, by omega⟩
        rw [mf_M_fast_L28, state_ok (by omega) d1]
        by_cases h9 : nI (R - zz) ≤ 0
        · rw [if_pos h9, Option.bind_some]
        · rw [if_neg h9, Option.bind_some, if_neg d4, Option.bind_some]
    · refine ⟨xf_Run_state h, h, g, ?_, ?_, hR, hf⟩
      · rw [xf_P_fast_L8, if_neg hnx, if_neg hs]
      · rw [mf_M_fast_L28, if_neg (show ¬ nI R ≤ (0 : Int32) by rw [li_0, nql (by omega) (by omega)]; omega), state_ok (by omega) hR, Option.bind_some, if_neg hs, Option.bind_some]
theorem ok_fast : OK_fast Rel := by
  intro h g hR v0
  rcases steps_in (v := v0) with ⟨e1, e2⟩ | ⟨N, rfl, n1, n2, e1⟩
  · refine ⟨0, 0, (0, ms_vfault g 1), ?_, Or.inr ⟨?_, rfl, Rel_fault hR 1⟩⟩
    · unfold mf_M_fast mf_M_fast_J13
      have e3 : mf_M_fast_J18 0 v0 1 g = some (0, ms_vfault g 1) := rfl
      rw [e3]
      by_cases h1 : v0 < 1
      · rw [if_pos h1]
      · rw [if_neg h1, if_neg (e2.resolve_left h1)]
    · unfold xf_P_fast
      rw [e1]
      rfl
  · have key : ∀ F, 1100 < F → ∃ r : Int32 × MH, mf_M_fast F (nI N) g = some r ∧ ∃ q : Int32 × XH, xf_P_fast F (nI N) h = some (Sum.inr q) ∧ mh_vfault (r.2) = 0 ∧ q.1 = r.1 ∧ Rel (q.2) (r.2) := by
      intro F hF
      obtain ⟨s, h', g', a1, a2, a3, a4⟩ := outer_ok (F := F) (by omega) n2 N N (Nat.le_refl _) 0 h (ms_vfault g 0) (by omega) (Rel_fault hR 0) rfl F F (by omega) (by omega)
      refine ⟨(s, g'), ?_, (s, h'), ?_, a4, rfl, a3⟩
      · unfold mf_M_fast
        rw [if_neg (show ¬ nI N < 1 by rw [li_1, nqt (by omega) (by omega)]; omega), if_pos (show nI N ≤ 1000 by rw [li_1000, nql (by omega) (by omega)]; omega), ← a2]
        rfl
      · unfold xf_P_fast
        rw [e1]
        show (xf_P_fast_L8 F F (nI N) (nI 0) (nI 0) h).map Sum.inr = _
        rw [a1]
        rfl
    obtain ⟨r, k1, k2⟩ := key 2000 (by omega)
    exact ⟨2000, 2000, r, k1, Or.inl k2⟩
