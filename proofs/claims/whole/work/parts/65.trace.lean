/-! a block is traced -/
def TI (Fd : Nat → Int32) (cov0 : Nat → Int32) (n w t : Nat) (mk : Nat → Int32) (lo hi : Int64) (met cov : Nat → Int32) : Prop :=
  MK mk met ∧ (∀ p, p < 96 → cov (96 * n + p) = if obit lo hi p then 1 else 0) ∧ (∀ y, y < 96 * n ∨ 96 * n + 96 ≤ y → cov y = cov0 y) ∧ ∀ s, s < t → ¬ (pth Fd w s % 2 = 0 ∧ ac (sN (Fd (pth Fd w s / 8)))) ∧ obit lo hi (pth Fd w s / 8) = true
theorem actAt_ok {g : MH} {v c : Nat} (hv : v < 768) (hc : c < 127) (hf : mh_field g (v / 8) = nI c) : (¬ (v % 2 = 0 ∧ ac c) → mf_M_isActAt (nI v) g = some 0) ∧ ((v % 2 = 0 ∧ ac c) → mf_M_isActAt (nI v) g = some 1) := by
  have e1 : nI v - nI v / (2 : Int32) * (2 : Int32) = nI (v % 2) := (by decide +kernel : ∀ v, v < 768 → nI v - nI v / (2 : Int32) * (2 : Int32) = nI (v % 2)) v hv
  have e2 : nI v / (8 : Int32) = nI (v / 8) := (by decide +kernel : ∀ v, v < 768 → nI v / (8 : Int32) = nI (v / 8)) v hv
  unfold mf_M_isActAt
  rw [e1, e2]
  rcases Nat.mod_two_eq_zero_or_one v with h | h
  · rw [h, if_pos (show nI 0 = (0 : Int32) from rfl), gd_nI (show v / 8 < 96 by omega) (by omega), Option.bind_some, hf]
    refine ⟨fun ha => ?_, fun ha => ?_⟩
    · rw [if_pos ((mm_isAct hc).1.mpr (fun hz => ha ⟨rfl, hz⟩))]
    · rw [if_neg (fun hz => (mm_isAct hc).1.mp hz ha.2)]
  · rw [h, if_neg (show ¬ nI 1 = (0 : Int32) by decide)]
    exact ⟨fun _ => rfl, fun ha => absurd ha.1 (by decide)⟩
theorem cov_up {lo hi lo' hi' : Int64} {cov cov0 : Nat → Int32} {n p : Nat} (hp : p < 96) (h1 : ∀ q, q < 96 → obit lo' hi' q = (obit lo hi q || decide (p = q))) (hc : ∀ q, q < 96 → cov (96 * n + q) = if obit lo hi q then 1 else 0) (ho : ∀ y, y < 96 * n ∨ 96 * n + 96 ≤ y → cov y = cov0 y) : (∀ q, q < 96 → va_up cov (96 * n + p) 1 (96 * n + q) = if obit lo' hi' q then 1 else 0) ∧ (∀ y, y < 96 * n ∨ 96 * n + 96 ≤ y → va_up cov (96 * n + p) 1 y = cov0 y) := by
  refine ⟨fun q hq => ?_, fun y hy => ?_⟩
  · rw [h1 q hq]
    by_cases h2 : p = q
    · rw [h2, up_eq]
      simp
    · rw [up_ne (by omega), hc q hq, show decide (p = q) = false from decide_eq_false h2, Bool.or_false]
  · rw [up_ne (by omega), ho y hy]
theorem trace_L {F : Nat} {h : XH} {g : MH} {hd bb vb : Int32} {k n w : Nat} {cov0 bg : Nat → Int32} (hn : n < 30) (hw : w < 768) (hRF : RF (xh_signs h) (mh_field g)) (be0 bz0 : Int32) (be ln : Nat → Int32) : ∀ (r t : Nat), t + r = 32 → ∀ mk lo hi met cov, TI (mh_field g) cov0 n w t mk lo hi met cov → ∀ m m', r < m → r < m' → ∃ z mk' lo' hi' met' cov', t ≤ z ∧ z ≤ 32 ∧ xf_Block_trace_L21 F m k (nI (pth (mh_field g) w t)) (nI t) (TX h hd mk k bb be0 bz0 lo hi) = some (TX h hd mk' k bb (nI (pth (mh_field g) w z)) (nI z) lo' hi') ∧ mf_M_makeBlock_L75 F m' (nI n) (nI t) (nI (pth (mh_field g) w t)) (TM g vb met cov bg be ln) = some (TM g vb met' cov' bg (va_up be n (nI (pth (mh_field g) w z))) (va_up ln n (nI z))) ∧ TI (mh_field g) cov0 n w z mk' lo' hi' met' cov' ∧ (z = t → t = 32 ∨ (pth (mh_field g) w t % 2 = 0 ∧ ac (sN (mh_field g (pth (mh_field g) w t / 8)))) ∨ met (pth (mh_field g) w t) ≠ 0) := by
  intro r
  have endX : ∀ t mk lo hi u, (some (xs_bsize (TX h hd mk k bb be0 bz0 lo hi) k (nI t))).bind (fun g4 => (some (xs_bbehind g4 k u)).bind fun g5 => some g5) = some (TX h hd mk k bb u (nI t) lo hi) := by
    intro t mk lo hi u
    rw [Option.bind_some, TX_s_bsize, TX_s_bbehind, Option.bind_some]
  have endM : ∀ t met cov u, mf_M_makeBlock_J138 F (nI n) (nI t) u (TM g vb met cov bg be ln) = some (TM g vb met cov bg (va_up be n u) (va_up ln n (nI t))) := by
    intro t met cov u
    unfold mf_M_makeBlock_J138
    rw [gd_nI hn (by omega), Option.bind_some, Option.bind_some, Option.bind_some, Option.bind_some, TM_s_lengths, TM_s_behind]
  induction r with
  | zero =>
    intro t ht mk lo hi met cov hI m m' h1 h2
    obtain ⟨m, rfl⟩ : ∃ q, m = q + 1 := ⟨m - 1, by omega⟩
    obtain ⟨m', rfl⟩ : ∃ q, m' = q + 1 := ⟨m' - 1, by omega⟩
    refine ⟨t, mk, lo, hi, met, cov, Nat.le_refl _, by omega, ?_, ?_, hI, fun _ => Or.inl (by omega)⟩
    · rw [xf_Block_trace_L21, if_pos (show (32 : Int32) ≤ nI t by rw [li_32, nql (by omega) (by omega)]; omega), endX]
    · rw [mf_M_makeBlock_L75, if_pos (show (32 : Int32) ≤ nI t by rw [li_32, nql (by omega) (by omega)]; omega), endM]
  | succ r ih =>
    intro t ht mk lo hi met cov hI m m' h1 h2
    obtain ⟨m, rfl⟩ : ∃ q, m = q + 1 := ⟨m - 1, by omega⟩
    obtain ⟨m', rfl⟩ : ∃ q, m' = q + 1 := ⟨m' - 1, by omega⟩
    have hu : pth (mh_field g) w t < 768 := pth_lt hw
    have eS : pth (mh_field g) w (t + 1) = bh (pth (mh_field g) w t) (sN (mh_field g (pth (mh_field g) w t / 8))) := rfl
    obtain ⟨i1, i2, i3, i4⟩ := hI
    generalize hpu : pth (mh_field g) w t = u at *
    have hr := hRF (u / 8) (by omega)
    have hc : sN (mh_field g (u / 8)) < 127 := by have := hr.2.2.2; omega
    have hf : mh_field g (u / 8) = nI (sN (mh_field g (u / 8))) := hr.2.1
    have hfx : xh_signs h (u / 8) = nI (sN (mh_field g (u / 8))) := hr.1.trans hf
    generalize hcc : sN (mh_field g (u / 8)) = c at *
    have gp : gd 96 (xf_Way_place (nI u)) = some (u / 8) := by rw [wy_place u hu, gd_nI (by omega) (by omega)]
    have hmk : xh_bmarks (TX h hd mk k bb be0 bz0 lo hi) = mk := rfl
    have hsg : xh_signs (TX h hd mk k bb be0 bz0 lo hi) (u / 8) = nI c := by simp only [TX_get]; exact hfx
    have hfm : mh_field (TM g vb met cov bg be ln) (u / 8) = nI c := by simp only [TM_get]; exact hf
    have hmt : mh_met (TM g vb met cov bg be ln) = met := rfl
    have hA := actAt_ok (g := TM g vb met cov bg be ln) hu hc hfm
    rw [xf_Block_trace_L21, if_neg (show ¬ (32 : Int32) ≤ nI t by rw [li_32, nql (by omega) (by omega)]; omega), mf_M_makeBlock_L75, if_neg (show ¬ (32 : Int32) ≤ nI t by rw [li_32, nql (by omega) (by omega)]; omega), gp, Option.bind_some, hmk]
    by_cases ha : u % 2 = 0 ∧ ac c
    · refine ⟨t, mk, lo, hi, met, cov, Nat.le_refl _, by omega, ?_, ?_, ⟨i1, i2, i3, i4⟩, fun _ => Or.inr (Or.inl ha)⟩
      · rw [hpu]
        by_cases hm : met u = 0
        · rw [if_pos ((MK_is i1 hu).mpr hm), Option.bind_some, hsg, if_neg (fun hz => (xx_isAct hu hc).mp hz ha), endX]
        · rw [if_neg (fun hz => hm ((MK_is i1 hu).mp hz)), endX]
      · rw [hpu, hA.2 ha, Option.bind_some, if_neg (show ¬ (1 : Int32) = 0 by decide), endM]
    · by_cases hm : met u = 0
      · obtain ⟨lo', hi', e1, e2⟩ := addPlace_ok (k := k) (p := u / 8) (h := TX h hd (va_up mk (u / 8) (mk (u / 8) ||| ((1 : Int32) <<< ((nI u &&& (7 : Int32)) &&& 31)))) k bb be0 bz0 lo hi) (by omega)
        have e3 : xh_blow (TX h hd (va_up mk (u / 8) (mk (u / 8) ||| ((1 : Int32) <<< ((nI u &&& (7 : Int32)) &&& 31)))) k bb be0 bz0 lo hi) k = lo := up_eq
        have e4 : xh_bhigh (TX h hd (va_up mk (u / 8) (mk (u / 8) ||| ((1 : Int32) <<< ((nI u &&& (7 : Int32)) &&& 31)))) k bb be0 bz0 lo hi) k = hi := up_eq
        rw [e3, e4] at e2
        rw [TX_s_blow, TX_s_bhigh] at e1
        obtain ⟨c1, c2⟩ := cov_up (show u / 8 < 96 by omega) e2 i2 i3
        have hI' : TI (mh_field g) cov0 n w (t + 1) (va_up mk (u / 8) (mk (u / 8) ||| ((1 : Int32) <<< ((nI u &&& (7 : Int32)) &&& 31)))) lo' hi' (va_up met u 1) (va_up cov (96 * n + u / 8) 1) := by
          refine ⟨MK_up i1 hu, c1, c2, fun s hs => ?_⟩
          by_cases h9 : s = t
          · rw [h9, hpu, hcc]
            refine ⟨ha, ?_⟩
            rw [e2 _ (by omega)]
            simp
          · refine ⟨(i4 s (by omega)).1, ?_⟩
            rw [e2 _ (by have : pth (mh_field g) w s < 768 := pth_lt hw; omega), (i4 s (by omega)).2, Bool.true_or]
        obtain ⟨z, mk', lo'', hi'', met', cov', z1, z2, z3, z4, z5, z6⟩ := ih (t + 1) (by omega) _ _ _ _ _ hI' m m' (by omega) (by omega)
        rw [eS] at z3 z4
        refine ⟨z, mk', lo'', hi'', met', cov', by omega, z2, ?_, ?_, z5, fun hz => by omega⟩
        · have hsg2 : xh_signs (TX h hd (va_up mk (u / 8) (mk (u / 8) ||| ((1 : Int32) <<< ((nI u &&& (7 : Int32)) &&& 31)))) k bb be0 bz0 lo' hi') (u / 8) = nI c := by simp only [TX_get]; exact hfx
          rw [if_pos ((MK_is i1 hu).mpr hm), Option.bind_some, hsg, if_pos ((xx_isAct hu hc).mpr ha), Option.bind_some, Option.bind_some, TX_s_bmarks, Option.bind_some, Option.bind_some, wy_place u hu, e1, hsg2, wy_behind hu hc, nI_1]
          exact z3
        · have e8 : nI u / (8 : Int32) = nI (u / 8) := (by decide +kernel : ∀ v, v < 768 → nI v / (8 : Int32) = nI (v / 8)) u hu
          have hf2 : mh_field (TM g vb (va_up met u 1) (va_up cov (96 * n + u / 8) 1) bg be ln) (u / 8) = nI c := by simp only [TM_get]; exact hf
          rw [hA.1 ha, Option.bind_some, if_pos rfl, gd_nI (show u < 768 by omega) (by omega), Option.bind_some, hmt, if_pos hm, Option.bind_some, show vp_nar .boolean (1 : Int32) = 1 from rfl, TM_s_met, Option.bind_some, e8, li_96, pk_mul, nI_add, gd_nI (show 96 * n + u / 8 < 2880 by omega) (by omega), Option.bind_some, TM_s_covered, Option.bind_some, mm_after hu hc hf2, Option.bind_some, nI_1]
          exact z4
      · refine ⟨t, mk, lo, hi, met, cov, Nat.le_refl _, by omega, ?_, ?_, ⟨i1, i2, i3, i4⟩, fun _ => Or.inr (Or.inr hm)⟩
        · rw [hpu, if_neg (fun hz => hm ((MK_is i1 hu).mp hz)), endX]
        · rw [hpu, hA.1 ha, Option.bind_some, if_pos rfl, gd_nI (show u < 768 by omega) (by omega), Option.bind_some, hmt, if_neg hm, endM]
