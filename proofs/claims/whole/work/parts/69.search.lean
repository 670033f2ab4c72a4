/-! the ways that may be come to: the class's search -/
def SX (h : XH) (sz : Int32) (mk fd : Nat → Int32) : XH := (xh_held h, xh_dropped h, xh_row h, xh_bmarks h, xh_signs h, xh_living h, xh_given h, xh_read h, xh_steps h, xh_stopped h, xh_ptrs h, xh_innums h, xh_digits h, sz, mk, fd, xh_lsize h, xh_lchars h, xh_pway h, xh_pdepth h, xh_pret h, xh_pnums h, xh_prets h, xh_bbegin h, xh_bbehind h, xh_bsize h, xh_blow h, xh_bhigh h)
theorem SX_get (h : XH) (sz : Int32) (mk fd : Nat → Int32) : xh_held (SX h sz mk fd) = xh_held h ∧ xh_dropped (SX h sz mk fd) = xh_dropped h ∧ xh_row (SX h sz mk fd) = xh_row h ∧ xh_bmarks (SX h sz mk fd) = xh_bmarks h ∧ xh_signs (SX h sz mk fd) = xh_signs h ∧ xh_living (SX h sz mk fd) = xh_living h ∧ xh_given (SX h sz mk fd) = xh_given h ∧ xh_read (SX h sz mk fd) = xh_read h ∧ xh_steps (SX h sz mk fd) = xh_steps h ∧ xh_stopped (SX h sz mk fd) = xh_stopped h ∧ xh_ptrs (SX h sz mk fd) = xh_ptrs h ∧ xh_innums (SX h sz mk fd) = xh_innums h ∧ xh_digits (SX h sz mk fd) = xh_digits h ∧ xh_ssize (SX h sz mk fd) = sz ∧ xh_smarks (SX h sz mk fd) = mk ∧ xh_sfound (SX h sz mk fd) = fd ∧ xh_lsize (SX h sz mk fd) = xh_lsize h ∧ xh_lchars (SX h sz mk fd) = xh_lchars h ∧ xh_pway (SX h sz mk fd) = xh_pway h ∧ xh_pdepth (SX h sz mk fd) = xh_pdepth h ∧ xh_pret (SX h sz mk fd) = xh_pret h ∧ xh_pnums (SX h sz mk fd) = xh_pnums h ∧ xh_prets (SX h sz mk fd) = xh_prets h ∧ xh_bbegin (SX h sz mk fd) = xh_bbegin h ∧ xh_bbehind (SX h sz mk fd) = xh_bbehind h ∧ xh_bsize (SX h sz mk fd) = xh_bsize h ∧ xh_blow (SX h sz mk fd) = xh_blow h ∧ xh_bhigh (SX h sz mk fd) = xh_bhigh h := ⟨rfl, rfl, rfl, rfl, rfl, rfl, rfl, rfl, rfl, rfl, rfl, rfl, rfl, rfl, rfl, rfl, rfl, rfl, rfl, rfl, rfl, rfl, rfl, rfl, rfl, rfl, rfl, rfl⟩
theorem SX_id (h : XH) : SX h (xh_ssize h) (xh_smarks h) (xh_sfound h) = h := rfl
theorem SX_s_ssize {h : XH} {sz : Int32} {mk fd : Nat → Int32} {v : Int32} : xs_ssize (SX h sz mk fd) v = SX h v mk fd := rfl
theorem SX_s_smarks {h : XH} {sz : Int32} {mk fd : Nat → Int32} {j : Nat} {v : Int32} : xs_smarks (SX h sz mk fd) j v = SX h sz (va_up mk j v) fd := rfl
theorem SX_s_sfound {h : XH} {sz : Int32} {mk fd : Nat → Int32} {j : Nat} {v : Int32} : xs_sfound (SX h sz mk fd) j v = SX h sz mk (va_up fd j v) := rfl
def lf (w : Nat) : Nat := 8 * mv (w / 8) ((w / 2 % 4 + 3) % 4) + 2 * ((w / 2 % 4 + 3) % 4)
def rt (w : Nat) : Nat := 8 * mv (w / 8) ((w / 2 % 4 + 1) % 4) + 2 * ((w / 2 % 4 + 1) % 4)
theorem lf_lt {w : Nat} (hw : w < 768) : lf w < 768 := by
  have := mv_lt (w / 8) (by omega) ((w / 2 % 4 + 3) % 4) (by omega)
  unfold lf
  omega
theorem rt_lt {w : Nat} (hw : w < 768) : rt w < 768 := by
  have := mv_lt (w / 8) (by omega) ((w / 2 % 4 + 1) % 4) (by omega)
  unfold rt
  omega
def sl (w c : Nat) : List Nat := if w % 2 = 0 ∧ (c = 82 ∨ c = 64) then [] else if w % 2 = 0 ∧ c = 63 then [lf w, rt w, bh w c] else if w % 2 = 0 ∧ c = 102 then [lf w, bh w c] else [bh w c]
theorem sl_lt {w c u : Nat} (hw : w < 768) (hu : u ∈ sl w c) : u < 768 := by
  have h1 := lf_lt hw
  have h2 := rt_lt hw
  have h3 := bh_lt (c := c) hw
  unfold sl at hu
  split at hu
  · exact absurd hu List.not_mem_nil
  · split at hu
    · simp only [List.mem_cons, List.not_mem_nil, or_false] at hu
      rcases hu with h | h | h <;> rw [h] <;> assumption
    · split at hu
      · simp only [List.mem_cons, List.not_mem_nil, or_false] at hu
        rcases hu with h | h <;> rw [h] <;> assumption
      · simp only [List.mem_cons, List.not_mem_nil, or_false] at hu
        rw [hu]; assumption
def RC (Fd : Nat → Int32) (u : Nat) : Prop := ∀ P : Nat → Prop, P 0 → (∀ w v, w < 768 → P w → v ∈ sl w (sN (Fd (w / 8))) → P v) → P u
theorem RC_0 {Fd : Nat → Int32} : RC Fd 0 := fun _ h _ => h
theorem RC_s {Fd : Nat → Int32} {w v : Nat} (hw : w < 768) (h : RC Fd w) (hv : v ∈ sl w (sN (Fd (w / 8)))) : RC Fd v := fun P h0 hs => hs w v hw (h P h0 hs) hv
theorem RC_in {Fd : Nat → Int32} {met : Nat → Int32} (h0 : met 0 ≠ 0) (hc : ∀ w v, w < 768 → met w ≠ 0 → v ∈ sl w (sN (Fd (w / 8))) → met v ≠ 0) {v : Nat} (hv : RC Fd v) : met v ≠ 0 :=
  (hv (fun u => u < 768 ∧ met u ≠ 0) ⟨by omega, h0⟩ (fun w u hw hP hu => ⟨sl_lt hw hu, hc w u hw hP.2 hu⟩)).2
def rA : List Nat → XH → Option XH
  | [], h => some h
  | u :: l, h => (xf_Search_reach (nI u) h).bind fun q => rA l q
theorem follow_ok {w c : Nat} {h : XH} (hw : w < 768) (hc : c < 127) : xf_Search_follow (nI w) (nI c) h = rA (sl w c) h := by
  have eb : ∀ h, ((xf_Search_reach (nI (bh w c)) h).bind fun q => some q) = xf_Search_reach (nI (bh w c)) h := fun h => by cases xf_Search_reach (nI (bh w c)) h <;> rfl
  have q82 : (nI c = (82 : Int32)) = (c = 82) := nqe (b := 82) (by omega) (by omega)
  have q64 : (nI c = (64 : Int32)) = (c = 64) := nqe (b := 64) (by omega) (by omega)
  have q63 : (nI c = (63 : Int32)) = (c = 63) := nqe (b := 63) (by omega) (by omega)
  have q102 : (nI c = (102 : Int32)) = (c = 102) := nqe (b := 102) (by omega) (by omega)
  unfold xf_Search_follow xf_Search_follow_J23 xf_Search_follow_J39 xf_Search_follow_J51
  rw [wy_behind hw hc]
  by_cases ha : w % 2 = 0 ∧ ac c
  · have ha' : ¬ xf_P_isAct (nI w) (nI c) = 0 := fun hz => (xx_isAct hw hc).mp hz ha
    have ew : 8 * (w / 8) + 2 * (w / 2 % 4) = w := by omega
    have el : xf_Way_ahead (xf_Way_turned (nI w) 3) = nI (lf w) := by
      conv => lhs; rw [← ew]
      rw [leftE (by omega) (by omega), aheadE (by omega) (by omega)]
      rfl
    have er : xf_Way_ahead (xf_Way_turned (nI w) 1) = nI (rt w) := by
      conv => lhs; rw [← ew]
      rw [rightE (by omega) (by omega), aheadE (by omega) (by omega)]
      rfl
    simp only [if_neg ha', el, er, q82, q64, q63, q102]
    by_cases h1 : c = 82
    · rw [if_pos h1]
      unfold sl
      rw [if_pos ⟨ha.1, Or.inl h1⟩]
      rfl
    · rw [if_neg h1]
      by_cases h2 : c = 64
      · rw [if_pos h2]
        unfold sl
        rw [if_pos ⟨ha.1, Or.inr h2⟩]
        rfl
      · rw [if_neg h2]
        unfold sl
        rw [if_neg (show ¬ (w % 2 = 0 ∧ (c = 82 ∨ c = 64)) from fun h => h.2.elim h1 h2)]
        by_cases h3 : c = 63
        · simp only [if_pos h3, if_pos (show w % 2 = 0 ∧ c = 63 from ⟨ha.1, h3⟩)]
          rfl
        · simp only [if_neg h3, if_neg (show ¬ (w % 2 = 0 ∧ c = 63) from fun h => h3 h.2)]
          by_cases h4 : c = 102
          · simp only [if_pos h4, if_pos (show w % 2 = 0 ∧ c = 102 from ⟨ha.1, h4⟩)]
            rfl
          · simp only [if_neg h4, if_neg (show ¬ (w % 2 = 0 ∧ c = 102) from fun h => h4 h.2)]
            rfl
  · have ha' : xf_P_isAct (nI w) (nI c) = 0 := (xx_isAct hw hc).mpr ha
    simp only [if_pos ha']
    unfold sl
    have n1 : ∀ x, ac x → ¬ (w % 2 = 0 ∧ c = x) := fun x hx h => ha ⟨h.1, h.2 ▸ hx⟩
    rw [if_neg (fun h => h.2.elim (fun h2 => n1 82 (by unfold ac; simp) ⟨h.1, h2⟩) (fun h2 => n1 64 (by unfold ac; simp) ⟨h.1, h2⟩)), if_neg (n1 63 (by unfold ac; simp)), if_neg (n1 102 (by unfold ac; simp))]
    rfl
theorem cnt_lt_of {met : Nat → Int32} {u : Nat} : ∀ {x : Nat}, u < x → met u = 0 → cnt met x < x
  | 0, h, _ => by omega
  | x + 1, h, h0 => by
    rw [cnt_s]
    by_cases h1 : u = x
    · have := cnt_le met x
      rw [← h1, h0, if_pos rfl]
      rw [← h1] at this
      omega
    · have := cnt_lt_of (met := met) (x := x) (show u < x by omega) h0
      split <;> omega
theorem cnt_up {met : Nat → Int32} {u : Nat} (h0 : met u = 0) : ∀ {x : Nat}, u < x → cnt (va_up met u 1) x = cnt met x + 1
  | 0, h => by omega
  | x + 1, h => by
    rw [cnt_s, cnt_s]
    by_cases h1 : u = x
    · rw [h1, up_eq, if_neg (by decide), ← h1, h0, if_pos rfl, cnt_ext (fun y hy => up_ne (by omega))]
    · rw [up_ne (fun h => h1 h.symm), cnt_up h0 (show u < x by omega)]
      omega
def Mz (mk : Nat → Int32) : Prop := ∀ p, p < 96 → ∀ j, 8 ≤ j → j < 32 → mbit (mk p) j = false
def CI (Fd : Nat → Int32) (x : Nat) (met mk fd : Nat → Int32) (s : Nat) : Prop :=
  MK mk met ∧ Mz mk ∧ s = cnt met 768 ∧ (∀ j, j < s → ∃ v, v < 768 ∧ fd j = nI v ∧ RC Fd v) ∧ (∀ v, v < 768 → met v ≠ 0 → RC Fd v ∧ ∃ j, j < s ∧ fd j = nI v) ∧ ∀ j, j < x → ∀ v, v < 768 → fd j = nI v → ∀ u, u ∈ sl v (sN (Fd (v / 8))) → met u ≠ 0
def CX (h : XH) (Fd : Nat → Int32) (x : Nat) (met fd : Nat → Int32) (s : Nat) (us : List Nat) (r : Option XH) : Prop :=
  ∃ (met' mk' fd' : Nat → Int32) (s' : Nat), r = some (SX h (nI s') mk' fd') ∧ CI Fd x met' mk' fd' s' ∧ s ≤ s' ∧ (∀ j, j < s → fd' j = fd j) ∧ (∀ v, met v ≠ 0 → met' v ≠ 0) ∧ ∀ u, u ∈ us → met' u ≠ 0
theorem reach_ok {h : XH} {Fd met mk fd : Nat → Int32} {x s u : Nat} (hI : CI Fd x met mk fd s) (hx : x ≤ s) (hu : u < 768) (hr : RC Fd u) : CX h Fd x met fd s [u] (xf_Search_reach (nI u) (SX h (nI s) mk fd)) := by
  obtain ⟨i1, i2, i3, i4, i5, i6⟩ := hI
  have hs : s ≤ 768 := by rw [i3]; exact cnt_le _ _
  have gp : gd 96 (xf_Way_place (nI u)) = some (u / 8) := by rw [wy_place u hu, gd_nI (by omega) (by omega)]
  have hmk : xh_smarks (SX h (nI s) mk fd) = mk := rfl
  have hsz : xh_ssize (SX h (nI s) mk fd) = nI s := rfl
  unfold xf_Search_reach
  rw [gp, Option.bind_some, hmk, hsz]
  by_cases h0 : met u = 0
  · have hs2 : s < 768 := by rw [i3]; exact cnt_lt_of hu h0
    rw [if_pos ((MK_is i1 hu).mpr h0), if_neg (show ¬ (768 : Int32) ≤ nI s by rw [li_768, nql (by omega) (by omega)]; omega), Option.bind_some, Option.bind_some, SX_s_smarks, Option.bind_some]
    refine ⟨va_up met u 1, _, va_up fd s (nI u), s + 1, ?_, ⟨MK_up i1 hu, fun p hp j hj1 hj2 => ?_, ?_, fun j hj => ?_, fun v hv hm => ?_, fun j hj v hv he w hw => ?_⟩, by omega, fun j hj => up_ne (by omega), fun v hv => ?_, fun v hv => ?_⟩
    · show (gd 768 (nI s)).bind _ = _
      rw [gd_nI hs2 (by omega), Option.bind_some, SX_s_sfound, Option.bind_some]
      show (some (xs_ssize _ (nI s + 1))).bind _ = _
      rw [SX_s_ssize, Option.bind_some, nI_1]
    · by_cases h1 : p = u / 8
      · rw [h1, up_eq, msk u hu, mor (by omega) hj2, i2 _ (by omega) j hj1 hj2, show decide (u % 8 = j) = false from decide_eq_false (by omega)]
        rfl
      · rw [up_ne h1]
        exact i2 p hp j hj1 hj2
    · rw [cnt_up h0 hu, i3]
    · by_cases h1 : j = s
      · rw [h1, up_eq]
        exact ⟨u, hu, rfl, hr⟩
      · rw [up_ne h1]
        exact i4 j (by omega)
    · by_cases h1 : v = u
      · rw [h1]
        exact ⟨hr, s, by omega, up_eq⟩
      · rw [up_ne h1] at hm
        obtain ⟨a1, j, a2, a3⟩ := i5 v hv hm
        exact ⟨a1, j, by omega, by rw [up_ne (by omega)]; exact a3⟩
    · rw [up_ne (by omega)] at he
      have := i6 j hj v hv he w hw
      by_cases h1 : w = u
      · rw [h1, up_eq]; decide
      · rw [up_ne h1]; exact this
    · by_cases h1 : v = u
      · rw [h1, up_eq]; decide
      · rw [up_ne h1]; exact hv
    · rw [List.mem_singleton.mp hv, up_eq]; decide
  · rw [if_neg (fun hz => h0 ((MK_is i1 hu).mp hz))]
    exact ⟨met, mk, fd, s, rfl, ⟨i1, i2, i3, i4, i5, i6⟩, Nat.le_refl _, fun _ _ => rfl, fun _ hv => hv, fun v hv => by rw [List.mem_singleton.mp hv]; exact h0⟩
theorem rA_ok {h : XH} {Fd : Nat → Int32} {x : Nat} : ∀ (l : List Nat) (met mk fd : Nat → Int32) (s : Nat), (∀ u, u ∈ l → u < 768 ∧ RC Fd u) → CI Fd x met mk fd s → x ≤ s → CX h Fd x met fd s l (rA l (SX h (nI s) mk fd))
  | [], met, kk, fd, s, _, hI, _ => ⟨met, kk, fd, s, rfl, hI, Nat.le_refl _, fun _ _ => rfl, fun _ hv => hv, fun _ hv => absurd hv List.not_mem_nil⟩
  | u :: l, met, kk, fd, s, hl, hI, hx => by
    obtain ⟨m1, k1, f1, s1, e1, c1, d1, d2, d3, d4⟩ := reach_ok (h := h) hI hx (hl u List.mem_cons_self).1 (hl u List.mem_cons_self).2
    obtain ⟨m2, k2, f2, s2, e2, c2, d5, d6, d7, d8⟩ := rA_ok (h := h) l m1 k1 f1 s1 (fun v hv => hl v (List.mem_cons_of_mem _ hv)) c1 (by omega)
    refine ⟨m2, k2, f2, s2, ?_, c2, by omega, fun j hj => by rw [d6 j (by omega), d2 j hj], fun v hv => d7 v (d3 v hv), fun v hv => ?_⟩
    · unfold rA
      rw [e1, Option.bind_some, e2]
    · rcases List.mem_cons.mp hv with h1 | h1
      · rw [h1]; exact d7 u (d4 u (List.mem_singleton.mpr rfl))
      · exact d8 v h1
theorem L38_ok {F : Nat} {h : XH} {Fd : Nat → Int32} (hF : ∀ p, p < 96 → xh_signs h p = Fd p ∧ SG (Fd p)) : ∀ (r x : Nat), x + r = 768 → ∀ (met mk fd : Nat → Int32) (s : Nat), CI Fd x met mk fd s → x ≤ s → ∀ m, r < m → ∃ (met' mk' fd' : Nat → Int32) (s' : Nat), xf_Search_explore_L38 F m (nI x) (SX h (nI s) mk fd) = some (SX h (nI s') mk' fd') ∧ CI Fd s' met' mk' fd' s' ∧ ∀ v, met v ≠ 0 → met' v ≠ 0 := by
  intro r
  induction r with
  | zero =>
    intro x hx met mk fd s hI hs m hm
    obtain ⟨m, rfl⟩ : ∃ q, m = q + 1 := ⟨m - 1, by omega⟩
    have hs2 : s ≤ 768 := by rw [hI.2.2.1]; exact cnt_le _ _
    refine ⟨met, mk, fd, s, ?_, by rw [show s = x by omega]; rw [show s = x by omega] at hI; exact hI, fun _ hv => hv⟩
    rw [xf_Search_explore_L38, if_pos (show (768 : Int32) ≤ nI x by rw [li_768, nql (by omega) (by omega)]; omega)]
  | succ r ih =>
    intro x hx met mk fd s hI hs m hm
    obtain ⟨m, rfl⟩ : ∃ q, m = q + 1 := ⟨m - 1, by omega⟩
    have hs2 : s ≤ 768 := by rw [hI.2.2.1]; exact cnt_le _ _
    have hsz : xh_ssize (SX h (nI s) mk fd) = nI s := rfl
    have hfd : xh_sfound (SX h (nI s) mk fd) = fd := rfl
    have hsg : xh_signs (SX h (nI s) mk fd) = xh_signs h := rfl
    rw [xf_Search_explore_L38, if_neg (show ¬ (768 : Int32) ≤ nI x by rw [li_768, nql (by omega) (by omega)]; omega), hsz]
    by_cases h1 : s ≤ x
    · rw [if_pos (show nI s ≤ nI x by rw [nql (by omega) (by omega)]; exact h1)]
      have e : s = x := by omega
      exact ⟨met, mk, fd, s, rfl, by rw [e]; rw [e] at hI; exact hI, fun _ hv => hv⟩
    · obtain ⟨v, hv, e1, hR⟩ := hI.2.2.2.1 x (by omega)
      obtain ⟨f1, f2⟩ := hF (v / 8) (by omega)
      have hc : sN (Fd (v / 8)) < 127 := by have := f2.2.2; omega
      rw [if_neg (show ¬ nI s ≤ nI x by rw [nql (by omega) (by omega)]; exact h1), gd_nI (show x < 768 by omega) (by omega), Option.bind_some, Option.bind_some, hfd, e1, wy_place v hv, gd_nI (show v / 8 < 96 by omega) (by omega), Option.bind_some, hsg, f1, f2.1, follow_ok hv hc, nI_1]
      obtain ⟨m1, k1, g1, s1, e2, c1, d1, d2, d3, d4⟩ := rA_ok (h := h) (sl v (sN (Fd (v / 8)))) met mk fd s (fun u hu => ⟨sl_lt hv hu, RC_s hv hR hu⟩) hI hs
      rw [e2, Option.bind_some]
      have hI' : CI Fd (x + 1) m1 k1 g1 s1 := by
        obtain ⟨c1, c2, c3, c4, c5, c6⟩ := c1
        refine ⟨c1, c2, c3, c4, c5, fun j hj v' hv' he u hu => ?_⟩
        by_cases h2 : j = x
        · rw [h2, d2 x (by omega), e1] at he
          have : v = v' := (nI_eq (by omega) (by omega)).mp he
          rw [← this] at hu
          exact d4 u hu
        · exact c6 j (by omega) v' hv' he u hu
      obtain ⟨m2, k2, g2, s2, e3, c3, d5⟩ := ih (x + 1) (by omega) m1 k1 g1 s1 hI' (by omega) m (by omega)
      exact ⟨m2, k2, g2, s2, e3, c3, fun u hu => d5 u (d3 u hu)⟩
theorem exL_ok {F : Nat} {h : XH} : ∀ (r x : Nat), x + r = 96 → ∀ mk0 : Nat → Int32, (∀ p, p < x → mk0 p = 0) → ∀ m, r < m → ∃ mk : Nat → Int32, (∀ p, p < 96 → mk p = 0) ∧ xf_Search_explore_L2 F m (nI x) (SX h (xh_ssize h) mk0 (xh_sfound h)) = (xf_Search_reach (nI 0) (SX h (nI 0) mk (xh_sfound h))).bind fun q2 => xf_Search_explore_L38 F F (nI 0) q2 := by
  intro r
  induction r with
  | zero =>
    intro x hx mk0 h0 m hm
    obtain ⟨m, rfl⟩ : ∃ q, m = q + 1 := ⟨m - 1, by omega⟩
    refine ⟨mk0, fun p hp => h0 p (by omega), ?_⟩
    rw [xf_Search_explore_L2, if_pos (show (96 : Int32) ≤ nI x by rw [li_96, nql (by omega) (by omega)]; omega), SX_s_ssize, Option.bind_some]
    rfl
  | succ r ih =>
    intro x hx mk0 h0 m hm
    obtain ⟨m, rfl⟩ : ∃ q, m = q + 1 := ⟨m - 1, by omega⟩
    obtain ⟨mk, a1, a2⟩ := ih (x + 1) (by omega) (va_up mk0 x 0) (fun p hp => by
      by_cases h9 : p = x
      · rw [h9, up_eq]
      · rw [up_ne h9]; exact h0 p (by omega)) m (by omega)
    refine ⟨mk, a1, ?_⟩
    rw [xf_Search_explore_L2, if_neg (show ¬ (96 : Int32) ≤ nI x by rw [li_96, nql (by omega) (by omega)]; omega), gd_nI (show x < 96 by omega) (by omega), Option.bind_some, SX_s_smarks, Option.bind_some, nI_1]
    exact a2
theorem explore_ok {F : Nat} {h : XH} {Fd : Nat → Int32} (hFu : 800 < F) (hF : ∀ p, p < 96 → xh_signs h p = Fd p ∧ SG (Fd p)) : ∃ (met mk fd : Nat → Int32) (s : Nat), xf_Search_explore F h = some (SX h (nI s) mk fd) ∧ MK mk met ∧ Mz mk ∧ ∀ v, v < 768 → (met v ≠ 0 ↔ RC Fd v) := by
  obtain ⟨mk, a1, a2⟩ := exL_ok (F := F) (h := h) 96 0 (by omega) (xh_smarks h) (fun p hp => absurd hp (by omega)) F (by omega)
  have z0 : ∀ x, cnt (fun _ => 0) x = 0 := fun x => by
    induction x with
    | zero => rfl
    | succ x ih => rw [cnt_s, ih]; rfl
  have hI : CI Fd 0 (fun _ => 0) mk (xh_sfound h) 0 := by
    refine ⟨fun v hv => ?_, fun p hp j _ _ => ?_, (z0 768).symm, fun j hj => absurd hj (by omega), fun v _ hm => absurd rfl hm, fun j hj => absurd hj (by omega)⟩
    · rw [a1 _ (by omega), mbit_0]; rfl
    · rw [a1 p hp, mbit_0]
  obtain ⟨m1, k1, g1, s1, e2, c1, d1, d2, d3, d4⟩ := reach_ok (h := h) hI (Nat.le_refl _) (show 0 < 768 by omega) RC_0
  obtain ⟨m2, k2, g2, s2, e3, ⟨c1, c2, c3, c4, c5, c6⟩, d5⟩ := L38_ok (F := F) (h := h) hF 768 0 (by omega) m1 k1 g1 s1 c1 (by omega) F (by omega)
  refine ⟨m2, k2, g2, s2, ?_, c1, c2, fun v hv => ⟨fun hm => (c5 v hv hm).1, fun hr => ?_⟩⟩
  · have e0 : SX h (xh_ssize h) (xh_smarks h) (xh_sfound h) = h := rfl
    rw [e0] at a2
    show xf_Search_explore_L2 F F (nI 0) h = _
    rw [a2, e2, Option.bind_some, e3]
  · refine RC_in (d5 0 (d4 0 (List.mem_singleton.mpr rfl))) (fun w u hw hm hu => ?_) hr
    obtain ⟨-, j, hj, he⟩ := c5 w hw hm
    exact c6 j hj w hw he u hu
