/-! the relation between the class's state and the reference's -/
def sN (v : Int32) : Nat := v.toNatClampNeg
def SG (v : Int32) : Prop := v = nI (sN v) ∧ 32 ≤ sN v ∧ sN v ≤ 126
theorem SG_of {n : Nat} (h1 : 32 ≤ n) (h2 : n ≤ 126) : SG (nI n) := by
  have e : sN (nI n) = n := nI_clamp (by omega)
  exact ⟨by rw [e], by rw [e]; exact h1, by rw [e]; exact h2⟩
def RF (a b : Nat → Int32) : Prop := ∀ i, i < 96 → a i = b i ∧ SG (b i)
def RL (cap : Nat) (sz : Int32) (ch : Nat → Int32) (sz' : Int32) (ch' : Nat → Int32) : Prop := ∃ t, t ≤ cap ∧ sz = nI t ∧ sz' = nI t ∧ ∀ i, i < t → ch i = ch' i ∧ SG (ch' i)
def RI (gv rd gv' rd' : Int32) (nm nm' : Nat → Int64) : Prop := ∃ n r, n ≤ 40 ∧ r ≤ n ∧ gv = nI n ∧ gv' = nI n ∧ rd = nI r ∧ rd' = nI r ∧ ∀ i, i < n → nm i = nm' i
def RS (st st' sp sp' : Int32) : Prop := st = st' ∧ (st = 0 ∨ st = 2 ∨ st = 3) ∧ sp = sp'
def PR (pw pd pr : Int32) (pn : Nat → Int64) (ps : Nat → Int32) (pl di qu si re : Int32) (st : Nat → Int64) (ba : Nat → Int32) : Prop :=
  ∃ w d r, w < 768 ∧ d ≤ 24 ∧ r ≤ 8 ∧ pw = nI w ∧ pl = nI (w / 8) ∧ di = nI (w / 2 % 4) ∧ qu = nI (w % 2) ∧ pd = nI d ∧ si = nI d ∧ (∀ j, j < d → pn j = st j) ∧ pr = nI r ∧ re = nI r ∧ ∀ j, j < r → ∃ v, v < 768 ∧ v % 2 = 0 ∧ ps j = nI v ∧ ba j = nI (4 * (v / 8) + v / 2 % 4)
def RP (lv : Int32) (pt : Nat → Nat) (pw pd pr : Nat → Int32) (pn : Nat → Nat → Int64) (ps : Nat → Nat → Int32) (vp : Int32) (li pl di qu si re : Nat → Int32) (st : Nat → Int64) (ba : Nat → Int32) : Prop :=
  ∃ n, n ≤ 4 ∧ lv = nI n ∧ vp = nI n ∧ (∀ i, i < 4 → pt i < 4) ∧ (∀ i j, i < 4 → j < 4 → pt i = pt j → i = j) ∧ ∀ i, i < n → li i = 1 ∧ PR (pw (pt i)) (pd (pt i)) (pr (pt i)) (pn (pt i)) (ps (pt i)) (pl i) (di i) (qu i) (si i) (re i) (fun j => st (24 * i + j)) (fun j => ba (8 * i + j))
def obit (lo hi : Int64) (p : Nat) : Bool := if p < 64 then lo.toBitVec.getLsbD p else hi.toBitVec.getLsbD (p - 64)
def pth (F : Nat → Int32) (w : Nat) : Nat → Nat
  | 0 => w
  | t + 1 => bh (pth F w t) (sN (F (pth F w t / 8)))
def BR (F : Nat → Int32) (bb be bz : Int32) (lo hi : Int64) (mb me mz : Int32) (co : Nat → Int32) : Prop :=
  ∃ w z, w < 768 ∧ 1 ≤ z ∧ z ≤ 32 ∧ bb = nI w ∧ mb = nI w ∧ bz = nI z ∧ mz = nI z ∧ be = nI (pth F w z) ∧ me = nI (pth F w z) ∧ (∀ p, p < 96 → co p = if obit lo hi p then 1 else 0) ∧ ∀ t, t < z → ¬ (pth F w t % 2 = 0 ∧ ac (sN (F (pth F w t / 8)))) ∧ obit lo hi (pth F w t / 8) = true
def RB (F : Nat → Int32) (hd dr : Int32) (rw : Nat → Nat) (bb be bz : Nat → Int32) (lo hi : Nat → Int64) (vb vd : Int32) (mb me mz co : Nat → Int32) : Prop :=
  ∃ n, n ≤ 30 ∧ hd = nI n ∧ vb = nI n ∧ dr = vd ∧ (∀ i, i < 30 → rw i < 30) ∧ (∀ i j, i < 30 → j < 30 → rw i = rw j → i = j) ∧ (∀ i, i < n → BR F (bb (rw i)) (be (rw i)) (bz (rw i)) (lo (rw i)) (hi (rw i)) (mb i) (me i) (mz i) (fun p => co (96 * i + p))) ∧ ∀ i j, i < n → j < n → mb i = mb j → i = j
def Rel (h : XH) (g : MH) : Prop :=
  RF (xh_signs h) (mh_field g) ∧ RL 12 (xh_lsize h 1) (xh_lchars h 1) (mh_vtyped g) (mh_text g) ∧ RL 80 (xh_lsize h 0) (xh_lchars h 0) (mh_vshown g) (mh_output g) ∧ RL 80 (xh_lsize h 2) (xh_lchars h 2) (mh_vwritten g) (mh_page g) ∧ RI (xh_given h) (xh_read h) (mh_vinputs g) (mh_vread g) (xh_innums h) (mh_input g) ∧ RS (xh_stopped h) (mh_vstopped g) (xh_steps h) (mh_vsteps g) ∧
  RP (xh_living h) (xh_ptrs h) (xh_pway h) (xh_pdepth h) (xh_pret h) (xh_pnums h) (xh_prets h) (mh_vpointers g) (mh_lives g) (mh_place g) (mh_direction g) (mh_quoted g) (mh_sizes g) (mh_returns g) (mh_stacks g) (mh_back g) ∧
  RB (mh_field g) (xh_held h) (xh_dropped h) (xh_row h) (xh_bbegin h) (xh_bbehind h) (xh_bsize h) (xh_blow h) (xh_bhigh h) (mh_vblocks g) (mh_vdrops g) (mh_begins g) (mh_behind g) (mh_lengths g) (mh_covered g)
theorem nc_SG {v : Int32} (h : SG v) : nc v = some v := by
  unfold nc
  rw [if_pos]
  rw [h.1]
  have := (pk_charN (q := sN v) (by have := h.2.2; omega)).1
  unfold vp_nar
  rw [this]
theorem nar_SG {v : Int32} (h : SG v) : vp_nar .char v = v := by
  rw [h.1]
  have := (pk_charN (q := sN v) (by have := h.2.2; omega)).1
  unfold vp_nar
  rw [this]
theorem i2c_SG {v : Int32} (h : SG v) : (v.toUInt32 % 65536).toInt32 = v := by
  have e : ∀ n, n < 127 → ((nI n).toUInt32 % 65536).toInt32 = nI n := by decide +kernel
  rw [h.1]
  exact e _ (by have := h.2.2; omega)
theorem ok_length : OK_length Rel := by
  intro h g hR
  obtain ⟨hF, hT, hO, hP, hI, hS, hQ, hB⟩ := hR
  obtain ⟨t, ht, e1, e2, -⟩ := id hP
  exact ⟨0, 0, _, _, rfl, rfl, by show xh_lsize h 2 = mh_vwritten g; rw [e1, e2], hF, hT, hO, hP, hI, hS, hQ, hB⟩
theorem at_ok {h : XH} {g : MH} {k cap : Nat} {v : Int32} {sz : Int32} {ch : Nat → Int32} (hc : xh_cap k = cap) (hcap : cap ≤ 80) (hL : RL cap (xh_lsize h k) (xh_lchars h k) sz ch) :
    (v < 0 ∨ sz ≤ v → xf_Line_at k v h = some 32) ∧ (¬ v < 0 → v < sz → ∃ j, v = nI j ∧ j < cap ∧ xf_Line_at k v h = some (ch j) ∧ SG (ch j)) := by
  obtain ⟨t, ht, e1, e2, hch⟩ := hL
  unfold xf_Line_at
  rw [e1, e2, hc]
  constructor
  · intro hv
    by_cases h0 : v < 0
    · rw [if_pos h0]
    · rw [if_neg h0, if_pos (hv.resolve_left h0)]
  · intro h0 h1
    obtain ⟨j, hj, rfl⟩ := nI_of h0
    rw [nqt (by omega) (by omega)] at h1
    refine ⟨j, rfl, by omega, ?_, (hch j h1).2⟩
    rw [if_neg h0, if_neg (by rw [nql (by omega) (by omega)]; omega), gd_nI (by omega) (by omega), Option.bind_some, (hch j h1).1, nc_SG (hch j h1).2, Option.bind_some]
theorem ok_charAt : OK_charAt Rel := by
  intro h g hR v
  have hR0 := hR
  obtain ⟨hF, hT, hO, hP, hI, hS, hQ, hB⟩ := hR
  have hA := at_ok (h := h) (g := g) (k := 2) (cap := 80) (v := v) rfl (by omega) hP
  have hR1 : Rel h (ms_vfault g 0) := ⟨hF, hT, hO, hP, hI, hS, hQ, hB⟩
  by_cases h0 : v < 0
  · refine ⟨0, 0, (32, ms_vfault g 0), 32, ?_, ?_, rfl, hR1⟩
    · unfold mf_M_charAt
      rw [Option.bind_some, if_pos h0]
    · unfold xf_P_charAt
      rw [hA.1 (Or.inl h0), Option.bind_some]
      rfl
  · by_cases h1 : v < mh_vwritten g
    · obtain ⟨j, hj, hjc, e, hs⟩ := hA.2 h0 h1
      refine ⟨0, 0, (mh_page g j, ms_vfault g 0), mh_page g j, ?_, ?_, rfl, hR1⟩
      · unfold mf_M_charAt
        rw [Option.bind_some, if_neg h0, if_pos (show v < mh_vwritten (ms_vfault g 0) from h1), hj, gd_nI hjc (by omega), Option.bind_some]
        show some (((mh_page g j).toUInt32 % 65536).toInt32, _) = _
        rw [i2c_SG hs]
      · unfold xf_P_charAt
        rw [e, Option.bind_some, nc_SG hs, Option.bind_some]
    · refine ⟨0, 0, (32, ms_vfault g 0), 32, ?_, ?_, rfl, hR1⟩
      · unfold mf_M_charAt
        rw [Option.bind_some, if_neg h0, if_neg (show ¬ v < mh_vwritten (ms_vfault g 0) from h1)]
      · unfold xf_P_charAt
        rw [hA.1 (Or.inr (Int32.not_lt.mp h1)), Option.bind_some]
        rfl
