/-! marks; a block is found -/
theorem find_okF {F : Nat} {h : XH} {g : MH} {n : Nat} (hF : 31 < F) (hn : n ≤ 30) (hd : xh_held h = nI n) (hv : mh_vblocks g = nI n) (rw0 : ∀ i, i < 30 → xh_row h i < 30) (hb : ∀ i, i < n → xh_bbegin h (xh_row h i) = mh_begins g i) (huq : ∀ i j, i < n → j < n → mh_begins g i = mh_begins g j → i = j) (w : Int32) :
    (xf_Blocks_find F w h = some none ∧ mf_M_findBlock F w g = some (-1) ∧ ∀ i, i < n → mh_begins g i ≠ w) ∨ ∃ i, i < n ∧ mh_begins g i = w ∧ xf_Blocks_find F w h = some (some (xh_row h i)) ∧ mf_M_findBlock F w g = some (nI i) := by
  have hm : ∀ (r k : Nat), k + r = n → ∀ m, r < m → ∀ a : Int32, ((∀ i, k ≤ i → i < n → mh_begins g i ≠ w) → mf_M_findBlock_L4 F m w a (nI k) g = some a) ∧ ∀ i, k ≤ i → i < n → mh_begins g i = w → mf_M_findBlock_L4 F m w a (nI k) g = some (nI i) := by
    intro r
    induction r with
    | zero =>
      intro k hk m hm a
      obtain ⟨m, rfl⟩ : ∃ q, m = q + 1 := ⟨m - 1, by omega⟩
      refine ⟨fun _ => ?_, fun i h1 h2 => by omega⟩
      rw [mf_M_findBlock_L4, hv, if_pos (by rw [nql (by omega) (by omega)]; omega)]
    | succ r ih =>
      intro k hk m hm a
      obtain ⟨m, rfl⟩ : ∃ q, m = q + 1 := ⟨m - 1, by omega⟩
      have e : mf_M_findBlock_L4 F (m + 1) w a (nI k) g = if mh_begins g k = w then mf_M_findBlock_L4 F m w (nI k) (nI (k + 1)) g else mf_M_findBlock_L4 F m w a (nI (k + 1)) g := by
        rw [mf_M_findBlock_L4, hv, if_neg (by rw [nql (by omega) (by omega)]; omega), gd_nI (by omega) (by omega), Option.bind_some]
        unfold mf_M_findBlock_J27
        rw [nI_1]
      rw [e]
      refine ⟨fun hno => ?_, fun i h1 h2 h3 => ?_⟩
      · rw [if_neg (hno k (Nat.le_refl _) (by omega))]
        exact (ih (k + 1) (by omega) m (by omega) a).1 (fun i h1 h2 => hno i (by omega) h2)
      · by_cases hw : mh_begins g k = w
        · have hik : i = k := huq i k h2 (by omega) (h3.trans hw.symm)
          rw [if_pos hw, hik]
          exact (ih (k + 1) (by omega) m (by omega) (nI k)).1 (fun j h4 h5 h6 => by have := huq j k h5 (by omega) (h6.trans hw.symm); omega)
        · rw [if_neg hw]
          have hik : i ≠ k := fun h9 => hw (h9 ▸ h3)
          exact (ih (k + 1) (by omega) m (by omega) a).2 i (by omega) h2 h3
  have hm0 := hm n 0 (by omega) F (by omega) (-1)
  rcases findX_ok hn hd rw0 (mh_begins g) hb F w n 0 (by omega) F (by omega) (fun i hi => by omega) with ⟨h1, h2⟩ | ⟨i, h1, h2, h3⟩
  · left
    exact ⟨h1, hm0.1 (fun i _ h4 => h2 i h4), h2⟩
  · right
    exact ⟨i, h1, h2, h3, hm0.2 i (Nat.zero_le _) h1 h2⟩
def mbit (a : Int32) (j : Nat) : Bool := a.toBitVec.getLsbD j
theorem msk : ∀ v, v < 768 → (1 : Int32) <<< ((nI v &&& (7 : Int32)) &&& 31) = ⟨⟨BitVec.ofNat 32 (2 ^ (v % 8))⟩⟩ := by decide +kernel
theorem mor {a : Int32} {p q : Nat} (hp : p < 32) (hq : q < 32) : mbit (a ||| (⟨⟨BitVec.ofNat 32 (2 ^ p)⟩⟩ : Int32)) q = (mbit a q || decide (p = q)) := by
  unfold mbit
  rw [Int32.toBitVec_or]
  show (a.toBitVec ||| BitVec.ofNat 32 (2 ^ p)).getLsbD q = _
  rw [BitVec.getLsbD_or, BitVec.getLsbD_ofNat, Nat.testBit_two_pow]
  simp [hq]
theorem mand {a : Int32} {p : Nat} (hp : p < 32) : (a &&& (⟨⟨BitVec.ofNat 32 (2 ^ p)⟩⟩ : Int32) = 0) ↔ mbit a p = false := by
  rw [← Int32.toBitVec_inj, Int32.toBitVec_and]
  show (a.toBitVec &&& BitVec.ofNat 32 (2 ^ p)) = 0#32 ↔ _
  unfold mbit
  constructor
  · intro h
    have h1 : (a.toBitVec &&& BitVec.ofNat 32 (2 ^ p)).getLsbD p = (0#32 : BitVec 32).getLsbD p := by rw [h]
    rw [BitVec.getLsbD_and, BitVec.getLsbD_ofNat, Nat.testBit_two_pow] at h1
    simpa [hp] using h1
  · intro h
    apply BitVec.eq_of_getLsbD_eq
    intro i hi
    rw [BitVec.getLsbD_and, BitVec.getLsbD_ofNat, Nat.testBit_two_pow]
    by_cases h0 : p = i
    · subst h0
      simp [h]
    · simp [h0]
theorem mbit_0 {j : Nat} : mbit 0 j = false := by
  show (0#32 : BitVec 32).getLsbD j = false
  simp
theorem obit_0 {p : Nat} : obit 0 0 p = false := by
  unfold obit
  show (if p < 64 then (0#64 : BitVec 64).getLsbD p else (0#64 : BitVec 64).getLsbD (p - 64)) = false
  simp
def MK (mk met : Nat → Int32) : Prop := ∀ v, v < 768 → met v = if mbit (mk (v / 8)) (v % 8) then 1 else 0
theorem MK_is {mk met : Nat → Int32} {v : Nat} (hm : MK mk met) (hv : v < 768) : (mk (v / 8) &&& ((1 : Int32) <<< ((nI v &&& (7 : Int32)) &&& 31)) = 0) ↔ met v = 0 := by
  rw [msk v hv, mand (by omega), hm v hv]
  cases mbit (mk (v / 8)) (v % 8)
  · exact ⟨fun _ => rfl, fun _ => rfl⟩
  · exact ⟨fun h => absurd h (by decide), fun h => absurd h (by decide)⟩
theorem MK_up {mk met : Nat → Int32} {v : Nat} (hm : MK mk met) (hv : v < 768) : MK (va_up mk (v / 8) (mk (v / 8) ||| ((1 : Int32) <<< ((nI v &&& (7 : Int32)) &&& 31)))) (va_up met v 1) := by
  intro u hu
  rw [msk v hv]
  by_cases h1 : u / 8 = v / 8
  · rw [h1, up_eq, mor (by omega) (by omega)]
    by_cases h2 : u = v
    · rw [h2, up_eq]
      simp
    · rw [up_ne h2, show decide (v % 8 = u % 8) = false from decide_eq_false (by omega), Bool.or_false, hm u hu, h1]
  · rw [up_ne h1, up_ne (fun h => h1 (by rw [h])), hm u hu]
def TX (h : XH) (hd : Int32) (mk : Nat → Int32) (k : Nat) (bb be bz : Int32) (lo hi : Int64) : XH := (hd, xh_dropped h, xh_row h, mk, xh_signs h, xh_living h, xh_given h, xh_read h, xh_steps h, xh_stopped h, xh_ptrs h, xh_innums h, xh_digits h, xh_ssize h, xh_smarks h, xh_sfound h, xh_lsize h, xh_lchars h, xh_pway h, xh_pdepth h, xh_pret h, xh_pnums h, xh_prets h, va_up (xh_bbegin h) k bb, va_up (xh_bbehind h) k be, va_up (xh_bsize h) k bz, va_up (xh_blow h) k lo, va_up (xh_bhigh h) k hi)
theorem TX_get (h : XH) (hd : Int32) (mk : Nat → Int32) (k : Nat) (bb be bz : Int32) (lo hi : Int64) : xh_held (TX h hd mk k bb be bz lo hi) = hd ∧ xh_dropped (TX h hd mk k bb be bz lo hi) = xh_dropped h ∧ xh_row (TX h hd mk k bb be bz lo hi) = xh_row h ∧ xh_bmarks (TX h hd mk k bb be bz lo hi) = mk ∧ xh_signs (TX h hd mk k bb be bz lo hi) = xh_signs h ∧ xh_living (TX h hd mk k bb be bz lo hi) = xh_living h ∧ xh_given (TX h hd mk k bb be bz lo hi) = xh_given h ∧ xh_read (TX h hd mk k bb be bz lo hi) = xh_read h ∧ xh_steps (TX h hd mk k bb be bz lo hi) = xh_steps h ∧ xh_stopped (TX h hd mk k bb be bz lo hi) = xh_stopped h ∧ xh_ptrs (TX h hd mk k bb be bz lo hi) = xh_ptrs h ∧ xh_innums (TX h hd mk k bb be bz lo hi) = xh_innums h ∧ xh_digits (TX h hd mk k bb be bz lo hi) = xh_digits h ∧ xh_ssize (TX h hd mk k bb be bz lo hi) = xh_ssize h ∧ xh_smarks (TX h hd mk k bb be bz lo hi) = xh_smarks h ∧ xh_sfound (TX h hd mk k bb be bz lo hi) = xh_sfound h ∧ xh_lsize (TX h hd mk k bb be bz lo hi) = xh_lsize h ∧ xh_lchars (TX h hd mk k bb be bz lo hi) = xh_lchars h ∧ xh_pway (TX h hd mk k bb be bz lo hi) = xh_pway h ∧ xh_pdepth (TX h hd mk k bb be bz lo hi) = xh_pdepth h ∧ xh_pret (TX h hd mk k bb be bz lo hi) = xh_pret h ∧ xh_pnums (TX h hd mk k bb be bz lo hi) = xh_pnums h ∧ xh_prets (TX h hd mk k bb be bz lo hi) = xh_prets h ∧ xh_bbegin (TX h hd mk k bb be bz lo hi) = va_up (xh_bbegin h) k bb ∧ xh_bbehind (TX h hd mk k bb be bz lo hi) = va_up (xh_bbehind h) k be ∧ xh_bsize (TX h hd mk k bb be bz lo hi) = va_up (xh_bsize h) k bz ∧ xh_blow (TX h hd mk k bb be bz lo hi) = va_up (xh_blow h) k lo ∧ xh_bhigh (TX h hd mk k bb be bz lo hi) = va_up (xh_bhigh h) k hi := ⟨rfl, rfl, rfl, rfl, rfl, rfl, rfl, rfl, rfl, rfl, rfl, rfl, rfl, rfl, rfl, rfl, rfl, rfl, rfl, rfl, rfl, rfl, rfl, rfl, rfl, rfl, rfl, rfl⟩
def TM (g : MH) (vb : Int32) (met cov bg be ln : Nat → Int32) : MH := (mh_vfault g, mh_vtyped g, mh_vinputs g, mh_vread g, mh_vshown g, mh_vwritten g, mh_vpointers g, mh_vstopped g, mh_vsteps g, vb, mh_vdrops g, mh_field g, mh_text g, mh_input g, mh_output g, mh_page g, mh_digits g, mh_lives g, mh_place g, mh_direction g, mh_quoted g, mh_sizes g, mh_stacks g, mh_returns g, mh_back g, bg, ln, be, cov, met, mh_come g)
theorem TM_get (g : MH) (vb : Int32) (met cov bg be ln : Nat → Int32) : mh_vfault (TM g vb met cov bg be ln) = mh_vfault g ∧ mh_vtyped (TM g vb met cov bg be ln) = mh_vtyped g ∧ mh_vinputs (TM g vb met cov bg be ln) = mh_vinputs g ∧ mh_vread (TM g vb met cov bg be ln) = mh_vread g ∧ mh_vshown (TM g vb met cov bg be ln) = mh_vshown g ∧ mh_vwritten (TM g vb met cov bg be ln) = mh_vwritten g ∧ mh_vpointers (TM g vb met cov bg be ln) = mh_vpointers g ∧ mh_vstopped (TM g vb met cov bg be ln) = mh_vstopped g ∧ mh_vsteps (TM g vb met cov bg be ln) = mh_vsteps g ∧ mh_vblocks (TM g vb met cov bg be ln) = vb ∧ mh_vdrops (TM g vb met cov bg be ln) = mh_vdrops g ∧ mh_field (TM g vb met cov bg be ln) = mh_field g ∧ mh_text (TM g vb met cov bg be ln) = mh_text g ∧ mh_input (TM g vb met cov bg be ln) = mh_input g ∧ mh_output (TM g vb met cov bg be ln) = mh_output g ∧ mh_page (TM g vb met cov bg be ln) = mh_page g ∧ mh_digits (TM g vb met cov bg be ln) = mh_digits g ∧ mh_lives (TM g vb met cov bg be ln) = mh_lives g ∧ mh_place (TM g vb met cov bg be ln) = mh_place g ∧ mh_direction (TM g vb met cov bg be ln) = mh_direction g ∧ mh_quoted (TM g vb met cov bg be ln) = mh_quoted g ∧ mh_sizes (TM g vb met cov bg be ln) = mh_sizes g ∧ mh_stacks (TM g vb met cov bg be ln) = mh_stacks g ∧ mh_returns (TM g vb met cov bg be ln) = mh_returns g ∧ mh_back (TM g vb met cov bg be ln) = mh_back g ∧ mh_begins (TM g vb met cov bg be ln) = bg ∧ mh_lengths (TM g vb met cov bg be ln) = ln ∧ mh_behind (TM g vb met cov bg be ln) = be ∧ mh_covered (TM g vb met cov bg be ln) = cov ∧ mh_met (TM g vb met cov bg be ln) = met ∧ mh_come (TM g vb met cov bg be ln) = mh_come g := ⟨rfl, rfl, rfl, rfl, rfl, rfl, rfl, rfl, rfl, rfl, rfl, rfl, rfl, rfl, rfl, rfl, rfl, rfl, rfl, rfl, rfl, rfl, rfl, rfl, rfl, rfl, rfl, rfl, rfl, rfl, rfl⟩
theorem TX_id (h : XH) (k : Nat) : TX h (xh_held h) (xh_bmarks h) k (xh_bbegin h k) (xh_bbehind h k) (xh_bsize h k) (xh_blow h k) (xh_bhigh h k) = h := by
  unfold TX
  rw [up_id, up_id, up_id, up_id, up_id]
  rfl
theorem TX_s_held {h : XH} {hd : Int32} {mk : Nat → Int32} {k : Nat} {bb be bz : Int32} {lo hi : Int64} {v : Int32} : xs_held (TX h hd mk k bb be bz lo hi) v = TX h v mk k bb be bz lo hi := rfl
theorem TX_s_bmarks {h : XH} {hd : Int32} {mk : Nat → Int32} {k : Nat} {bb be bz : Int32} {lo hi : Int64} {j : Nat} {v : Int32} : xs_bmarks (TX h hd mk k bb be bz lo hi) j v = TX h hd (va_up mk j v) k bb be bz lo hi := rfl
theorem TX_s_bbegin {h : XH} {hd : Int32} {mk : Nat → Int32} {k : Nat} {bb be bz : Int32} {lo hi : Int64} {v : Int32} : xs_bbegin (TX h hd mk k bb be bz lo hi) k v = TX h hd mk k v be bz lo hi := by
  unfold xs_bbegin
  rw [show va_up (xh_bbegin (TX h hd mk k bb be bz lo hi)) k v = va_up (xh_bbegin h) k v from up_up _ _ _ _]
  rfl
theorem TX_s_bbehind {h : XH} {hd : Int32} {mk : Nat → Int32} {k : Nat} {bb be bz : Int32} {lo hi : Int64} {v : Int32} : xs_bbehind (TX h hd mk k bb be bz lo hi) k v = TX h hd mk k bb v bz lo hi := by
  unfold xs_bbehind
  rw [show va_up (xh_bbehind (TX h hd mk k bb be bz lo hi)) k v = va_up (xh_bbehind h) k v from up_up _ _ _ _]
  rfl
theorem TX_s_bsize {h : XH} {hd : Int32} {mk : Nat → Int32} {k : Nat} {bb be bz : Int32} {lo hi : Int64} {v : Int32} : xs_bsize (TX h hd mk k bb be bz lo hi) k v = TX h hd mk k bb be v lo hi := by
  unfold xs_bsize
  rw [show va_up (xh_bsize (TX h hd mk k bb be bz lo hi)) k v = va_up (xh_bsize h) k v from up_up _ _ _ _]
  rfl
theorem TX_s_blow {h : XH} {hd : Int32} {mk : Nat → Int32} {k : Nat} {bb be bz : Int32} {lo hi : Int64} {v : Int64} : xs_blow (TX h hd mk k bb be bz lo hi) k v = TX h hd mk k bb be bz v hi := by
  unfold xs_blow
  rw [show va_up (xh_blow (TX h hd mk k bb be bz lo hi)) k v = va_up (xh_blow h) k v from up_up _ _ _ _]
  rfl
theorem TX_s_bhigh {h : XH} {hd : Int32} {mk : Nat → Int32} {k : Nat} {bb be bz : Int32} {lo hi : Int64} {v : Int64} : xs_bhigh (TX h hd mk k bb be bz lo hi) k v = TX h hd mk k bb be bz lo v := by
  unfold xs_bhigh
  rw [show va_up (xh_bhigh (TX h hd mk k bb be bz lo hi)) k v = va_up (xh_bhigh h) k v from up_up _ _ _ _]
  rfl
theorem TM_id (g : MH) : TM g (mh_vblocks g) (mh_met g) (mh_covered g) (mh_begins g) (mh_behind g) (mh_lengths g) = g := rfl
theorem TM_s_vblocks {g : MH} {vb : Int32} {met cov bg be ln : Nat → Int32} {v : Int32} : ms_vblocks (TM g vb met cov bg be ln) v = TM g v met cov bg be ln := rfl
theorem TM_s_met {g : MH} {vb : Int32} {met cov bg be ln : Nat → Int32} {j : Nat} {v : Int32} : ms_met (TM g vb met cov bg be ln) j v = TM g vb (va_up met j v) cov bg be ln := rfl
theorem TM_s_covered {g : MH} {vb : Int32} {met cov bg be ln : Nat → Int32} {j : Nat} {v : Int32} : ms_covered (TM g vb met cov bg be ln) j v = TM g vb met (va_up cov j v) bg be ln := rfl
theorem TM_s_begins {g : MH} {vb : Int32} {met cov bg be ln : Nat → Int32} {j : Nat} {v : Int32} : ms_begins (TM g vb met cov bg be ln) j v = TM g vb met cov (va_up bg j v) be ln := rfl
theorem TM_s_behind {g : MH} {vb : Int32} {met cov bg be ln : Nat → Int32} {j : Nat} {v : Int32} : ms_behind (TM g vb met cov bg be ln) j v = TM g vb met cov bg (va_up be j v) ln := rfl
theorem TM_s_lengths {g : MH} {vb : Int32} {met cov bg be ln : Nat → Int32} {j : Nat} {v : Int32} : ms_lengths (TM g vb met cov bg be ln) j v = TM g vb met cov bg be (va_up ln j v) := rfl
