/-! covered places: bits of two longs -/
theorem bit_is {w : BitVec 64} {p : Nat} (hp : p < 64) : ((w >>> p) &&& 1#64 = 1#64) ↔ w.getLsbD p = true := by
  constructor
  · intro h
    have h1 : ((w >>> p) &&& 1#64).getLsbD 0 = (1#64 : BitVec 64).getLsbD 0 := by rw [h]
    simpa using h1
  · intro h
    apply BitVec.eq_of_getLsbD_eq
    intro i hi
    by_cases h0 : i = 0
    · subst h0
      simpa using h
    · simp [BitVec.getLsbD_one, h0]
theorem bit_at {w : Int64} {p : Nat} (hp : p < 64) : ((w.toUInt64 >>> UInt64.ofNat p).toInt64 &&& (1 : Int64) = 1) ↔ w.toBitVec.getLsbD p = true := by
  rw [← Int64.toBitVec_inj, ← bit_is hp]
  have e : ((w.toUInt64 >>> UInt64.ofNat p).toInt64 &&& (1 : Int64)).toBitVec = (w.toBitVec >>> p) &&& 1#64 := by
    rw [Int64.toBitVec_and]
    show (w.toUInt64 >>> UInt64.ofNat p).toBitVec &&& _ = _
    rw [UInt64.toBitVec_shiftRight]
    have e2 : (UInt64.ofNat p).toBitVec % 64 = BitVec.ofNat 64 p := by
      apply BitVec.eq_of_toNat_eq
      simp
      omega
    rw [e2]
    show (w.toBitVec >>> (BitVec.ofNat 64 p).toNat) &&& _ = _
    rw [BitVec.toNat_ofNat, Nat.mod_eq_of_lt (by omega)]
    rfl
  rw [e]
  rfl
theorem sh_lo : ∀ p, p < 64 → ((nI p &&& (63 : Int32)).toInt64.toUInt64 &&& Int64.toUInt64 63) = UInt64.ofNat p := by decide +kernel
theorem sh_hi : ∀ p, p < 32 → ((nI (64 + p) &&& (63 : Int32)).toInt64.toUInt64 &&& Int64.toUInt64 63) = UInt64.ofNat p := by decide +kernel
theorem isOver_ok {k p : Nat} {h : XH} (hp : p < 96) : xf_Block_isOver k (nI p) h = if obit (xh_blow h k) (xh_bhigh h k) p then 1 else 0 := by
  unfold xf_Block_isOver xf_Block_isOver_J17 obit
  by_cases h1 : p < 64
  · rw [if_neg (by rw [li_64, nql (by omega) (by omega)]; omega), sh_lo p h1, if_pos h1]
    by_cases h2 : (xh_blow h k).toBitVec.getLsbD p = true
    · rw [if_pos ((lg_eq _ _).mpr ((bit_at h1).mpr h2)), if_pos h2]
    · rw [if_neg (fun h3 => h2 ((bit_at h1).mp ((lg_eq _ _).mp h3))), if_neg h2]
  · obtain ⟨q, rfl⟩ : ∃ q, p = 64 + q := ⟨p - 64, by omega⟩
    rw [if_pos (by rw [li_64, nql (by omega) (by omega)]; omega), sh_hi q (by omega), if_neg h1, show 64 + q - 64 = q by omega]
    have h1' : q < 64 := by omega
    by_cases h2 : (xh_bhigh h k).toBitVec.getLsbD q = true
    · rw [if_pos ((lg_eq _ _).mpr ((bit_at h1').mpr h2)), if_pos h2]
    · rw [if_neg (fun h3 => h2 ((bit_at h1').mp ((lg_eq _ _).mp h3))), if_neg h2]
theorem sl_lo : ∀ p, p < 64 → (1 : Int64) <<< ((nI p).toInt64 &&& 63) = ⟨⟨BitVec.ofNat 64 (2 ^ p)⟩⟩ := by decide +kernel
theorem sl_hi : ∀ p, p < 32 → (1 : Int64) <<< ((nI (64 + p) - (64 : Int32)).toInt64 &&& 63) = ⟨⟨BitVec.ofNat 64 (2 ^ p)⟩⟩ := by decide +kernel
theorem or_bit {w : Int64} {p q : Nat} (hp : p < 64) (hq : q < 64) : (w ||| (⟨⟨BitVec.ofNat 64 (2 ^ p)⟩⟩ : Int64)).toBitVec.getLsbD q = (w.toBitVec.getLsbD q || decide (p = q)) := by
  rw [Int64.toBitVec_or]
  show (w.toBitVec ||| BitVec.ofNat 64 (2 ^ p)).getLsbD q = _
  rw [BitVec.getLsbD_or, BitVec.getLsbD_ofNat, Nat.testBit_two_pow]
  simp [hq]
theorem addPlace_ok {k p : Nat} {h : XH} (hp : p < 96) : ∃ lo hi, xf_Block_addPlace k (nI p) h = xs_bhigh (xs_blow h k lo) k hi ∧ ∀ q, q < 96 → obit lo hi q = (obit (xh_blow h k) (xh_bhigh h k) q || decide (p = q)) := by
  unfold xf_Block_addPlace
  by_cases h1 : p < 64
  · rw [if_neg (by rw [li_64, nql (by omega) (by omega)]; omega), sl_lo p h1]
    refine ⟨xh_blow h k ||| (⟨⟨BitVec.ofNat 64 (2 ^ p)⟩⟩ : Int64), xh_bhigh h k, ?_, fun q hq => ?_⟩
    · show _ = xz_bhigh _ (va_up (xh_bhigh h) k (xh_bhigh h k))
      rw [show va_up (xh_bhigh h) k (xh_bhigh h k) = xh_bhigh h from funext fun i => by
        by_cases hi : i = k
        · rw [hi, up_eq]
        · rw [up_ne hi]]
      rfl
    · unfold obit
      by_cases h2 : q < 64
      · rw [if_pos h2, if_pos h2, or_bit h1 h2]
      · rw [if_neg h2, if_neg h2, show decide (p = q) = false from decide_eq_false (by omega), Bool.or_false]
  · obtain ⟨r, rfl⟩ : ∃ q, p = 64 + q := ⟨p - 64, by omega⟩
    rw [if_pos (by rw [li_64, nql (by omega) (by omega)]; omega), sl_hi r (by omega)]
    refine ⟨xh_blow h k, xh_bhigh h k ||| (⟨⟨BitVec.ofNat 64 (2 ^ r)⟩⟩ : Int64), ?_, fun q hq => ?_⟩
    · show _ = xs_bhigh (xz_blow _ (va_up (xh_blow h) k (xh_blow h k))) k _
      rw [show va_up (xh_blow h) k (xh_blow h k) = xh_blow h from funext fun i => by
        by_cases hi : i = k
        · rw [hi, up_eq]
        · rw [up_ne hi]]
      rfl
    · unfold obit
      by_cases h2 : q < 64
      · rw [if_pos h2, if_pos h2, show decide (64 + r = q) = false from decide_eq_false (by omega), Bool.or_false]
      · rw [if_neg h2, if_neg h2, or_bit (by omega) (by omega)]
        congr 1
        exact decide_eq_decide.mpr ⟨fun h3 => by omega, fun h3 => by omega⟩
theorem over_ok {F : Nat} {h : XH} {g : MH} {n p : Nat} (hn : n ≤ 30) (hp : p < 96) {x y : Nat} (hxy : 12 * y + x = p) (hd : xh_held h = nI n) (hv : mh_vblocks g = nI n) (rw0 : ∀ i, i < 30 → xh_row h i < 30) (hb : ∀ i, i < n → mh_covered g (96 * i + p) = if obit (xh_blow h (xh_row h i)) (xh_bhigh h (xh_row h i)) p then 1 else 0) :
    ∀ (r k : Nat), k + r = n → ∀ m, r < m → ∀ a : Int32, ∃ b, xf_Blocks_over_L4 F m (nI p) a (nI k) h = some b ∧ mf_M_covers_L27 F m (nI x) (nI y) a (nI k) g = some (b, g) := by
  intro r
  induction r with
  | zero =>
    intro k hk m hm a
    obtain ⟨m, rfl⟩ : ∃ q, m = q + 1 := ⟨m - 1, by omega⟩
    refine ⟨a, ?_, ?_⟩
    · rw [xf_Blocks_over_L4, hd, if_pos (by rw [nql (by omega) (by omega)]; omega)]
    · rw [mf_M_covers_L27, hv, if_pos (by rw [nql (by omega) (by omega)]; omega)]
  | succ r ih =>
    intro k hk m hm a
    obtain ⟨m, rfl⟩ : ∃ q, m = q + 1 := ⟨m - 1, by omega⟩
    have e1 : xf_Blocks_over_L4 F (m + 1) (nI p) a (nI k) h = xf_Blocks_over_L4 F m (nI p) (if obit (xh_blow h (xh_row h k)) (xh_bhigh h (xh_row h k)) p then a + 1 else a) (nI (k + 1)) h := by
      rw [xf_Blocks_over_L4, hd, if_neg (by rw [nql (by omega) (by omega)]; omega), gd_nI (by omega) (by omega), Option.bind_some, gn_ok (rw0 k (by omega)), Option.bind_some, isOver_ok hp]
      unfold xf_Blocks_over_J28
      rw [nI_1]
      cases obit (xh_blow h (xh_row h k)) (xh_bhigh h (xh_row h k)) p <;> rfl
    have e2 : mf_M_covers_L27 F (m + 1) (nI x) (nI y) a (nI k) g = mf_M_covers_L27 F m (nI x) (nI y) (if obit (xh_blow h (xh_row h k)) (xh_bhigh h (xh_row h k)) p then a + 1 else a) (nI (k + 1)) g := by
      rw [mf_M_covers_L27, hv, if_neg (by rw [nql (by omega) (by omega)]; omega), li_96, li_12, pk_mul, pk_mul, nI_add, nI_add, show 96 * k + 12 * y + x = 96 * k + p by omega, gd_nI (by omega) (by omega), Option.bind_some, hb k (by omega)]
      unfold mf_M_covers_J63
      rw [nI_1]
      cases obit (xh_blow h (xh_row h k)) (xh_bhigh h (xh_row h k)) p <;> rfl
    rw [e1, e2]
    exact ih (k + 1) (by omega) m (by omega) _
theorem ok_covers : OK_covers Rel := by
  intro h g hR v0 v1
  obtain ⟨n, hn, hd, vb, dr, rw0, rinj, hbr, huq⟩ := hR.2.2.2.2.2.2.2
  rcases place_ok v0 v1 with ⟨e1, e2⟩ | ⟨x, y, hx, hy, hv0, hv1, e1, e2, e3⟩
  · refine ⟨31, 31, (0, ms_vfault g 1), ?_, Or.inr ⟨?_, rfl, Rel_fault hR 1⟩⟩
    · unfold mf_M_covers mf_M_covers_J14
      rw [e2, if_pos rfl, refused_1, if_neg (show ¬ (1 : Int32) = 0 by decide)]
    · unfold xf_P_covers
      rw [e1]
      rfl
  · obtain ⟨b, h1, h2⟩ := over_ok (F := 31) (h := h) (g := ms_vfault g 0) hn (show 12 * y + x < 96 by omega) (x := x) (y := y) rfl hd vb rw0 (fun i hi => by
      obtain ⟨w, z, -, -, -, -, -, -, -, -, -, hc, -⟩ := hbr i hi
      exact hc _ (by omega)) n 0 (by omega) 31 (by omega) 0
    refine ⟨31, 31, (b, ms_vfault g 0), ?_, Or.inl ⟨b, ?_, rfl, rfl, Rel_fault hR 0⟩⟩
    · unfold mf_M_covers mf_M_covers_J14
      rw [e2, if_neg (show ¬ (1 : Int32) = 0 by decide), refused_0, if_pos rfl, hv0, hv1]
      exact h2
    · unfold xf_P_covers
      rw [e1]
      show Option.map Sum.inr ((xf_Blocks_over_L4 31 31 (nI (12 * y + x)) (0 : Int32) (nI 0) h).bind _) = _
      rw [h1]
      rfl
