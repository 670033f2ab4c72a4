/-! numbers: remainders, places, signs -/
theorem i64_of (a : Int64) : a = Int64.ofInt a.toInt := (Int64.ofInt_toInt a).symm
theorem i64_lo (a : Int64) : -2 ^ 63 ≤ a.toInt ∧ a.toInt < 2 ^ 63 := ⟨Int64.le_toInt a, Int64.toInt_lt a⟩
theorem rem64 {m : Nat} (hm : 0 < m) (hm2 : m < 100) (a : Int64) : a / Int64.ofInt m = Int64.ofInt (a.toInt.tdiv m) ∧ a - a / Int64.ofInt m * Int64.ofInt m = Int64.ofInt (a.toInt.tmod m) := by
  have hA := i64_lo a
  have h1 : a / Int64.ofInt m = Int64.ofInt (a.toInt.tdiv m) := by
    have x1 : Int64.minValue.toInt = -2 ^ 63 := rfl
    have x2 : Int64.maxValue.toInt = 2 ^ 63 - 1 := rfl
    rw [Int64.ofInt_tdiv (by omega) (by omega) (by omega) (by omega)]
    rw [Int64.ofInt_toInt]
  refine ⟨h1, ?_⟩
  rw [h1, ← Int64.ofInt_mul]
  conv => lhs; lhs; rw [i64_of a]
  rw [← Int64.ofInt_sub]
  congr 1
  have := Int.tmod_add_mul_tdiv a.toInt m
  rw [Int.mul_comm] at this
  omega
theorem tm_bd {m : Nat} (hm : 0 < m) (A : Int) : (0 ≤ A → 0 ≤ A.tmod m ∧ A.tmod m < m) ∧ (A < 0 → -(m : Int) < A.tmod m ∧ A.tmod m ≤ 0) := by
  constructor
  · intro h
    exact ⟨Int.tmod_nonneg _ h, Int.tmod_lt_of_pos _ (by omega)⟩
  · intro h
    have h1 : (-A).tmod m = -(A.tmod m) := Int.neg_tmod _ _
    have h2 := Int.tmod_nonneg (m : Int) (show 0 ≤ -A by omega)
    have h3 := Int.tmod_lt_of_pos (-A) (show (0 : Int) < m by omega)
    omega
theorem lt64_0 (a : Int64) : a < 0 ↔ a.toInt < 0 := by
  rw [Int64.lt_iff_toInt_lt]
  rfl
theorem xor_neg (a b : Int64) (hb : b.toBitVec.msb = false) : a ^^^ b < 0 ↔ a < 0 := by
  have e : ∀ x : Int64, x < 0 ↔ x.toBitVec.msb = true := fun x => by
    rw [Int64.lt_iff_toBitVec_slt]
    show x.toBitVec.slt 0#64 = true ↔ _
    rw [BitVec.slt_zero_eq_msb]
  rw [e, e, Int64.toBitVec_xor, BitVec.msb_xor, hb, Bool.xor_false]
theorem mod8 (a : Int64) : ∃ y, y < 8 ∧ (∃ q, xf_Math_floorMod a 8 = some q ∧ q.toInt32 = nI y) ∧ mf_M_mod a 8 = some (nI y) := by
  obtain ⟨-, h2⟩ := rem64 (m := 8) (by omega) (by omega) a
  have h2' : a - a / (8 : Int64) * (8 : Int64) = Int64.ofInt (a.toInt.tmod 8) := h2
  obtain ⟨b1, b2⟩ := tm_bd (m := 8) (by omega) a.toInt
  unfold xf_Math_floorMod mf_M_mod
  simp only [show (8 : Int32).toInt64 = (8 : Int64) from rfl, eq_false (show ¬ (8 : Int64) = 0 by decide), if_false, h2']
  by_cases h0 : a < 0
  · have b3 := b2 ((lt64_0 a).mp h0)
    rw [if_neg (fun h => absurd ((xor_neg a 8 rfl).mpr h0) ((lg_ge _ _).mp h))]
    generalize a.toInt.tmod ((8 : Nat) : Int) = r at *
    have b4 : r = -7 ∨ r = -6 ∨ r = -5 ∨ r = -4 ∨ r = -3 ∨ r = -2 ∨ r = -1 ∨ r = 0 := by omega
    rcases b4 with h | h | h | h | h | h | h | h <;> subst h
    · exact ⟨1, by omega, ⟨_, rfl, rfl⟩, rfl⟩
    · exact ⟨2, by omega, ⟨_, rfl, rfl⟩, rfl⟩
    · exact ⟨3, by omega, ⟨_, rfl, rfl⟩, rfl⟩
    · exact ⟨4, by omega, ⟨_, rfl, rfl⟩, rfl⟩
    · exact ⟨5, by omega, ⟨_, rfl, rfl⟩, rfl⟩
    · exact ⟨6, by omega, ⟨_, rfl, rfl⟩, rfl⟩
    · exact ⟨7, by omega, ⟨_, rfl, rfl⟩, rfl⟩
    · exact ⟨0, by omega, ⟨_, rfl, rfl⟩, rfl⟩
  · have b3 := b1 (by have := mt (lt64_0 a).mpr h0; omega)
    rw [if_pos ((lg_ge _ _).mpr (fun h => h0 ((xor_neg a 8 rfl).mp h)))]
    generalize a.toInt.tmod ((8 : Nat) : Int) = r at *
    have b4 : r = 0 ∨ r = 1 ∨ r = 2 ∨ r = 3 ∨ r = 4 ∨ r = 5 ∨ r = 6 ∨ r = 7 := by omega
    rcases b4 with h | h | h | h | h | h | h | h <;> subst h
    · exact ⟨0, by omega, ⟨_, rfl, rfl⟩, rfl⟩
    · exact ⟨1, by omega, ⟨_, rfl, rfl⟩, rfl⟩
    · exact ⟨2, by omega, ⟨_, rfl, rfl⟩, rfl⟩
    · exact ⟨3, by omega, ⟨_, rfl, rfl⟩, rfl⟩
    · exact ⟨4, by omega, ⟨_, rfl, rfl⟩, rfl⟩
    · exact ⟨5, by omega, ⟨_, rfl, rfl⟩, rfl⟩
    · exact ⟨6, by omega, ⟨_, rfl, rfl⟩, rfl⟩
    · exact ⟨7, by omega, ⟨_, rfl, rfl⟩, rfl⟩
theorem mod12 (a : Int64) : ∃ y, y < 12 ∧ (∃ q, xf_Math_floorMod a 12 = some q ∧ q.toInt32 = nI y) ∧ mf_M_mod a 12 = some (nI y) := by
  obtain ⟨-, h2⟩ := rem64 (m := 12) (by omega) (by omega) a
  have h2' : a - a / (12 : Int64) * (12 : Int64) = Int64.ofInt (a.toInt.tmod 12) := h2
  obtain ⟨b1, b2⟩ := tm_bd (m := 12) (by omega) a.toInt
  unfold xf_Math_floorMod mf_M_mod
  simp only [show (12 : Int32).toInt64 = (12 : Int64) from rfl, eq_false (show ¬ (12 : Int64) = 0 by decide), if_false, h2']
  by_cases h0 : a < 0
  · have b3 := b2 ((lt64_0 a).mp h0)
    rw [if_neg (fun h => absurd ((xor_neg a 12 rfl).mpr h0) ((lg_ge _ _).mp h))]
    generalize a.toInt.tmod ((12 : Nat) : Int) = r at *
    have b4 : r = -11 ∨ r = -10 ∨ r = -9 ∨ r = -8 ∨ r = -7 ∨ r = -6 ∨ r = -5 ∨ r = -4 ∨ r = -3 ∨ r = -2 ∨ r = -1 ∨ r = 0 := by omega
    rcases b4 with h | h | h | h | h | h | h | h | h | h | h | h <;> subst h
    · exact ⟨1, by omega, ⟨_, rfl, rfl⟩, rfl⟩
    · exact ⟨2, by omega, ⟨_, rfl, rfl⟩, rfl⟩
    · exact ⟨3, by omega, ⟨_, rfl, rfl⟩, rfl⟩
    · exact ⟨4, by omega, ⟨_, rfl, rfl⟩, rfl⟩
    · exact ⟨5, by omega, ⟨_, rfl, rfl⟩, rfl⟩
    · exact ⟨6, by omega, ⟨_, rfl, rfl⟩, rfl⟩
    · exact ⟨7, by omega, ⟨_, rfl, rfl⟩, rfl⟩
    · exact ⟨8, by omega, ⟨_, rfl, rfl⟩, rfl⟩
    · exact ⟨9, by omega, ⟨_, rfl, rfl⟩, rfl⟩
    · exact ⟨10, by omega, ⟨_, rfl, rfl⟩, rfl⟩
    · exact ⟨11, by omega, ⟨_, rfl, rfl⟩, rfl⟩
    · exact ⟨0, by omega, ⟨_, rfl, rfl⟩, rfl⟩
  · have b3 := b1 (by have := mt (lt64_0 a).mpr h0; omega)
    rw [if_pos ((lg_ge _ _).mpr (fun h => h0 ((xor_neg a 12 rfl).mp h)))]
    generalize a.toInt.tmod ((12 : Nat) : Int) = r at *
    have b4 : r = 0 ∨ r = 1 ∨ r = 2 ∨ r = 3 ∨ r = 4 ∨ r = 5 ∨ r = 6 ∨ r = 7 ∨ r = 8 ∨ r = 9 ∨ r = 10 ∨ r = 11 := by omega
    rcases b4 with h | h | h | h | h | h | h | h | h | h | h | h <;> subst h
    · exact ⟨0, by omega, ⟨_, rfl, rfl⟩, rfl⟩
    · exact ⟨1, by omega, ⟨_, rfl, rfl⟩, rfl⟩
    · exact ⟨2, by omega, ⟨_, rfl, rfl⟩, rfl⟩
    · exact ⟨3, by omega, ⟨_, rfl, rfl⟩, rfl⟩
    · exact ⟨4, by omega, ⟨_, rfl, rfl⟩, rfl⟩
    · exact ⟨5, by omega, ⟨_, rfl, rfl⟩, rfl⟩
    · exact ⟨6, by omega, ⟨_, rfl, rfl⟩, rfl⟩
    · exact ⟨7, by omega, ⟨_, rfl, rfl⟩, rfl⟩
    · exact ⟨8, by omega, ⟨_, rfl, rfl⟩, rfl⟩
    · exact ⟨9, by omega, ⟨_, rfl, rfl⟩, rfl⟩
    · exact ⟨10, by omega, ⟨_, rfl, rfl⟩, rfl⟩
    · exact ⟨11, by omega, ⟨_, rfl, rfl⟩, rfl⟩
theorem place2 (a b : Int64) : ∃ x y, x < 12 ∧ y < 8 ∧ xf_P_joinedPlace a b = some (nI (12 * y + x)) ∧ mf_M_mod b 8 = some (nI y) ∧ mf_M_mod a 12 = some (nI x) := by
  obtain ⟨y, hy, ⟨q1, f1, e1⟩, m1⟩ := mod8 b
  obtain ⟨x, hx, ⟨q2, f2, e2⟩, m2⟩ := mod12 a
  refine ⟨x, y, hx, hy, ?_, m1, m2⟩
  unfold xf_P_joinedPlace
  rw [f2, Option.bind_some, f1, Option.bind_some, e1, e2, li_12, pk_mul, nI_add, Nat.mul_comm]
theorem i64_small {v : Int64} {D : Nat} (hD : D < 1000) (h0 : ¬ v < 0) (h1 : v < (nI D).toInt64) : ∃ j, j < D ∧ v.toInt32 = nI j := by
  have e1 : (nI D).toInt64.toInt = D := by
    rw [Int32.toInt_toInt64]
    show (Int32.ofNat D).toInt = D
    rw [Int32.toInt_ofNat_of_lt (by omega)]
  rw [Int64.lt_iff_toInt_lt, e1] at h1
  rw [lt64_0] at h0
  refine ⟨v.toInt.toNat, by omega, ?_⟩
  conv => lhs; rw [i64_of v]
  rw [Int64.toInt32_ofInt]
  show Int32.ofInt v.toInt = Int32.ofNat v.toInt.toNat
  rw [← Int32.ofInt_eq_ofNat, Int.toNat_of_nonneg (by omega)]
theorem an127 (a : Int64) : ∃ n : Nat, n < 128 ∧ a &&& 127 = Int64.ofInt n := by
  refine ⟨(a &&& 127).toBitVec.toNat, ?_, ?_⟩
  · rw [Int64.toBitVec_and, BitVec.toNat_and]
    exact Nat.lt_of_le_of_lt Nat.and_le_right (show (127 : Int64).toBitVec.toNat < 128 by decide)
  · have h : (a &&& 127).toBitVec.toNat < 128 := by
      rw [Int64.toBitVec_and, BitVec.toNat_and]
      exact Nat.lt_of_le_of_lt Nat.and_le_right (show (127 : Int64).toBitVec.toNat < 128 by decide)
    apply Int64.toBitVec_inj.mp
    apply BitVec.eq_of_toNat_eq
    show _ = (BitVec.ofInt 64 ((a &&& 127).toBitVec.toNat : Int)).toNat
    rw [BitVec.toNat_ofInt]
    omega
theorem signOf_tab : ∀ n, n < 128 → (if xf_P_isSign (((Int64.ofInt (n : Nat)).toInt32.toUInt32 % 65536).toInt32) = 0 then (32 : Int32) else ((Int64.ofInt (n : Nat)).toInt32.toUInt32 % 65536).toInt32) = (if mf_M_isSign (Int64.ofInt (n : Nat)) = 0 then (32 : Int32) else (Int64.ofInt (n : Nat)).toInt32) ∧ (if mf_M_isSign (Int64.ofInt (n : Nat)) = 0 then (32 : Int32) else (Int64.ofInt (n : Nat)).toInt32) = nI (if 32 ≤ n ∧ n ≤ 126 then n else 32) := by decide +kernel
theorem signOf_ok (a : Int64) : xf_P_signOf a = mf_M_signOf a ∧ SG (mf_M_signOf a) := by
  obtain ⟨n, hn, e⟩ := an127 a
  unfold xf_P_signOf mf_M_signOf
  rw [e]
  obtain ⟨h1, h2⟩ := signOf_tab n hn
  refine ⟨h1, ?_⟩
  rw [h2]
  split
  · exact SG_of (by omega) (by omega)
  · exact SG_32
