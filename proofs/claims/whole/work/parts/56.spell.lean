/-! writing a number out -/
theorem nI_m1 (k : Nat) : nI (k + 1) + (-1 : Int32) = nI k := by
  rw [← nI_1, Int32.add_assoc, show (1 : Int32) + -1 = 0 from rfl, Int32.add_zero]
theorem n10 (a : Int64) : (a / (10 : Int64)).toInt.natAbs = a.toInt.natAbs / 10 := by
  obtain ⟨h1, -⟩ := rem64 (m := 10) (by omega) (by omega) a
  have h1' : a / (10 : Int64) = Int64.ofInt (a.toInt.tdiv (10 : Nat)) := h1
  have hA := i64_lo a
  have hb : (a.toInt.tdiv (10 : Nat)).natAbs = a.toInt.natAbs / 10 := by rw [Int.natAbs_tdiv]; rfl
  rw [h1', Int64.toInt_ofInt_of_le (by omega) (by omega), hb]
theorem z64 (a : Int64) : a = 0 ↔ a.toInt.natAbs = 0 := by
  constructor
  · intro h; rw [h]; rfl
  · intro h
    rw [i64_of a, show a.toInt = 0 by omega]
    rfl
theorem dig_ok (a : Int64) : ∃ c, SG c ∧ vp_nar .char (((((48 : Int64) + (jk_abs (a - a / (10 : Int64) * (10 : Int64)))).toInt32).toUInt32 % 65536).toInt32) = c ∧ (0 ≤ (a - a / (10 : Int64) * (10 : Int64)).toInt32 → (48 : Int32) + (a - a / (10 : Int64) * (10 : Int64)).toInt32 = c) ∧ (¬ 0 ≤ (a - a / (10 : Int64) * (10 : Int64)).toInt32 → (48 : Int32) + -(a - a / (10 : Int64) * (10 : Int64)).toInt32 = c) := by
  obtain ⟨-, h2⟩ := rem64 (m := 10) (by omega) (by omega) a
  have h2' : a - a / (10 : Int64) * (10 : Int64) = Int64.ofInt (a.toInt.tmod (10 : Nat)) := h2
  obtain ⟨b1, b2⟩ := tm_bd (m := 10) (by omega) a.toInt
  rw [h2']
  have hb : -10 < a.toInt.tmod (10 : Nat) ∧ a.toInt.tmod (10 : Nat) < 10 := by
    by_cases h0 : 0 ≤ a.toInt
    · have := b1 h0; omega
    · have := b2 (by omega); omega
  generalize a.toInt.tmod ((10 : Nat) : Int) = r at *
  have b4 : r = -9 ∨ r = -8 ∨ r = -7 ∨ r = -6 ∨ r = -5 ∨ r = -4 ∨ r = -3 ∨ r = -2 ∨ r = -1 ∨ r = 0 ∨ r = 1 ∨ r = 2 ∨ r = 3 ∨ r = 4 ∨ r = 5 ∨ r = 6 ∨ r = 7 ∨ r = 8 ∨ r = 9 := by omega
  rcases b4 with h | h | h | h | h | h | h | h | h | h | h | h | h | h | h | h | h | h | h <;> subst h
  · exact ⟨nI 57, SG_of (by omega) (by omega), rfl, fun h => absurd h (by decide), fun _ => rfl⟩
  · exact ⟨nI 56, SG_of (by omega) (by omega), rfl, fun h => absurd h (by decide), fun _ => rfl⟩
  · exact ⟨nI 55, SG_of (by omega) (by omega), rfl, fun h => absurd h (by decide), fun _ => rfl⟩
  · exact ⟨nI 54, SG_of (by omega) (by omega), rfl, fun h => absurd h (by decide), fun _ => rfl⟩
  · exact ⟨nI 53, SG_of (by omega) (by omega), rfl, fun h => absurd h (by decide), fun _ => rfl⟩
  · exact ⟨nI 52, SG_of (by omega) (by omega), rfl, fun h => absurd h (by decide), fun _ => rfl⟩
  · exact ⟨nI 51, SG_of (by omega) (by omega), rfl, fun h => absurd h (by decide), fun _ => rfl⟩
  · exact ⟨nI 50, SG_of (by omega) (by omega), rfl, fun h => absurd h (by decide), fun _ => rfl⟩
  · exact ⟨nI 49, SG_of (by omega) (by omega), rfl, fun h => absurd h (by decide), fun _ => rfl⟩
  · exact ⟨nI 48, SG_of (by omega) (by omega), rfl, fun _ => rfl, fun h => absurd (show (0 : Int32) ≤ (Int64.ofInt 0).toInt32 by decide) h⟩
  · exact ⟨nI 49, SG_of (by omega) (by omega), rfl, fun _ => rfl, fun h => absurd (show (0 : Int32) ≤ (Int64.ofInt 1).toInt32 by decide) h⟩
  · exact ⟨nI 50, SG_of (by omega) (by omega), rfl, fun _ => rfl, fun h => absurd (show (0 : Int32) ≤ (Int64.ofInt 2).toInt32 by decide) h⟩
  · exact ⟨nI 51, SG_of (by omega) (by omega), rfl, fun _ => rfl, fun h => absurd (show (0 : Int32) ≤ (Int64.ofInt 3).toInt32 by decide) h⟩
  · exact ⟨nI 52, SG_of (by omega) (by omega), rfl, fun _ => rfl, fun h => absurd (show (0 : Int32) ≤ (Int64.ofInt 4).toInt32 by decide) h⟩
  · exact ⟨nI 53, SG_of (by omega) (by omega), rfl, fun _ => rfl, fun h => absurd (show (0 : Int32) ≤ (Int64.ofInt 5).toInt32 by decide) h⟩
  · exact ⟨nI 54, SG_of (by omega) (by omega), rfl, fun _ => rfl, fun h => absurd (show (0 : Int32) ≤ (Int64.ofInt 6).toInt32 by decide) h⟩
  · exact ⟨nI 55, SG_of (by omega) (by omega), rfl, fun _ => rfl, fun h => absurd (show (0 : Int32) ≤ (Int64.ofInt 7).toInt32 by decide) h⟩
  · exact ⟨nI 56, SG_of (by omega) (by omega), rfl, fun _ => rfl, fun h => absurd (show (0 : Int32) ≤ (Int64.ofInt 8).toInt32 by decide) h⟩
  · exact ⟨nI 57, SG_of (by omega) (by omega), rfl, fun _ => rfl, fun h => absurd (show (0 : Int32) ≤ (Int64.ofInt 9).toInt32 by decide) h⟩
def DD (t : Nat) (dx dm : Nat → Int32) : Prop := ∀ j, j < t → dx (19 - j) = dm j ∧ SG (dm j)
theorem DD_up {t : Nat} {dx dm : Nat → Int32} {c : Int32} (h : DD t dx dm) (ht : t < 20) (hc : SG c) : DD (t + 1) (va_up dx (19 - t) c) (va_up dm t c) := by
  intro j hj
  by_cases h0 : j = t
  · rw [h0, up_eq, up_eq]; exact ⟨rfl, hc⟩
  · rw [up_ne (by omega), up_ne h0]; exact h j (by omega)
theorem xd_s (h : XH) (f : Nat → Int32) (j : Nat) (v : Int32) : xs_digits (xz_digits h f) j v = xz_digits h (va_up f j v) := rfl
theorem md_s (h : MH) (f : Nat → Int32) (j : Nat) (v : Int32) : ms_digits (mz_digits h f) j v = mz_digits h (va_up f j v) := rfl
def mEnd (v1 : Int64) (v3 : Int32) (h : MH) : Option (Int32 × MH) := if 0 ≤ (lg_cmp v1 (0 : Int64)) then some ((v3, h)) else (gd 20 v3).bind fun j3 => (some (ms_digits h j3 (45 : Int32))).bind fun g4 => some (((v3 + (1 : Int32)), g4))
theorem fin_ok {F q : Nat} {h : XH} {g : MH} {dx dm : Nat → Int32} (v1 : Int64) (hq : 1 ≤ q) (hq2 : q ≤ 19) (hd : DD q dx dm) : ∃ len dx' dm', 1 ≤ len ∧ len ≤ 20 ∧ xf_Run_spell_J54 F v1 (nI (20 - q)) (xz_digits h dx) = some (nI (20 - len), xz_digits h dx') ∧ mEnd v1 (nI q) (mz_digits g dm) = some (nI len, mz_digits g dm') ∧ DD len dx' dm' := by
  unfold xf_Run_spell_J54 mEnd
  by_cases h0 : 0 ≤ lg_cmp v1 0
  · exact ⟨q, dx, dm, hq, by omega, by rw [if_pos h0], by rw [if_pos h0], hd⟩
  · refine ⟨q + 1, va_up dx (19 - q) 45, va_up dm q 45, by omega, by omega, ?_, ?_, DD_up hd (by omega) (SG_of (n := 45) (by omega) (by omega))⟩
    · rw [if_neg h0, show 20 - q = (19 - q) + 1 by omega, nI_m1, gd_nI (by omega) (by omega), Option.bind_some, Option.bind_some, xd_s, show vp_nar .char (45 : Int32) = 45 from rfl, show 20 - (q + 1) = 19 - q by omega]
    · rw [if_neg h0, gd_nI (by omega) (by omega), Option.bind_some, Option.bind_some, md_s, nI_1]
theorem spL_ok {F : Nat} {h : XH} {g : MH} (v1 : Int64) : ∀ (u t : Nat), t + u + 1 = 19 → ∀ (a : Int64), a.toInt.natAbs < 10 ^ (u + 1) → (t = 0 ∨ a ≠ 0) → ∀ dx dm, DD t dx dm → ∀ mx mm, u < mx → u + 1 < mm →
    ∃ len dx' dm', 1 ≤ len ∧ len ≤ 20 ∧ xf_Run_spell_L6 F mx v1 (nI (20 - t)) a (xz_digits h dx) = some (nI (20 - len), xz_digits h dx') ∧ mf_M_spell_L5 F mm v1 (nI t) a (mz_digits g dm) = some (nI len, mz_digits g dm') ∧ DD len dx' dm' := by
  intro u
  induction u with
  | zero =>
    intro t ht a ha h0 dx dm hd mx mm hmx hmm
    obtain ⟨mx, rfl⟩ : ∃ q, mx = q + 1 := ⟨mx - 1, by omega⟩
    obtain ⟨mm, rfl⟩ : ∃ q, mm = q + 1 + 1 := ⟨mm - 2, by omega⟩
    have hz : a / (10 : Int64) = 0 := by rw [z64, n10]; omega
    obtain ⟨c, hc, c1, c2, c3⟩ := dig_ok a
    obtain ⟨len, dx', dm', l1, l2, f1, f2, f3⟩ := fin_ok (F := F) (h := h) (g := g) v1 (show 1 ≤ t + 1 by omega) (by omega) (DD_up hd (by omega) hc)
    refine ⟨len, dx', dm', l1, l2, ?_, ?_, f3⟩
    · rw [xf_Run_spell_L6, show 20 - t = (19 - t) + 1 by omega, nI_m1, gd_nI (by omega) (by omega), Option.bind_some, Option.bind_some, c1, xd_s, if_pos (by rw [hz]; rfl), show 19 - t = 20 - (t + 1) by omega]
      rw [show 19 - t = 20 - (t + 1) by omega] at f1
      exact f1
    · have e1 : mf_M_spell_L5 F (mm + 1 + 1) v1 (nI t) a (mz_digits g dm) = mf_M_spell_J16 F (mf_M_spell_L5 F (mm + 1)) v1 (nI t) a (mz_digits g dm) := by
        rw [mf_M_spell_L5]
        rcases h0 with h1 | h1
        · rw [if_pos (show nI t = (0 : Int32) by rw [h1]; rfl)]
        · rw [if_neg (fun h2 => h1 ((lg_eq _ _).mp h2)), ite_self]
      have e2 : mf_M_spell_J16 F (mf_M_spell_L5 F (mm + 1)) v1 (nI t) a (mz_digits g dm) = mf_M_spell_L5 F (mm + 1) v1 (nI (t + 1)) (a / 10) (mz_digits g (va_up dm t c)) := by
        unfold mf_M_spell_J16 mf_M_spell_J45
        by_cases h1 : 0 ≤ (a - a / (10 : Int64) * (10 : Int64)).toInt32
        · rw [if_pos h1, gd_nI (by omega) (by omega), Option.bind_some, Option.bind_some, c2 h1, md_s, nI_1]
        · rw [if_neg h1, gd_nI (by omega) (by omega), Option.bind_some, Option.bind_some, c3 h1, md_s, nI_1]
      rw [e1, e2, hz, mf_M_spell_L5, if_neg (show ¬ nI (t + 1) = (0 : Int32) from nI_neq (b := 0) (by omega) (by omega) (by omega)), if_pos (show lg_cmp 0 0 = 0 from (lg_eq _ _).mpr rfl)]
      exact f2
  | succ u ih =>
    intro t ht a ha h0 dx dm hd mx mm hmx hmm
    obtain ⟨mx, rfl⟩ : ∃ q, mx = q + 1 := ⟨mx - 1, by omega⟩
    obtain ⟨mm, rfl⟩ : ∃ q, mm = q + 1 := ⟨mm - 1, by omega⟩
    obtain ⟨c, hc, c1, c2, c3⟩ := dig_ok a
    have e1 : mf_M_spell_L5 F (mm + 1) v1 (nI t) a (mz_digits g dm) = mf_M_spell_L5 F mm v1 (nI (t + 1)) (a / 10) (mz_digits g (va_up dm t c)) := by
      have e1 : mf_M_spell_L5 F (mm + 1) v1 (nI t) a (mz_digits g dm) = mf_M_spell_J16 F (mf_M_spell_L5 F mm) v1 (nI t) a (mz_digits g dm) := by
        rw [mf_M_spell_L5]
        rcases h0 with h1 | h1
        · rw [if_pos (show nI t = (0 : Int32) by rw [h1]; rfl)]
        · rw [if_neg (fun h2 => h1 ((lg_eq _ _).mp h2)), ite_self]
      rw [e1]
      unfold mf_M_spell_J16 mf_M_spell_J45
      by_cases h1 : 0 ≤ (a - a / (10 : Int64) * (10 : Int64)).toInt32
      · rw [if_pos h1, gd_nI (by omega) (by omega), Option.bind_some, Option.bind_some, c2 h1, md_s, nI_1]
      · rw [if_neg h1, gd_nI (by omega) (by omega), Option.bind_some, Option.bind_some, c3 h1, md_s, nI_1]
    have e2 : xf_Run_spell_L6 F (mx + 1) v1 (nI (20 - t)) a (xz_digits h dx) = if a / (10 : Int64) = 0 then xf_Run_spell_J54 F v1 (nI (20 - (t + 1))) (xz_digits h (va_up dx (19 - t) c)) else xf_Run_spell_L6 F mx v1 (nI (20 - (t + 1))) (a / 10) (xz_digits h (va_up dx (19 - t) c)) := by
      rw [xf_Run_spell_L6, show 20 - t = (19 - t) + 1 by omega, nI_m1, gd_nI (by omega) (by omega), Option.bind_some, Option.bind_some, c1, xd_s, show 20 - (t + 1) = 19 - t by omega]
      by_cases h1 : a / (10 : Int64) = 0
      · rw [if_pos h1, if_pos ((lg_eq _ _).mpr h1)]
      · rw [if_neg h1, if_neg (fun h2 => h1 ((lg_eq _ _).mp h2)), if_pos (show (1 : Int32) < nI (19 - t) by rw [li_1, nqt (by omega) (by omega)]; omega)]
    rw [e1, e2]
    by_cases hz : a / (10 : Int64) = 0
    · obtain ⟨len, dx', dm', l1, l2, f1, f2, f3⟩ := fin_ok (F := F) (h := h) (g := g) v1 (show 1 ≤ t + 1 by omega) (by omega) (DD_up hd (by omega) hc)
      refine ⟨len, dx', dm', l1, l2, ?_, ?_, f3⟩
      · rw [if_pos hz]; exact f1
      · obtain ⟨mm, rfl⟩ : ∃ q, mm = q + 1 := ⟨mm - 1, by omega⟩
        rw [hz, mf_M_spell_L5, if_neg (show ¬ nI (t + 1) = (0 : Int32) from nI_neq (b := 0) (by omega) (by omega) (by omega)), if_pos (show lg_cmp 0 0 = 0 from (lg_eq _ _).mpr rfl)]
        exact f2
    · rw [if_neg hz]
      exact ih (t + 1) (by omega) (a / 10) (by rw [n10, Nat.div_lt_iff_lt_mul (by omega)]; rw [Nat.pow_succ] at ha; exact ha) (Or.inr hz) _ _ (DD_up hd (by omega) hc) mx mm (by omega) (by omega)
theorem spell_ok {F : Nat} (hF : 30 < F) (v : Int64) (h : XH) (g : MH) : ∃ len dx dm, 1 ≤ len ∧ len ≤ 20 ∧ xf_Run_spell F v h = some (nI (20 - len), xz_digits h dx) ∧ mf_M_spell F v g = some (nI len, mz_digits g dm) ∧ DD len dx dm := by
  have hA := i64_lo v
  have hp : (10 : Nat) ^ (18 + 1) = 10000000000000000000 := by decide
  obtain ⟨len, dx, dm, l1, l2, f1, f2, f3⟩ := spL_ok (F := F) (h := h) (g := g) v 18 0 (by omega) v (by omega) (Or.inl rfl) (xh_digits h) (mh_digits g) (fun j hj => by omega) F F (by omega) (by omega)
  exact ⟨len, dx, dm, l1, l2, f1, f2, f3⟩
