theorem lg_cases (x y : Int64) : (y < x ∧ lg_cmp x y = 1) ∨ (x = y ∧ lg_cmp x y = 0) ∨ (x < y ∧ lg_cmp x y = -1) := by
  unfold lg_cmp
  by_cases h : x > y
  · left; exact ⟨h, if_pos h⟩
  · right
    rw [if_neg h]
    by_cases h2 : x = y
    · left; exact ⟨h2, if_pos h2⟩
    · right
      refine ⟨?_, if_neg h2⟩
      rw [Int64.lt_iff_toInt_lt]
      have h3 : ¬ y.toInt < x.toInt := fun h9 => h (Int64.lt_iff_toInt_lt.mpr h9)
      have h4 : x.toInt ≠ y.toInt := fun h9 => h2 (Int64.toInt_inj.mp h9)
      omega
theorem lt_as (x y : Int64) : ¬ (x < y ∧ y < x) := fun h => by
  have h1 := Int64.lt_iff_toInt_lt.mp h.1
  have h2 := Int64.lt_iff_toInt_lt.mp h.2
  omega
theorem lt_ir (x : Int64) : ¬ x < x := fun h => by
  have h1 := Int64.lt_iff_toInt_lt.mp h
  omega
theorem lg_lt (x y : Int64) : lg_cmp x y < 0 ↔ x < y := by
  rcases lg_cases x y with ⟨h, e⟩ | ⟨h, e⟩ | ⟨h, e⟩ <;> rw [e]
  · exact ⟨fun h9 => absurd h9 (by decide), fun h9 => absurd ⟨h, h9⟩ (lt_as _ _)⟩
  · subst h; exact ⟨fun h9 => absurd h9 (by decide), fun h9 => absurd h9 (lt_ir _)⟩
  · exact ⟨fun _ => h, fun _ => by decide⟩
theorem lg_gt (x y : Int64) : 0 < lg_cmp x y ↔ y < x := by
  rcases lg_cases x y with ⟨h, e⟩ | ⟨h, e⟩ | ⟨h, e⟩ <;> rw [e]
  · exact ⟨fun _ => h, fun _ => by decide⟩
  · subst h; exact ⟨fun h9 => absurd h9 (by decide), fun h9 => absurd h9 (lt_ir _)⟩
  · exact ⟨fun h9 => absurd h9 (by decide), fun h9 => absurd ⟨h, h9⟩ (lt_as _ _)⟩
theorem lg_ge (x y : Int64) : 0 ≤ lg_cmp x y ↔ ¬ x < y := by
  rcases lg_cases x y with ⟨h, e⟩ | ⟨h, e⟩ | ⟨h, e⟩ <;> rw [e]
  · exact ⟨fun _ h9 => absurd ⟨h, h9⟩ (lt_as _ _), fun _ => by decide⟩
  · subst h; exact ⟨fun _ => lt_ir _, fun _ => by decide⟩
  · exact ⟨fun h9 => absurd h9 (by decide), fun h9 => absurd h h9⟩
theorem lg_le (x y : Int64) : lg_cmp x y ≤ 0 ↔ ¬ y < x := by
  rcases lg_cases x y with ⟨h, e⟩ | ⟨h, e⟩ | ⟨h, e⟩ <;> rw [e]
  · exact ⟨fun h9 => absurd h9 (by decide), fun h9 => absurd h h9⟩
  · subst h; exact ⟨fun _ => lt_ir _, fun _ => by decide⟩
  · exact ⟨fun _ h9 => absurd ⟨h, h9⟩ (lt_as _ _), fun _ => by decide⟩
theorem lg_eq (x y : Int64) : lg_cmp x y = 0 ↔ x = y := by
  rcases lg_cases x y with ⟨h, e⟩ | ⟨h, e⟩ | ⟨h, e⟩ <;> rw [e]
  · exact ⟨fun h9 => absurd h9 (by decide), fun h9 => absurd (h9 ▸ h) (lt_ir _)⟩
  · exact ⟨fun _ => h, fun _ => rfl⟩
  · exact ⟨fun h9 => absurd h9 (by decide), fun h9 => absurd (h9 ▸ h) (lt_ir _)⟩
theorem place_ok (a0 a1 : Int32) : (xf_P_placeAt a0 a1 = Sum.inl 1 ∧ mf_M_isPlace a0 a1 = 0) ∨ ∃ x y, x < 12 ∧ y < 8 ∧ a0 = nI x ∧ a1 = nI y ∧ xf_P_placeAt a0 a1 = Sum.inr (nI (12 * y + x)) ∧ mf_M_isPlace a0 a1 = 1 ∧ (12 : Int32) * a1 + a0 = nI (12 * y + x) := by
  unfold xf_P_placeAt mf_M_isPlace
  by_cases h0 : a0 < 0
  · left; simp only [if_pos h0, and_self]
  by_cases h1 : (12 : Int32) ≤ a0
  · left; simp only [if_neg h0, if_pos h1, and_self]
  by_cases h2 : a1 < 0
  · left; simp only [if_neg h0, if_neg h1, if_pos h2, and_self]
  by_cases h3 : (8 : Int32) ≤ a1
  · left; simp only [if_neg h0, if_neg h1, if_neg h2, if_pos h3, if_neg (Int32.not_lt.mpr h3), and_self]
  right
  obtain ⟨x, hx, rfl⟩ := nI_of h0
  obtain ⟨y, hy, rfl⟩ := nI_of h2
  rw [li_12, nql (by omega) (by omega)] at h1
  have h3' := h3
  rw [li_8, nql (by omega) (by omega)] at h3'
  have e : (12 : Int32) * nI y + nI x = nI (12 * y + x) := by rw [li_12, pk_mul, nI_add]
  refine ⟨x, y, by omega, by omega, rfl, rfl, ?_, ?_, e⟩
  · rw [if_neg h0, if_neg (by rw [li_12, nql (by omega) (by omega)]; omega), if_neg h2, if_pos (Int32.not_le.mp h3), li_12, pk_mul, nI_add, Nat.mul_comm]
  · rw [if_neg h0, if_neg (by rw [li_12, nql (by omega) (by omega)]; omega), if_neg h2, if_neg h3]
theorem refused_0 (g : MH) : mf_M_refused 0 g = (0, ms_vfault g 0) := by
  unfold mf_M_refused
  rw [if_pos (by decide)]
theorem refused_1 (g : MH) : mf_M_refused 1 g = (1, ms_vfault g 1) := by
  unfold mf_M_refused
  rw [if_neg (by decide)]
theorem refused_2 (g : MH) : mf_M_refused 2 g = (1, ms_vfault g 2) := by
  unfold mf_M_refused
  rw [if_neg (by decide)]
theorem Rel_fault {h : XH} {g : MH} (hR : Rel h g) (v : Int32) : Rel h (ms_vfault g v) := hR
theorem ok_sign : OK_sign Rel := by
  intro h g hR v0 v1
  have hF := hR.1
  rcases place_ok v0 v1 with ⟨e1, e2⟩ | ⟨x, y, hx, hy, hv0, hv1, e1, e2, e3⟩
  · refine ⟨0, 0, (0, ms_vfault g 1), ?_, Or.inr ⟨?_, rfl, Rel_fault hR 1⟩⟩
    · unfold mf_M_sign
      rw [e2, if_pos rfl]
      unfold mf_M_sign_J14
      rw [refused_1, if_neg (show ¬ (1 : Int32) = 0 by decide)]
    · unfold xf_P_sign
      rw [e1]
      rfl
  · obtain ⟨q1, q2⟩ := hF (12 * y + x) (by omega)
    refine ⟨0, 0, (mh_field g (12 * y + x), ms_vfault g 0), ?_, Or.inl ⟨mh_field g (12 * y + x), ?_, rfl, rfl, Rel_fault hR 0⟩⟩
    · unfold mf_M_sign
      rw [e2, if_neg (by decide)]
      unfold mf_M_sign_J14
      rw [refused_0, if_pos rfl, e3, gd_nI (by omega) (by omega), Option.bind_some]
      show some (((mh_field g (12 * y + x)).toUInt32 % 65536).toInt32, _) = _
      rw [i2c_SG q2]
    · unfold xf_P_sign
      rw [e1]
      show Option.map Sum.inr _ = _
      rw [gd_nI (by omega) (by omega), Option.bind_some, q1, nc_SG q2]
      rfl
/-- a char is a sign, or neither side takes it -/
theorem isSign_ok (v : Int32) : (∃ n, n < 65536 ∧ (v.toUInt32 % 65536).toInt32 = nI n) := ⟨v.toBitVec.toNat % 65536, by omega, pk_char v⟩
theorem mSign_ok {n : Nat} (hn : n < 65536) : (xf_P_isSign (nI n) = 0 ∧ mf_M_isSign (nI n).toInt64 = 0 ∧ ¬ (32 ≤ n ∧ n ≤ 126)) ∨ (xf_P_isSign (nI n) = 1 ∧ mf_M_isSign (nI n).toInt64 = 1 ∧ 32 ≤ n ∧ n ≤ 126) := by
  unfold xf_P_isSign mf_M_isSign
  have e : (nI n).toInt64 = lN n := nI_l (by omega)
  have c1 : lg_cmp (lN n) (32 : Int64) < 0 ↔ n < 32 := (lg_lt _ _).trans (lN_lt (b := 32) (by omega) (by omega))
  have c2 : 0 < lg_cmp (lN n) (126 : Int64) ↔ 126 < n := (lg_gt _ _).trans (lN_lt (a := 126) (by omega) (by omega))
  rw [e]
  simp (disch := omega) only [li_32, li_126, nqt]
  by_cases h1 : n < 32
  · left
    rw [if_pos h1, if_pos (c1.mpr h1)]
    exact ⟨rfl, rfl, by omega⟩
  · rw [if_neg h1, if_neg (fun h9 => h1 (c1.mp h9))]
    by_cases h2 : 126 < n
    · left
      rw [if_pos h2, if_pos (c2.mpr h2)]
      exact ⟨rfl, rfl, by omega⟩
    · right
      rw [if_neg h2, if_neg (fun h9 => h2 (c2.mp h9))]
      exact ⟨rfl, rfl, by omega, by omega⟩

theorem ok_type : OK_type Rel := by
  intro h g hR v
  obtain ⟨n, hn, e⟩ := isSign_ok v
  rw [e]
  obtain ⟨hF, hT, hO, hP, hI, hS, hQ, hB⟩ := hR
  have hR1 : Rel h (ms_vfault g 0) := ⟨hF, hT, hO, hP, hI, hS, hQ, hB⟩
  rcases mSign_ok hn with ⟨s1, s2, s3⟩ | ⟨s1, s2, s3, s4⟩
  · refine ⟨0, 0, (0, ms_vfault g 0), (0, h), ?_, ?_, rfl, hR1⟩
    · unfold mf_M_type
      rw [Option.bind_some, s2, if_pos rfl]
    · unfold xf_P_type
      rw [s1, if_pos rfl]
  · obtain ⟨t, ht, e1, e2, hch⟩ := hT
    by_cases ht12 : t = 12
    · refine ⟨0, 0, (0, ms_vfault g 0), (0, h), ?_, ?_, rfl, hR1⟩
      · unfold mf_M_type
        rw [Option.bind_some, s2, if_neg (show ¬ (1 : Int32) = 0 by decide), if_pos (show mh_vtyped (ms_vfault g 0) = (12 : Int32) from e2.trans (by rw [ht12]; rfl))]
      · unfold xf_P_type
        rw [s1, if_neg (show ¬ (1 : Int32) = 0 by decide)]
        have : xf_Line_hasRoom 1 1 h = 0 := by
          unfold xf_Line_hasRoom
          rw [e1, ht12]
          rfl
        rw [this, if_pos rfl]
    · refine ⟨0, 0, (1, ms_vtyped (ms_text (ms_vfault g 0) t (nI n)) (nI t + 1)), (1, xs_lsize (xs_lchars h 1 t (nI n)) 1 (nI t + 1)), ?_, ?_, rfl, ?_⟩
      · unfold mf_M_type
        rw [Option.bind_some, s2, if_neg (show ¬ (1 : Int32) = 0 by decide), if_neg (show ¬ mh_vtyped (ms_vfault g 0) = (12 : Int32) from fun h9 => ht12 ((nI_eq (b := 12) (by omega) (by omega)).mp (e2.symm.trans h9)))]
        rw [show mh_vtyped (ms_vfault g 0) = nI t from e2, gd_nI (by omega) (by omega), Option.bind_some, Option.bind_some]
        rw [show mh_vtyped (ms_text (ms_vfault g 0) t (nI n)) = nI t from e2]
        rfl
      · unfold xf_P_type
        rw [s1, if_neg (show ¬ (1 : Int32) = 0 by decide)]
        have hr : ¬ xf_Line_hasRoom 1 1 h = 0 := by
          unfold xf_Line_hasRoom
          rw [e1, if_neg]
          · decide
          · rw [show nI (xh_cap 1) = nI 12 from rfl, pk_sub (by omega), li_1, nqt (by omega) (by omega)]
            omega
        rw [if_neg hr]
        unfold xf_Line_add
        rw [e1, if_neg (by rw [show nI (xh_cap 1) = nI 12 from rfl, nql (by omega) (by omega)]; omega), show gd (xh_cap 1) (nI t) = some t from gd_nI (show t < 12 by omega) (by decide), Option.bind_some, nar_SG (SG_of s3 s4), Option.bind_some]
        rw [show xh_lsize (xs_lchars h 1 t (nI n)) 1 = nI t from e1]
        rfl
      · refine ⟨hF, ⟨t + 1, by omega, by show va_up (xh_lsize h) 1 (nI t + 1) 1 = _; rw [up_eq, nI_1], by rw [← nI_1]; rfl, fun i hi => ?_⟩, ?_, ?_, hI, hS, hQ, hB⟩
        · show va_up (xh_lchars h) 1 (va_up (xh_lchars h 1) t (nI n)) 1 i = va_up (mh_text g) t (nI n) i ∧ SG (va_up (mh_text g) t (nI n) i)
          rw [up_eq]
          by_cases hit : i = t
          · subst hit
            rw [up_eq, up_eq]
            exact ⟨rfl, SG_of s3 s4⟩
          · rw [up_ne hit, up_ne hit]
            exact hch i (by omega)
        · exact hO
        · exact hP
theorem ok_input : OK_input Rel := by
  intro h g hR v
  obtain ⟨hF, hT, hO, hP, ⟨n, r, hn, hr, e1, e2, e3, e4, hnm⟩, hS, hQ, hB⟩ := id hR
  by_cases h40 : n = 40
  · refine ⟨0, 0, (0, ms_vfault g 1), ?_, Or.inr ⟨?_, rfl, Rel_fault hR 1⟩⟩
    · unfold mf_M_input
      rw [if_pos (e2.trans (by rw [h40]; rfl))]
      unfold mf_M_input_J15
      rw [refused_1, if_neg (show ¬ (1 : Int32) = 0 by decide)]
    · unfold xf_P_input
      rw [if_pos (e1.trans (by rw [h40]; rfl))]
  · refine ⟨0, 0, (nI n + 1, ms_vinputs (ms_input (ms_vfault g 0) n v) (nI n + 1)), ?_, Or.inl ⟨(nI n + 1, xs_given (xs_innums h n v) (nI n + 1)), ?_, rfl, rfl, ?_⟩⟩
    · unfold mf_M_input
      rw [if_neg (show ¬ mh_vinputs g = (40 : Int32) from fun h9 => h40 ((nI_eq (b := 40) (by omega) (by omega)).mp (e2.symm.trans h9)))]
      unfold mf_M_input_J15
      rw [refused_0, if_pos rfl, show mh_vinputs (0, ms_vfault g 0).2 = nI n from e2, gd_nI (by omega) (by omega), Option.bind_some, Option.bind_some, show mh_vinputs (ms_input (0, ms_vfault g 0).2 n v) = nI n from e2]
      rfl
    · unfold xf_P_input
      rw [if_neg (show ¬ xh_given h = (40 : Int32) from fun h9 => h40 ((nI_eq (b := 40) (by omega) (by omega)).mp (e1.symm.trans h9)))]
      unfold xf_Run_give
      rw [e1, if_neg (by rw [li_40, nql (by omega) (by omega)]; omega), gd_nI (by omega) (by omega), Option.bind_some, Option.bind_some, show xh_given (xs_innums h n v) = nI n from e1]
      rfl
    · refine ⟨hF, hT, hO, hP, ⟨n + 1, r, by omega, by omega, by rw [← nI_1]; rfl, by rw [← nI_1]; rfl, e3, e4, fun i hi => ?_⟩, hS, hQ, hB⟩
      show va_up (xh_innums h) n v i = va_up (mh_input g) n v i
      by_cases hin : i = n
      · subst hin; rw [up_eq, up_eq]
      · rw [up_ne hin, up_ne hin]; exact hnm i (by omega)
