theorem outL_ok (F t : Nat) (ht : t ≤ 80) : ∀ (r k : Nat), k + r = t → ∀ (n : Nat), r < n → ∀ (g : MH), mh_vshown g = nI t → ∃ f, mf_M_output_L7 F n (nI k) g = some (nI t, ms_vwritten (mz_page g f) (nI t)) ∧ (∀ j, k ≤ j → j < t → f j = mh_output g j) ∧ ∀ j, j < k → f j = mh_page g j := by
  intro r
  induction r with
  | zero =>
    intro k hk n hn g hg
    obtain ⟨n, rfl⟩ : ∃ m, n = m + 1 := ⟨n - 1, by omega⟩
    refine ⟨mh_page g, ?_, fun j h1 h2 => by omega, fun j _ => rfl⟩
    unfold mf_M_output_L7
    rw [hg, if_pos (by rw [nql (by omega) (by omega)]; omega)]
    rfl
  | succ r ih =>
    intro k hk n hn g hg
    obtain ⟨n, rfl⟩ : ∃ m, n = m + 1 := ⟨n - 1, by omega⟩
    obtain ⟨f, hf, h1, h2⟩ := ih (k + 1) (by omega) n (by omega) (ms_page g k (mh_output g k)) hg
    refine ⟨f, ?_, fun j hj hk => ?_, fun j hj => ?_⟩
    · unfold mf_M_output_L7
      rw [hg, if_neg (by rw [nql (by omega) (by omega)]; omega), gd_nI (by omega) (by omega), Option.bind_some, Option.bind_some, Option.bind_some, nI_1, hf]
      rfl
    · by_cases hjk : j = k
      · subst hjk
        rw [h2 j (by omega)]
        exact up_eq
      · exact h1 j (by omega) hk
    · rw [h2 j (by omega)]
      exact up_ne (by omega)
theorem fits_SG {v : Int32} (h : SG v) : fits .char (.int v) = true := by
  rw [h.1]
  exact (pk_charN (q := sN v) (by have := h.2.2; omega)).2
theorem ok_output : OK_output Rel := by
  intro h g hR
  obtain ⟨hF, hT, hO, hP, hI, hS, hQ, hB⟩ := hR
  obtain ⟨t, ht, e1, e2, hch⟩ := id hO
  obtain ⟨f, hf, f1, -⟩ := outL_ok 81 t ht t 0 (by omega) 81 (by omega) (ms_vfault g 0) e2
  have hm : jk_min (nI t) (nI 80) = nI t := by
    unfold jk_min
    rw [if_neg (by rw [nqt (by omega) (by omega)]; omega)]
  have hgc : gc 80 80 (xh_lchars h 0) 0 0 (nI t) = some (0, 0, t) := by
    unfold gc
    rw [if_neg]
    · rw [nI_clamp (by omega)]
      rfl
    · rw [nI_clamp (by omega)]
      intro hc
      rcases hc with hc | hc | hc | hc | hc | hc
      · exact absurd hc (by decide)
      · exact absurd hc (by decide)
      · exact absurd hc (nI_pos (by omega))
      · have : (0 : Int32).toNatClampNeg = 0 := rfl
        omega
      · have : (0 : Int32).toNatClampNeg = 0 := rfl
        omega
      · have h9 : (List.range t).all (fun i => fits .char (.int (xh_lchars h 0 ((0 : Int32).toNatClampNeg + i)))) = true := List.all_eq_true.mpr fun i hi => by
          have hi := List.mem_range.mp hi
          rw [show (0 : Int32).toNatClampNeg + i = i from Nat.zero_add i, (hch i hi).1]
          exact fits_SG (hch i hi).2
        rw [h9] at hc
        cases hc
  refine ⟨0, 81, (nI t, ms_vwritten (mz_page (ms_vfault g 0) f) (nI t)), (nI t, xc_lchars (xs_lsize h 2 (nI t)) 2 (va_cpy (xh_lchars h 0) (xh_lchars h 2) 0 0 t)), ?_, ?_, rfl, ?_⟩
  · unfold mf_M_output
    rw [Option.bind_some]
    exact hf
  · unfold xf_P_output xf_Line_copy
    rw [e1, show nI (xh_cap 2) = nI 80 from rfl, hm, Option.bind_some]
    simp only [gx_lsize, up_eq, show xh_cap 0 = 80 from rfl, show xh_cap 2 = 80 from rfl]
    rw [hgc]
    simp only [Option.bind_some, gxc_lchars, gx_lsize, up_eq]
  · simp only [Rel, gxc_lchars, gx_lsize, gm_vwritten, gmz_page, gm_vfault]
    refine ⟨hF, hT, hO, ⟨t, ht, up_eq, rfl, fun i hi => ?_⟩, hI, hS, hQ, hB⟩
    rw [up_eq, f1 i (by omega) hi]
    show va_cpy (xh_lchars h 0) (xh_lchars h 2) 0 0 t i = mh_output g i ∧ SG (mh_output g i)
    rw [pk_cpy_in (by omega) (by omega)]
    have := hch i hi
    simpa using this
/-- a living pointer -/
theorem ptr_ok {h : XH} {g : MH} (hQ : RP (xh_living h) (xh_ptrs h) (xh_pway h) (xh_pdepth h) (xh_pret h) (xh_pnums h) (xh_prets h) (mh_vpointers g) (mh_lives g) (mh_place g) (mh_direction g) (mh_quoted g) (mh_sizes g) (mh_returns g) (mh_stacks g) (mh_back g)) (v : Int32) :
    (xf_P_livingPointer v h = some (Sum.inl 1) ∧ (v < 0 ∨ mh_vpointers g ≤ v)) ∨ ∃ i, i < 4 ∧ v = nI i ∧ ¬ v < 0 ∧ ¬ mh_vpointers g ≤ v ∧ xh_ptrs h i < 4 ∧ xf_P_livingPointer v h = some (Sum.inr (xh_ptrs h i)) ∧ PR (xh_pway h (xh_ptrs h i)) (xh_pdepth h (xh_ptrs h i)) (xh_pret h (xh_ptrs h i)) (xh_pnums h (xh_ptrs h i)) (xh_prets h (xh_ptrs h i)) (mh_place g i) (mh_direction g i) (mh_quoted g i) (mh_sizes g i) (mh_returns g i) (fun j => mh_stacks g (24 * i + j)) (fun j => mh_back g (8 * i + j)) := by
  obtain ⟨n, hn, e1, e2, pt, inj, hpr⟩ := hQ
  unfold xf_P_livingPointer
  rw [e1, e2]
  by_cases h0 : v < 0
  · left
    rw [if_pos h0]
    exact ⟨rfl, Or.inl h0⟩
  · by_cases h1 : v < nI n
    · right
      obtain ⟨i, hi, rfl⟩ := nI_of h0
      rw [nqt (by omega) (by omega)] at h1
      refine ⟨i, by omega, rfl, h0, by rw [nql (by omega) (by omega)]; omega, pt i (by omega), ?_, (hpr i h1).2⟩
      rw [if_neg h0, if_pos (by rw [nqt (by omega) (by omega)]; exact h1), gd_nI (by omega) (by omega), Option.bind_some, gn_ok (pt i (by omega)), Option.bind_some]
      rfl
    · left
      rw [if_neg h0, if_neg h1]
      exact ⟨rfl, Or.inr (Int32.not_lt.mp h1)⟩
theorem ok_value : OK_value Rel := by
  intro h g hR v0 v1
  have hQ := hR.2.2.2.2.2.2.1
  have bad : xf_P_value v0 v1 h = some (Sum.inl 1) → mf_M_value v0 v1 g = some (0, ms_vfault g 1) → ∃ (fx fm : Nat) (r : Int64 × MH), mf_M_value v0 v1 g = some r ∧ ((∃ q : Int64, xf_P_value v0 v1 h = some (Sum.inr q) ∧ mh_vfault r.2 = 0 ∧ q = r.1 ∧ Rel h r.2) ∨ (xf_P_value v0 v1 h = some (Sum.inl 1) ∧ mh_vfault r.2 = 1 ∧ Rel h r.2)) := fun a b => ⟨0, 0, _, b, Or.inr ⟨a, rfl, Rel_fault hR 1⟩⟩
  have j20 : mf_M_value_J20 v0 v1 g = some (0, ms_vfault g 1) := by
    unfold mf_M_value_J20 mf_M_value_J21
    rw [if_pos rfl]
    unfold mf_M_value_J40 mf_M_value_J41
    rw [if_pos rfl]
    unfold mf_M_value_J52
    rw [refused_1, if_neg (show ¬ (1 : Int32) = 0 by decide)]
  rcases ptr_ok hQ v0 with ⟨e, hc⟩ | ⟨i, hi, hv0, h0, hlv, hk, e, w, d, r, hw, hd, hr, pw, pl, di, qu, pd, si, hst, -⟩
  · refine bad ?_ ?_
    · unfold xf_P_value
      rw [e]
      rfl
    · unfold mf_M_value
      by_cases h0 : v0 < 0
      · rw [if_pos h0, j20]
      · rw [if_neg h0, if_pos (hc.resolve_left h0), j20]
  · have hx : xf_P_value v0 v1 h = if v1 < 0 then some (Sum.inl 1) else if v1 < xh_pdepth h (xh_ptrs h i) then ((xf_Ptr_fromTop (xh_ptrs h i) v1.toInt64 h).bind fun q3 => some (q3)).map Sum.inr else some (Sum.inl 1) := by
      unfold xf_P_value
      rw [e]
      show (gn 4 (xh_ptrs h i)).bind _ = _
      rw [gn_ok hk]
      rfl
    by_cases h1 : v1 < 0
    · refine bad ?_ ?_
      · rw [hx, if_pos h1]
      · unfold mf_M_value
        rw [if_neg h0, if_neg hlv, if_pos h1, j20]
    · obtain ⟨j, hj, rfl⟩ := nI_of h1
      by_cases h2 : j < d
      · refine ⟨0, 0, (mh_stacks g (24 * i + (d - 1 - j)), ms_vfault g 0), ?_, Or.inl ⟨mh_stacks g (24 * i + (d - 1 - j)), ?_, rfl, rfl, Rel_fault hR 0⟩⟩
        · unfold mf_M_value
          rw [if_neg h0, if_neg hlv, if_neg h1]
          unfold mf_M_value_J21
          rw [if_neg (show ¬ (1 : Int32) = 0 by decide), hv0, gd_nI (by omega) (by omega), Option.bind_some, si, if_neg (by rw [nql (by omega) (by omega)]; omega)]
          unfold mf_M_value_J41
          rw [if_neg (show ¬ (1 : Int32) = 0 by decide)]
          unfold mf_M_value_J52
          rw [refused_0, if_pos rfl, gd_nI (by omega) (by omega), Option.bind_some]
          rw [show mh_sizes (0, ms_vfault g 0).2 i = nI d from si, show (24 : Int32) = nI 24 from rfl, pk_mul, nI_add, li_1, pk_sub (by omega), pk_sub (by omega), gd_nI (by omega) (by omega), Option.bind_some, show 24 * i + d - 1 - j = 24 * i + (d - 1 - j) by omega]
          rfl
        · rw [hx, if_neg h1, pd, if_pos (by rw [nqt (by omega) (by omega)]; exact h2)]
          unfold xf_Ptr_fromTop
          rw [nI_l (by omega), pd, nI_l (by omega), if_neg (by rw [lg_lt, show (0 : Int64) = lN 0 from rfl, lN_lt (by omega) (by omega)]; omega), if_neg (by rw [lg_ge, lN_lt (by omega) (by omega)]; omega), lN_i, li_1, pk_sub (by omega), pk_sub (by omega), gd_nI (by omega) (by omega), Option.bind_some, hst _ (by omega)]
          rfl
      · refine bad ?_ ?_
        · rw [hx, if_neg h1, pd, if_neg (by rw [nqt (by omega) (by omega)]; exact h2)]
        · unfold mf_M_value
          rw [if_neg h0, if_neg hlv, if_neg h1]
          unfold mf_M_value_J21
          rw [if_neg (show ¬ (1 : Int32) = 0 by decide), hv0, gd_nI (by omega) (by omega), Option.bind_some, si, if_pos (by rw [nql (by omega) (by omega)]; omega)]
          unfold mf_M_value_J40 mf_M_value_J41
          rw [if_pos rfl]
          unfold mf_M_value_J52
          rw [refused_1, if_neg (show ¬ (1 : Int32) = 0 by decide)]
