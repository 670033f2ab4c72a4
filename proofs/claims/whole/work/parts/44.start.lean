theorem gn_ok {n k : Nat} (h : k < n) : gn n k = some k := if_pos h
theorem ok_start : OK_start Rel := by
  intro h g hR
  obtain ⟨hF, hT, ⟨t, ht, eo1, eo2, hch⟩, hP, ⟨n, r, hn, hr, e1, e2, e3, e4, hnm⟩, ⟨hs1, hs2, hs3⟩, ⟨np, hnp, lv, vp, pt, inj, hpr⟩, hB⟩ := hR
  have hp0 := pt 0 (by omega)
  refine ⟨0, 0, ms_returns (ms_sizes (ms_quoted (ms_direction (ms_place (ms_lives (ms_vpointers (ms_vpointers (ms_vsteps (ms_vstopped (ms_vshown (ms_vread (ms_vfault g 0) 0) 0) 0) 0) 0) (0 + 1)) 0 (vp_nar .boolean 1)) 0 0) 0 0) 0 (vp_nar .boolean 0)) 0 0) 0 0, xf_Line_empty 0 (xs_stopped (xs_steps (xs_read (xs_living (xf_Ptr_begin (xh_ptrs h 0) (xf_Way_of 0 0 0) h) 1) 0) 0) 0), ?_, ?_, ?_⟩
  · unfold mf_M_start mf_M_born
    simp only [Option.bind_some, gm_vpointers, gm_vsteps, gm_vstopped, gm_vshown, gm_vread, gm_vfault, show gd 8 (0 : Int32) = some 0 from rfl]
  · unfold xf_P_start xf_Run_begin
    rw [show gd 4 (0 : Int32) = some 0 from rfl, Option.bind_some, gn_ok hp0]
    simp only [Option.bind_some]
  · unfold xf_Line_empty xf_Ptr_begin
    simp only [Rel, gx_lsize, gx_stopped, gx_steps, gx_read, gx_living, gx_pret, gx_pdepth, gx_pway, gm_returns, gm_sizes, gm_quoted, gm_direction, gm_place, gm_lives, gm_vpointers, gm_vsteps, gm_vstopped, gm_vshown, gm_vread, gm_vfault]
    refine ⟨hF, hT, ⟨0, by omega, up_eq, rfl, fun i hi => by omega⟩, hP, ⟨n, 0, hn, by omega, e1, e2, rfl, rfl, hnm⟩, ⟨rfl, Or.inl rfl, rfl⟩, ⟨1, by omega, rfl, rfl, pt, inj, fun i hi => ?_⟩, hB⟩
    have hi0 : i = 0 := by omega
    subst hi0
    refine ⟨up_eq, 0, 0, 0, by omega, by omega, by omega, up_eq, up_eq, up_eq, up_eq, up_eq, up_eq, fun j hj => by omega, up_eq, up_eq, fun j hj => by omega⟩
theorem wipe_ok (F : Nat) : ∀ (r k : Nat), k + r = 96 → ∀ (n : Nat), r < n → ∀ (h : XH), ∃ f, xf_Field_wipe_L2 F n (nI k) h = some (xz_signs h f) ∧ (∀ j, j < 96 → k ≤ j → f j = 32) ∧ ∀ j, j < k → f j = xh_signs h j := by
  intro r
  induction r with
  | zero =>
    intro k hk n hn h
    obtain ⟨n, rfl⟩ : ∃ m, n = m + 1 := ⟨n - 1, by omega⟩
    refine ⟨xh_signs h, ?_, fun j h1 h2 => by omega, fun j _ => rfl⟩
    unfold xf_Field_wipe_L2
    rw [if_pos (by rw [li_96, nql (by omega) (by omega)]; omega)]
    rfl
  | succ r ih =>
    intro k hk n hn h
    obtain ⟨n, rfl⟩ : ∃ m, n = m + 1 := ⟨n - 1, by omega⟩
    obtain ⟨f, hf, h1, h2⟩ := ih (k + 1) (by omega) n (by omega) (xs_signs h k (vp_nar .char 32))
    refine ⟨f, ?_, fun j hj hk => ?_, fun j hj => ?_⟩
    · unfold xf_Field_wipe_L2
      rw [if_neg (by rw [li_96, nql (by omega) (by omega)]; omega), gd_nI (by omega) (by omega), Option.bind_some, Option.bind_some, nI_1, hf]
      rfl
    · by_cases hjk : j = k
      · subst hjk
        rw [h2 j (by omega)]
        show va_up (xh_signs h) j (vp_nar .char 32) j = 32
        rw [up_eq]
        rfl
      · exact h1 j hj (by omega)
    · rw [h2 j (by omega)]
      show va_up (xh_signs h) k (vp_nar .char 32) j = _
      rw [up_ne (by omega)]
theorem blank_ok (F : Nat) : ∀ (r k : Nat), k + r = 96 → ∀ (n : Nat), r < n → ∀ (h : MH), ∃ f, mf_M_blank_L2 F n (nI k) h = some (mz_field h f) ∧ (∀ j, j < 96 → k ≤ j → f j = 32) ∧ ∀ j, j < k → f j = mh_field h j := by
  intro r
  induction r with
  | zero =>
    intro k hk n hn h
    obtain ⟨n, rfl⟩ : ∃ m, n = m + 1 := ⟨n - 1, by omega⟩
    refine ⟨mh_field h, ?_, fun j h1 h2 => by omega, fun j _ => rfl⟩
    unfold mf_M_blank_L2
    rw [if_pos (by rw [li_96, nql (by omega) (by omega)]; omega)]
    rfl
  | succ r ih =>
    intro k hk n hn h
    obtain ⟨n, rfl⟩ : ∃ m, n = m + 1 := ⟨n - 1, by omega⟩
    obtain ⟨f, hf, h1, h2⟩ := ih (k + 1) (by omega) n (by omega) (ms_field h k 32)
    refine ⟨f, ?_, fun j hj hk => ?_, fun j hj => ?_⟩
    · unfold mf_M_blank_L2
      rw [if_neg (by rw [li_96, nql (by omega) (by omega)]; omega), gd_nI (by omega) (by omega), Option.bind_some, Option.bind_some, nI_1, hf]
      rfl
    · by_cases hjk : j = k
      · subst hjk
        rw [h2 j (by omega)]
        show va_up (mh_field h) j 32 j = 32
        rw [up_eq]
      · exact h1 j hj (by omega)
    · rw [h2 j (by omega)]
      show va_up (mh_field h) k 32 j = _
      rw [up_ne (by omega)]
theorem SG_32 : SG 32 := SG_of (n := 32) (by omega) (by omega)
theorem ok_clear : OK_clear Rel := by
  intro h g hR
  obtain ⟨hF, hT, hO, hP, hI, hS, ⟨np, hnp, lv, vp, pt, inj, hpr⟩, ⟨nb, hnb, hd, vb, dr, rw0, rinj, hbr, huq⟩⟩ := hR
  obtain ⟨f, hf, f1, -⟩ := wipe_ok 97 96 0 rfl 97 (by omega) h
  obtain ⟨f', hf', f1', -⟩ := blank_ok 97 96 0 rfl 97 (by omega) (ms_vfault g 0)
  refine ⟨97, 97, ms_vdrops (ms_vblocks (ms_vsteps (ms_vstopped (ms_vpointers (ms_vshown (ms_vread (ms_vinputs (mz_field (ms_vfault g 0) f') 0) 0) 0) 0) 0) 0) 0) 0, xf_Run_forget (xf_Blocks_forget (xz_signs h f)), ?_, ?_, ?_⟩
  · unfold mf_M_clear mf_M_blank
    rw [Option.bind_some, show mf_M_blank_L2 97 97 0 (ms_vfault g 0) = _ from hf']
    rfl
  · unfold xf_P_clear xf_Field_wipe
    rw [show xf_Field_wipe_L2 97 97 0 h = _ from hf]
    rfl
  · unfold xf_Run_forget xf_Line_empty xf_Blocks_forget
    simp only [Rel, gx_lsize, gx_stopped, gx_steps, gx_read, gx_given, gx_living, gx_dropped, gx_held, gxz_signs, gm_vdrops, gm_vblocks, gm_vsteps, gm_vstopped, gm_vpointers, gm_vshown, gm_vread, gm_vinputs, gmz_field, gm_vfault]
    refine ⟨fun i hi => ?_, hT, ⟨0, by omega, up_eq, rfl, fun i hi => by omega⟩, hP, ⟨0, 0, by omega, by omega, rfl, rfl, rfl, rfl, fun i hi => by omega⟩, ⟨rfl, Or.inl rfl, rfl⟩, ⟨0, by omega, rfl, rfl, pt, inj, fun i hi => by omega⟩, ⟨0, by omega, rfl, rfl, rfl, rw0, rinj, fun i hi => by omega, fun i j hi => by omega⟩⟩
    rw [f1 i hi (by omega), f1' i hi (by omega)]
    exact ⟨rfl, SG_32⟩
