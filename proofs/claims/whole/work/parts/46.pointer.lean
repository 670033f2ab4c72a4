theorem ok_pointer : OK_pointer Rel := by
  intro h g hR v0 v1
  have hQ := hR.2.2.2.2.2.2.1
  have j41 : mf_M_pointer_J41 v0 v1 2 g = some (0, ms_vfault g 2) := by
    unfold mf_M_pointer_J41
    rw [refused_2, if_neg (show ¬ (1 : Int32) = 0 by decide)]
  rcases ptr_ok hQ v0 with ⟨e, hc⟩ | ⟨i, hi, hv0, h0, hlv, hk, e, w, d, r, hw, hd, hr, pw, pl, di, qu, pd, si, hst, pr, re, -⟩
  · refine ⟨0, 0, (0, ms_vfault g 1), ?_, Or.inr (Or.inl ⟨?_, rfl, Rel_fault hR 1⟩)⟩
    · have j16 : mf_M_pointer_J16 v0 v1 g = some (0, ms_vfault g 1) := by
        unfold mf_M_pointer_J16 mf_M_pointer_J17
        rw [if_pos rfl]
        unfold mf_M_pointer_J41
        rw [refused_1, if_neg (show ¬ (1 : Int32) = 0 by decide)]
      unfold mf_M_pointer
      by_cases h0 : v0 < 0
      · rw [if_pos h0, j16]
      · rw [if_neg h0, if_pos (hc.resolve_left h0), j16]
    · unfold xf_P_pointer
      rw [e]
      rfl
  · have hx : ∀ R, (gn 4 (xh_ptrs h i)).bind (fun _ => R) = R := fun (R : Option (Nat ⊕ Int32)) => by rw [gn_ok hk]; rfl
    have hm : mf_M_pointer v0 v1 g = mf_M_pointer_J17 v0 v1 1 g := by
      unfold mf_M_pointer
      rw [if_neg h0, if_neg hlv]
    have hxx : xf_P_pointer v0 v1 h = if v1 = (0 : Int32) then some (Sum.inr (nI (w / 8 % 12))) else if v1 = (1 : Int32) then some (Sum.inr (nI (w / 8 / 12))) else if v1 = (2 : Int32) then some (Sum.inr (nI (w / 2 % 4))) else if v1 = (3 : Int32) then some (Sum.inr (nI (w % 2))) else if v1 = (4 : Int32) then some (Sum.inr (nI d)) else if v1 = (5 : Int32) then some (Sum.inr (nI r)) else some (Sum.inl 2) := by
      unfold xf_P_pointer
      rw [e]
      show (gn 4 (xh_ptrs h i)).bind _ = _
      rw [gn_ok hk, Option.bind_some, pw, wy_place w hw, wy_dir w hw, wy_quo w hw, pd, pr, rm12 (by omega), dv12 (by omega)]
      rfl
    have good : ∀ (a : Int32), ¬ v1 < 0 → v1 ≤ 5 → xf_P_pointer v0 v1 h = some (Sum.inr a) → mf_M_pointer_J41 v0 v1 0 g = some (a, ms_vfault g 0) → ∃ (fx fm : Nat) (r : Int32 × MH), mf_M_pointer v0 v1 g = some r ∧ ((∃ q : Int32, xf_P_pointer v0 v1 h = some (Sum.inr q) ∧ mh_vfault r.2 = 0 ∧ q = r.1 ∧ Rel h r.2) ∨ (xf_P_pointer v0 v1 h = some (Sum.inl 1) ∧ mh_vfault r.2 = 1 ∧ Rel h r.2) ∨ (xf_P_pointer v0 v1 h = some (Sum.inl 2) ∧ mh_vfault r.2 = 2 ∧ Rel h r.2)) := fun a n1 n2 b c => ⟨0, 0, _, by
      rw [hm]
      unfold mf_M_pointer_J17
      rw [if_neg (show ¬ (1 : Int32) = 0 by decide), if_neg n1, if_pos n2]
      exact c, Or.inl ⟨a, b, rfl, rfl, Rel_fault hR 0⟩⟩
    have g8 : gd 8 (nI i) = some i := gd_nI (by omega) (by omega)
    by_cases c0 : v1 = 0
    · subst c0
      refine good (nI (w / 8 % 12)) (by decide) (by decide) (by rw [hxx]; rfl) ?_
      unfold mf_M_pointer_J41
      rw [refused_0, if_pos rfl, if_pos rfl, hv0, g8, Option.bind_some, show mh_place (0, ms_vfault g 0).2 i = nI (w / 8) from pl, rm12 (by omega)]
    by_cases c1 : v1 = 1
    · subst c1
      refine good (nI (w / 8 / 12)) (by decide) (by decide) (by rw [hxx]; rfl) ?_
      unfold mf_M_pointer_J41
      rw [refused_0, if_pos rfl, if_neg (by decide), if_pos rfl, hv0, g8, Option.bind_some, show mh_place (0, ms_vfault g 0).2 i = nI (w / 8) from pl, dv12 (by omega)]
    by_cases c2 : v1 = 2
    · subst c2
      refine good (nI (w / 2 % 4)) (by decide) (by decide) (by rw [hxx]; rfl) ?_
      unfold mf_M_pointer_J41
      rw [refused_0, if_pos rfl, if_neg (by decide), if_neg (by decide), if_pos rfl, hv0, g8, Option.bind_some, show mh_direction (0, ms_vfault g 0).2 i = _ from di]
    by_cases c3 : v1 = 3
    · subst c3
      refine good (nI (w % 2)) (by decide) (by decide) (by rw [hxx]; rfl) ?_
      unfold mf_M_pointer_J41
      rw [refused_0, if_pos rfl, if_neg (by decide), if_neg (by decide), if_neg (by decide), if_pos rfl, hv0, g8, Option.bind_some, show mh_quoted (0, ms_vfault g 0).2 i = _ from qu]
      rcases (show w % 2 = 0 ∨ w % 2 = 1 by omega) with hq | hq <;> rw [hq] <;> rfl
    by_cases c4 : v1 = 4
    · subst c4
      refine good (nI d) (by decide) (by decide) (by rw [hxx]; rfl) ?_
      unfold mf_M_pointer_J41
      rw [refused_0, if_pos rfl, if_neg (by decide), if_neg (by decide), if_neg (by decide), if_neg (by decide), if_pos rfl, hv0, g8, Option.bind_some, show mh_sizes (0, ms_vfault g 0).2 i = _ from si]
    by_cases c5 : v1 = 5
    · subst c5
      refine good (nI r) (by decide) (by decide) (by rw [hxx]; rfl) ?_
      unfold mf_M_pointer_J41
      rw [refused_0, if_pos rfl, if_neg (by decide), if_neg (by decide), if_neg (by decide), if_neg (by decide), if_neg (by decide), hv0, g8, Option.bind_some, show mh_returns (0, ms_vfault g 0).2 i = _ from re]
    · refine ⟨0, 0, (0, ms_vfault g 2), ?_, Or.inr (Or.inr ⟨?_, rfl, Rel_fault hR 2⟩)⟩
      · rw [hm]
        unfold mf_M_pointer_J17
        rw [if_neg (show ¬ (1 : Int32) = 0 by decide)]
        by_cases hn : v1 < 0
        · rw [if_pos hn]
          exact j41
        · rw [if_neg hn]
          obtain ⟨j, hj, rfl⟩ := nI_of hn
          have n0 : j ≠ 0 := fun h9 => c0 (by rw [h9]; rfl)
          have n1 : j ≠ 1 := fun h9 => c1 (by rw [h9]; rfl)
          have n2 : j ≠ 2 := fun h9 => c2 (by rw [h9]; rfl)
          have n3 : j ≠ 3 := fun h9 => c3 (by rw [h9]; rfl)
          have n4 : j ≠ 4 := fun h9 => c4 (by rw [h9]; rfl)
          have n5 : j ≠ 5 := fun h9 => c5 (by rw [h9]; rfl)
          rw [if_neg (show ¬ nI j ≤ (5 : Int32) by rw [li_5, nql (by omega) (by omega)]; omega)]
          exact j41
      · rw [hxx, if_neg c0, if_neg c1, if_neg c2, if_neg c3, if_neg c4, if_neg c5]
/-! blocks: which one begins on a way -/
theorem findX_ok {h : XH} {n : Nat} (hn : n ≤ 30) (hd : xh_held h = nI n) (rw0 : ∀ i, i < 30 → xh_row h i < 30) (mb : Nat → Int32) (hb : ∀ i, i < n → xh_bbegin h (xh_row h i) = mb i) (F : Nat) (w : Int32) : ∀ (r k : Nat), k + r = n → ∀ m, r < m → (∀ i, i < k → mb i ≠ w) →
    (xf_Blocks_find_L2 F m w (nI k) h = some none ∧ ∀ i, i < n → mb i ≠ w) ∨ ∃ i, i < n ∧ mb i = w ∧ xf_Blocks_find_L2 F m w (nI k) h = some (some (xh_row h i)) := by
  intro r
  induction r with
  | zero =>
    intro k hk m hm hno
    obtain ⟨m, rfl⟩ : ∃ q, m = q + 1 := ⟨m - 1, by omega⟩
    left
    unfold xf_Blocks_find_L2
    rw [hd, if_pos (by rw [nql (by omega) (by omega)]; omega)]
    exact ⟨rfl, fun i hi => hno i (by omega)⟩
  | succ r ih =>
    intro k hk m hm hno
    obtain ⟨m, rfl⟩ : ∃ q, m = q + 1 := ⟨m - 1, by omega⟩
    have e : xf_Blocks_find_L2 F (m + 1) w (nI k) h = if mb k = w then some (some (xh_row h k)) else xf_Blocks_find_L2 F m w (nI (k + 1)) h := by
      rw [xf_Blocks_find_L2, hd, if_neg (by rw [nql (by omega) (by omega)]; omega)]
      simp only [gd_nI (show k < 30 by omega) (show 30 < 2 ^ 31 by omega), Option.bind_some, gn_ok (rw0 k (by omega)), hb k (by omega), nI_1]
    by_cases hw : mb k = w
    · right
      exact ⟨k, by omega, hw, by rw [e, if_pos hw]⟩
    · rw [e, if_neg hw]
      exact ih (k + 1) (by omega) m (by omega) (fun i hi => by
        by_cases h9 : i = k
        · rw [h9]; exact hw
        · exact hno i (by omega))
theorem find_ok {h : XH} {g : MH} {n : Nat} (hn : n ≤ 30) (hd : xh_held h = nI n) (hv : mh_vblocks g = nI n) (rw0 : ∀ i, i < 30 → xh_row h i < 30) (hb : ∀ i, i < n → xh_bbegin h (xh_row h i) = mh_begins g i) (huq : ∀ i j, i < n → j < n → mh_begins g i = mh_begins g j → i = j) (w : Int32) :
    (xf_Blocks_find 31 w h = some none ∧ mf_M_findBlock 31 w g = some (-1) ∧ ∀ i, i < n → mh_begins g i ≠ w) ∨ ∃ i, i < n ∧ mh_begins g i = w ∧ xf_Blocks_find 31 w h = some (some (xh_row h i)) ∧ mf_M_findBlock 31 w g = some (nI i) := by
  have hm : ∀ (r k : Nat), k + r = n → ∀ m, r < m → ∀ a : Int32, ((∀ i, k ≤ i → i < n → mh_begins g i ≠ w) → mf_M_findBlock_L4 31 m w a (nI k) g = some a) ∧ ∀ i, k ≤ i → i < n → mh_begins g i = w → mf_M_findBlock_L4 31 m w a (nI k) g = some (nI i) := by
    intro r
    induction r with
    | zero =>
      intro k hk m hm a
      obtain ⟨m, rfl⟩ : ∃ q, m = q + 1 := ⟨m - 1, by omega⟩
      refine ⟨fun _ => ?_, fun i h1 h2 => by omega⟩
      rw [mf_M_findBlock_L4, hv, if_pos (by rw [nql (by omega) (by omega)]; omega)]
    | succ r ih =>
      intro k hk m hm a
      obtain ⟨m, rfl⟩ : ∃ q, m = q + 1 := ⟨m - 1, by omega⟩
      have e : mf_M_findBlock_L4 31 (m + 1) w a (nI k) g = if mh_begins g k = w then mf_M_findBlock_L4 31 m w (nI k) (nI (k + 1)) g else mf_M_findBlock_L4 31 m w a (nI (k + 1)) g := by
        rw [mf_M_findBlock_L4, hv, if_neg (by rw [nql (by omega) (by omega)]; omega), gd_nI (by omega) (by omega), Option.bind_some]
        unfold mf_M_findBlock_J27
        rw [nI_1]
      rw [e]
      refine ⟨fun hno => ?_, fun i h1 h2 h3 => ?_⟩
      · rw [if_neg (hno k (Nat.le_refl _) (by omega))]
        exact (ih (k + 1) (by omega) m (by omega) a).1 (fun i h1 h2 => hno i (by omega) h2)
      · by_cases hw : mh_begins g k = w
        · have hik : i = k := huq i k h2 (by omega) (h3.trans hw.symm)
          rw [if_pos hw, hik]
          exact (ih (k + 1) (by omega) m (by omega) (nI k)).1 (fun j h4 h5 h6 => by have := huq j k h5 (by omega) (h6.trans hw.symm); omega)
        · rw [if_neg hw]
          have hik : i ≠ k := fun h9 => hw (h9 ▸ h3)
          exact (ih (k + 1) (by omega) m (by omega) a).2 i (by omega) h2 h3
  have hm0 := hm n 0 (by omega) 31 (by omega) (-1)
  rcases findX_ok hn hd rw0 (mh_begins g) hb 31 w n 0 (by omega) 31 (by omega) (fun i hi => by omega) with ⟨h1, h2⟩ | ⟨i, h1, h2, h3⟩
  · left
    exact ⟨h1, hm0.1 (fun i _ h4 => h2 i h4), h2⟩
  · right
    exact ⟨i, h1, h2, h3, hm0.2 i (Nat.zero_le _) h1 h2⟩
theorem pth_lt {F : Nat → Int32} {w : Nat} (hw : w < 768) : ∀ {t : Nat}, pth F w t < 768
  | 0 => hw
  | t + 1 => bh_lt (pth_lt hw)
theorem ok_block : OK_block Rel := by
  intro h g hR v0 v1 v2 v3 v4
  obtain ⟨n, hn, hd, vb, dr, rw0, rinj, hbr, huq⟩ := hR.2.2.2.2.2.2.2
  generalize hz : (if v3 = 0 then (0 : Int32) else 1) = z
  have hz' : z = 0 ∨ z = 1 := by
    by_cases h9 : v3 = 0
    · rw [if_pos h9] at hz; exact Or.inl hz.symm
    · rw [if_neg h9] at hz; exact Or.inr hz.symm
  rcases place_ok v0 v1 with ⟨e1, e2⟩ | ⟨x, y, hx, hy, hv0, hv1, e1, e2, e3⟩
  · have hJ : ∀ w, mf_M_block_J25 31 v0 v1 v2 z v4 w g = some (0, ms_vfault g 1) := by
      intro w
      unfold mf_M_block_J25
      rw [e2, if_pos rfl]
      unfold mf_M_block_J50
      rw [refused_1, if_neg (show ¬ (1 : Int32) = 0 by decide)]
    refine ⟨31, 31, (0, ms_vfault g 1), ?_, Or.inr (Or.inl ⟨?_, rfl, Rel_fault hR 1⟩)⟩
    · unfold mf_M_block mf_M_block_J24
      rw [hJ, hJ]
      repeat' split
      all_goals rfl
    · unfold xf_P_block
      rw [e1]
      rfl
  · have hJ0 : mf_M_block_J25 31 v0 v1 v2 z v4 0 g = some (0, ms_vfault g 2) := by
      unfold mf_M_block_J25
      rw [e2, if_neg (show ¬ (1 : Int32) = 0 by decide), if_pos rfl]
      unfold mf_M_block_J50
      rw [refused_2, if_neg (show ¬ (1 : Int32) = 0 by decide)]
    have hx0 : xf_P_block 31 v0 v1 v2 z v4 h = if v2 < 0 then some (Sum.inl 2) else if (4 : Int32) ≤ v2 then some (Sum.inl 2) else if v4 < 0 then some (Sum.inl 2) else if v4 ≤ (4 : Int32) then (if z = 0 then xf_P_block_J54 31 v4 (nI (12 * y + x)) v2 (0 : Int32) h else xf_P_block_J54 31 v4 (nI (12 * y + x)) v2 (1 : Int32) h).map Sum.inr else some (Sum.inl 2) := by
      unfold xf_P_block
      rw [e1]
      rfl
    have hm0 : mf_M_block 31 v0 v1 v2 z v4 g = if v2 < 0 then some (0, ms_vfault g 2) else if (4 : Int32) ≤ v2 then some (0, ms_vfault g 2) else if v4 < 0 then some (0, ms_vfault g 2) else if (5 : Int32) ≤ v4 then some (0, ms_vfault g 2) else mf_M_block_J25 31 v0 v1 v2 z v4 1 g := by
      unfold mf_M_block mf_M_block_J24
      rw [hJ0]
    have bad : xf_P_block 31 v0 v1 v2 z v4 h = some (Sum.inl 2) → mf_M_block 31 v0 v1 v2 z v4 g = some (0, ms_vfault g 2) → ∃ (fx fm : Nat) (r : Int32 × MH), mf_M_block fm v0 v1 v2 z v4 g = some r ∧ ((∃ q : Int32, xf_P_block fx v0 v1 v2 z v4 h = some (Sum.inr q) ∧ mh_vfault r.2 = 0 ∧ q = r.1 ∧ Rel h r.2) ∨ (xf_P_block fx v0 v1 v2 z v4 h = some (Sum.inl 1) ∧ mh_vfault r.2 = 1 ∧ Rel h r.2) ∨ (xf_P_block fx v0 v1 v2 z v4 h = some (Sum.inl 2) ∧ mh_vfault r.2 = 2 ∧ Rel h r.2)) := fun a b => ⟨31, 31, _, b, Or.inr (Or.inr ⟨a, rfl, Rel_fault hR 2⟩)⟩
    by_cases c1 : v2 < 0
    · exact bad (by rw [hx0, if_pos c1]) (by rw [hm0, if_pos c1])
    by_cases c2 : (4 : Int32) ≤ v2
    · exact bad (by rw [hx0, if_neg c1, if_pos c2]) (by rw [hm0, if_neg c1, if_pos c2])
    by_cases c3 : v4 < 0
    · exact bad (by rw [hx0, if_neg c1, if_neg c2, if_pos c3]) (by rw [hm0, if_neg c1, if_neg c2, if_pos c3])
    obtain ⟨d, hd0, rfl⟩ := nI_of c1
    obtain ⟨k, hk0, rfl⟩ := nI_of c3
    have c2' : d < 4 := by rw [li_4, nql (by omega) (by omega)] at c2; omega
    by_cases c4 : k ≤ 4
    · rw [if_neg c1, if_neg c2, if_neg c3, if_neg (by rw [li_5, nql (by omega) (by omega)]; omega)] at hm0
      rw [if_neg c1, if_neg c2, if_neg c3, if_pos (by rw [li_4, nql (by omega) (by omega)]; omega)] at hx0
      obtain ⟨qz, hqz, hzq⟩ : ∃ q, q < 2 ∧ z = nI q := by
        rcases hz' with h9 | h9
        · exact ⟨0, by omega, h9⟩
        · exact ⟨1, by omega, h9⟩
      have hway := wy_of (12 * y + x) (by omega) d c2' qz hqz
      have hx1 : xf_P_block 31 v0 v1 (nI d) z (nI k) h = (xf_P_block_J54 31 (nI k) (nI (12 * y + x)) (nI d) (nI qz) h).map Sum.inr := by
        rw [hx0]
        rcases (show qz = 0 ∨ qz = 1 by omega) with h9 | h9 <;> subst h9 <;> rw [hzq]
        · rw [if_pos (show nI 0 = (0 : Int32) from rfl)]; rfl
        · rw [if_neg (show ¬ nI 1 = 0 by decide)]; rfl
      have hm1 : mf_M_block 31 v0 v1 (nI d) z (nI k) g = mf_M_block_J82 31 (nI k) (nI (8 * (12 * y + x) + 2 * d)) (nI qz) (ms_vfault g 0) := by
        rw [hm0]
        unfold mf_M_block_J25
        rw [e2, if_neg (show ¬ (1 : Int32) = 0 by decide), if_neg (show ¬ (1 : Int32) = 0 by decide)]
        unfold mf_M_block_J50
        rw [refused_0, if_pos rfl, e3, show (8 : Int32) = nI 8 from rfl, show (2 : Int32) = nI 2 from rfl, pk_mul, pk_mul, nI_add]
        rcases (show qz = 0 ∨ qz = 1 by omega) with h9 | h9 <;> subst h9 <;> rw [hzq]
        · rw [if_pos (show nI 0 = (0 : Int32) from rfl)]; rfl
        · rw [if_neg (show ¬ nI 1 = 0 by decide)]; rfl
      unfold xf_P_block_J54 at hx1
      unfold mf_M_block_J82 at hm1
      rw [hway] at hx1
      rw [nI_add] at hm1
      have hb : ∀ i, i < n → xh_bbegin h (xh_row h i) = mh_begins (ms_vfault g 0) i := fun i hi => by
        obtain ⟨w, z, -, -, -, b1, b2, -⟩ := hbr i hi
        exact b1.trans b2.symm
      rcases find_ok (g := ms_vfault g 0) hn hd vb rw0 hb huq (nI (8 * (12 * y + x) + 2 * d + qz)) with ⟨f1, f2, -⟩ | ⟨i, hi, f0, f1, f2⟩
      · refine ⟨31, 31, (-1, ms_vfault g 0), ?_, Or.inl ⟨-1, ?_, rfl, rfl, Rel_fault hR 0⟩⟩
        · rw [hm1, f2, Option.bind_some, if_neg (by decide)]
        · rw [hx1, f1, Option.bind_some]
          rfl
      · obtain ⟨w, z2, hw, hz1, hz2, b1, b2, b3, b4, b5, b6, -⟩ := hbr i hi
        have hp : pth (mh_field g) w z2 < 768 := pth_lt hw
        rw [f1, Option.bind_some] at hx1
        simp only [obr] at hx1
        rw [gn_ok (rw0 i (by omega)), Option.bind_some, b3, b5, wy_place _ hp, wy_dir _ hp, wy_quo _ hp, rm12 (by omega), dv12 (by omega)] at hx1
        rw [f2, Option.bind_some, if_pos (nI_pos' (by omega)), gd_nI (by omega) (by omega), Option.bind_some, Option.bind_some, show mh_lengths (ms_vfault g 0) i = _ from b4, show mh_behind (ms_vfault g 0) i = _ from b6, dv8 (by omega), rm12 (by omega), dv12 (by omega), rm2 (by omega), dv2 (by omega), rm4 (by omega)] at hm1
        have key : ∃ a : Int32, xf_P_block 31 v0 v1 (nI d) z (nI k) h = some (Sum.inr a) ∧ mf_M_block 31 v0 v1 (nI d) z (nI k) g = some (a, ms_vfault g 0) := by
          rw [hx1, hm1]
          rcases (show k = 0 ∨ k = 1 ∨ k = 2 ∨ k = 3 ∨ k = 4 by omega) with h9 | h9 | h9 | h9 | h9 <;> subst h9 <;> exact ⟨_, rfl, rfl⟩
        obtain ⟨a, k1, k2⟩ := key
        exact ⟨31, 31, _, k2, Or.inl ⟨a, k1, rfl, rfl, Rel_fault hR 0⟩⟩
    · refine bad ?_ ?_
      · rw [hx0, if_neg c1, if_neg c2, if_neg c3, if_neg (by rw [li_4, nql (by omega) (by omega)]; omega)]
      · rw [hm0, if_neg c1, if_neg c2, if_neg c3, if_pos (by rw [li_5, nql (by omega) (by omega)]; omega)]
