/-! lost places, counts, the beginning: the whole -/
theorem Rel_S {h : XH} {g : MH} {sz : Int32} {mk fd cm : Nat → Int32} (hR : Rel h g) : Rel (SX h sz mk fd) (mz_come g cm) := by
  unfold Rel at *
  simp only [SX_get, gmz_come]
  exact hR
theorem Rel_C {h : XH} {g : MH} {cm : Nat → Int32} (hR : Rel h g) : Rel h (mz_come g cm) := by
  unfold Rel at *
  simp only [gmz_come]
  exact hR
theorem isL_L {F p : Nat} {g : MH} {cm : Nat → Int32} (hp : p < 96) : ∀ (r j : Nat), j + r = 8 → ∀ b : Int32, (b = 0 ∨ b = 1) → ∀ m, r < m → ∃ b' : Int32, mf_M_isLost_L19 F m (nI p) b (nI j) (mz_come g cm) = some b' ∧ (b' = 0 ∨ b' = 1) ∧ (b' = 1 ↔ b = 1 ∧ ∀ t, j ≤ t → t < 8 → cm (8 * p + t) = 0) := by
  intro r
  induction r with
  | zero =>
    intro j hj b hb m hm
    obtain ⟨m, rfl⟩ : ∃ q, m = q + 1 := ⟨m - 1, by omega⟩
    refine ⟨b, ?_, hb, fun h => ⟨h, fun t h1 h2 => absurd h2 (by omega)⟩, fun h => h.1⟩
    rw [mf_M_isLost_L19, if_pos (show (8 : Int32) ≤ nI j by rw [li_8, nql (by omega) (by omega)]; omega)]
    rcases hb with h | h <;> rw [h] <;> rfl
  | succ r ih =>
    intro j hj b hb m hm
    obtain ⟨m, rfl⟩ : ∃ q, m = q + 1 := ⟨m - 1, by omega⟩
    rw [mf_M_isLost_L19, if_neg (show ¬ (8 : Int32) ≤ nI j by rw [li_8, nql (by omega) (by omega)]; omega)]
    unfold mf_M_isLost_J47 mf_M_isLost_J48
    rw [nI_1]
    rcases hb with h | h
    · rw [if_pos h]
      obtain ⟨b', a1, a2, a3⟩ := ih (j + 1) (by omega) 0 (Or.inl rfl) m (by omega)
      refine ⟨b', a1, a2, fun h1 => absurd (a3.mp h1).1 (by decide), fun h1 => ?_⟩
      rw [h] at h1
      exact absurd h1.1 (by decide)
    · rw [if_neg (show ¬ b = 0 by rw [h]; decide), li_8, pk_mul, nI_add, gd_nI (show 8 * p + j < 768 by omega) (by omega), Option.bind_some, show mh_come (mz_come g cm) = cm from rfl]
      by_cases h0 : cm (8 * p + j) = 0
      · rw [if_pos h0]
        obtain ⟨b', a1, a2, a3⟩ := ih (j + 1) (by omega) 1 (Or.inr rfl) m (by omega)
        refine ⟨b', a1, a2, fun h1 => ⟨h, fun t h2 h3 => ?_⟩, fun h1 => a3.mpr ⟨rfl, fun t h2 h3 => h1.2 t (by omega) h3⟩⟩
        by_cases h4 : t = j
        · rw [h4]; exact h0
        · exact (a3.mp h1).2 t (by omega) h3
      · rw [if_neg h0]
        obtain ⟨b', a1, a2, a3⟩ := ih (j + 1) (by omega) 0 (Or.inl rfl) m (by omega)
        exact ⟨b', a1, a2, fun h1 => absurd (a3.mp h1).1 (by decide), fun h1 => absurd (h1.2 j (Nat.le_refl _) (by omega)) h0⟩
theorem isLost_ok {F p : Nat} {g : MH} {cm : Nat → Int32} (hFu : 10 < F) (hp : p < 96) : ∃ b' : Int32, mf_M_isLost F (nI p) (mz_come g cm) = some b' ∧ (b' = 0 ∨ b' = 1) ∧ (b' = 1 ↔ mh_field g p ≠ 32 ∧ ∀ t, t < 8 → cm (8 * p + t) = 0) := by
  unfold mf_M_isLost mf_M_isLost_J16
  rw [gd_nI hp (by omega), Option.bind_some, show mh_field (mz_come g cm) = mh_field g from rfl]
  by_cases h : mh_field g p = 32
  · rw [if_pos h]
    obtain ⟨b', a1, a2, a3⟩ := isL_L (F := F) (g := g) (cm := cm) hp 8 0 (by omega) 0 (Or.inl rfl) F (by omega)
    exact ⟨b', a1, a2, fun h1 => absurd (a3.mp h1).1 (by decide), fun h1 => absurd h h1.1⟩
  · rw [if_neg h]
    obtain ⟨b', a1, a2, a3⟩ := isL_L (F := F) (g := g) (cm := cm) hp 8 0 (by omega) 1 (Or.inr rfl) F (by omega)
    exact ⟨b', a1, a2, fun h1 => ⟨h, fun t ht => (a3.mp h1).2 t (by omega) ht⟩, fun h1 => a3.mpr ⟨rfl, fun t _ ht => h1.2 t ht⟩⟩
theorem i32_zero {a : Int32} (h : ∀ j, j < 32 → mbit a j = false) : a = 0 := by
  apply Int32.toBitVec_inj.mp
  apply BitVec.eq_of_getLsbD_eq
  intro i hi
  have e : (0 : Int32).toBitVec.getLsbD i = false := mbit_0 (j := i)
  rw [e]
  exact h i hi
theorem mk_zero {mk met cm Fd : Nat → Int32} {p : Nat} (hp : p < 96) (h1 : MK mk met) (h2 : Mz mk) (h3 : ∀ v, v < 768 → (met v ≠ 0 ↔ RC Fd v)) (h4 : ∀ v, v < 768 → (cm v ≠ 0 ↔ RC Fd v)) : mk p = 0 ↔ ∀ t, t < 8 → cm (8 * p + t) = 0 := by
  have hb : ∀ t, t < 8 → (mbit (mk p) t = false ↔ cm (8 * p + t) = 0) := fun t ht => by
    have hv : 8 * p + t < 768 := by omega
    have e := h1 (8 * p + t) hv
    rw [show (8 * p + t) / 8 = p by omega, show (8 * p + t) % 8 = t by omega] at e
    have e2 := (h3 _ hv).trans (h4 _ hv).symm
    rw [e] at e2
    cases hm : mbit (mk p) t
    · rw [hm] at e2
      refine ⟨fun _ => ?_, fun _ => rfl⟩
      by_cases hz : cm (8 * p + t) = 0
      · exact hz
      · exact absurd rfl (e2.mpr hz)
    · rw [hm] at e2
      refine ⟨fun h => absurd h (by decide), fun h => ?_⟩
      exact absurd h (e2.mp (by decide))
  constructor
  · intro h t ht
    rw [← hb t ht, h]
    exact mbit_0
  · intro h
    refine i32_zero (fun j hj => ?_)
    by_cases h8 : j < 8
    · exact (hb j h8).mpr (h j h8)
    · exact h2 p hp j (by omega) hj
theorem cameTo_ok {p : Nat} {h : XH} {sz : Int32} {mk fd : Nat → Int32} (hp : p < 96) : xf_Search_cameTo (nI p) (SX h sz mk fd) = some (if mk p = 0 then 0 else 1) := by
  unfold xf_Search_cameTo
  rw [gd_nI hp (by omega), Option.bind_some, show xh_smarks (SX h sz mk fd) = mk from rfl]
  split <;> rfl
theorem ok_lost : OK_lost Rel := by
  intro h g hR v0 v1
  rcases place_ok v0 v1 with ⟨e1, e2⟩ | ⟨x, y, hx, hy, e0, e00, e1, e2, e3⟩
  · refine ⟨0, 0, (0, ms_vfault g 1), ?_, Or.inr ⟨?_, rfl, Rel_fault hR 1⟩⟩
    · unfold mf_M_lost
      rw [if_pos e2]
      rfl
    · unfold xf_P_lost
      rw [e1]
      rfl
  · have hp : 12 * y + x < 96 := by omega
    generalize 12 * y + x = p at *
    have key : ∀ F, 1000 < F → ∃ r : Int32 × MH, mf_M_lost F v0 v1 g = some r ∧ ∃ q : Int32 × XH, xf_P_lost F v0 v1 h = some (Sum.inr q) ∧ mh_vfault (r.2) = 0 ∧ (q.1 = 0 ↔ r.1 = 0) ∧ Rel (q.2) (r.2) := by
      intro F hF
      have hRF := hR.1
      obtain ⟨cm, a1, a2⟩ := findWays_ok (F := F) (g := ms_vfault g 0) (by omega) (fun q hq => (hRF q hq).2)
      obtain ⟨b, b1, b2, b3⟩ := isLost_ok (F := F) (g := ms_vfault g 0) (cm := cm) (by omega) hp
      obtain ⟨met, mk, fd, s, c1, c2, c3, c4⟩ := explore_ok (F := F) (h := h) (Fd := mh_field g) (by omega) hRF
      have hm : mf_M_lost F v0 v1 g = some (b, mz_come (ms_vfault g 0) cm) := by
        unfold mf_M_lost
        rw [if_neg (show ¬ mf_M_isPlace v0 v1 = 0 by rw [e2]; decide)]
        unfold mf_M_lost_J14
        rw [show mf_M_refused 0 g = ((0 : Int32), ms_vfault g 0) from rfl, if_pos rfl, a1, Option.bind_some, e3, b1, Option.bind_some]
        rcases b2 with h9 | h9 <;> rw [h9] <;> rfl
      refine ⟨_, hm, ?_⟩
      have hx0 : xf_P_lost F v0 v1 h = ((gd 96 (nI p)).bind fun j2 => if (xh_signs h j2) = (32 : Int32) then some (((0 : Int32), h)) else (xf_Search_explore F h).bind fun q3 => (xf_Search_cameTo (nI p) q3).bind fun q4 => if q4 = 0 then some (((1 : Int32), q3)) else some (((0 : Int32), q3))).map Sum.inr := by
        unfold xf_P_lost
        rw [e1]
        rfl
      rw [hx0, gd_nI hp (by omega), Option.bind_some]
      have hsg : xh_signs h p = mh_field g p := (hRF p hp).1
      have b3' : b = 1 ↔ mh_field g p ≠ 32 ∧ ∀ t, t < 8 → cm (8 * p + t) = 0 := b3
      by_cases h32 : xh_signs h p = 32
      · rw [if_pos h32]
        have hb0 : b = 0 := b2.resolve_right (fun h9 => (b3'.mp h9).1 (hsg.symm.trans h32))
        refine ⟨(0, h), rfl, rfl, ⟨fun _ => hb0, fun _ => rfl⟩, Rel_C (Rel_fault hR 0)⟩
      · rw [if_neg h32, c1, Option.bind_some, cameTo_ok hp, Option.bind_some]
        have hz := mk_zero (Fd := mh_field g) hp c2 c3 c4 a2
        by_cases h0 : mk p = 0
        · rw [if_pos h0, if_pos rfl]
          have hb1 : b = 1 := b3'.mpr ⟨fun h9 => h32 (hsg.trans h9), hz.mp h0⟩
          refine ⟨(1, SX h (nI s) mk fd), rfl, rfl, ?_, Rel_S (Rel_fault hR 0)⟩
          show ((1 : Int32) = 0) ↔ (b = 0)
          rw [hb1]
        · rw [if_neg h0, if_neg (show ¬ (1 : Int32) = 0 by decide)]
          have hb0 : b = 0 := b2.resolve_right (fun h9 => h0 (hz.mpr (b3'.mp h9).2))
          refine ⟨(0, SX h (nI s) mk fd), rfl, rfl, ⟨fun _ => hb0, fun _ => rfl⟩, Rel_S (Rel_fault hR 0)⟩
    obtain ⟨r, k1, k2⟩ := key 2000 (by omega)
    exact ⟨2000, 2000, r, k1, Or.inl k2⟩
theorem lostL_ok {F : Nat} {h : XH} {g : MH} {sz : Int32} {mk met fd cm : Nat → Int32} (hFu : 100 < F) (hRF : RF (xh_signs h) (mh_field g)) (h1 : MK mk met) (h2 : Mz mk) (h3 : ∀ v, v < 768 → (met v ≠ 0 ↔ RC (mh_field g) v)) (h4 : ∀ v, v < 768 → (cm v ≠ 0 ↔ RC (mh_field g) v)) : ∀ (r p : Nat), p + r = 96 → ∀ (c : Int32) (m m' : Nat), r < m → r < m' → ∃ c' : Int32, xf_P_lostPlaces_L18 F m c (nI p) (SX h sz mk fd) = some (c', SX h sz mk fd) ∧ mf_M_lostAll_L8 F m' c (nI p) (mz_come g cm) = some (c', mz_come g cm) := by
  intro r
  induction r with
  | zero =>
    intro p hp c m m' hm hm'
    obtain ⟨m, rfl⟩ : ∃ q, m = q + 1 := ⟨m - 1, by omega⟩
    obtain ⟨m', rfl⟩ : ∃ q, m' = q + 1 := ⟨m' - 1, by omega⟩
    have e : (96 : Int32) ≤ nI p := by rw [li_96, nql (by omega) (by omega)]; omega
    exact ⟨c, by rw [xf_P_lostPlaces_L18, if_pos e], by rw [mf_M_lostAll_L8, if_pos e]⟩
  | succ r ih =>
    intro p hp c m m' hm hm'
    obtain ⟨m, rfl⟩ : ∃ q, m = q + 1 := ⟨m - 1, by omega⟩
    obtain ⟨m', rfl⟩ : ∃ q, m' = q + 1 := ⟨m' - 1, by omega⟩
    have hp' : p < 96 := by omega
    have e : ¬ (96 : Int32) ≤ nI p := by rw [li_96, nql (by omega) (by omega)]; omega
    obtain ⟨b, b1, b2, b3⟩ := isLost_ok (F := F) (g := g) (cm := cm) (by omega) hp'
    have hsg : xh_signs h p = mh_field g p := (hRF p hp').1
    have hz := mk_zero (Fd := mh_field g) hp' h1 h2 h3 h4
    have stay : b = 0 → mf_M_lostAll_L8 F (m' + 1) c (nI p) (mz_come g cm) = mf_M_lostAll_L8 F m' c (nI (p + 1)) (mz_come g cm) := fun hb => by
      rw [mf_M_lostAll_L8, if_neg e, b1, Option.bind_some, if_pos hb]
      unfold mf_M_lostAll_J29
      rw [nI_1]
    have more : b = 1 → mf_M_lostAll_L8 F (m' + 1) c (nI p) (mz_come g cm) = mf_M_lostAll_L8 F m' (c + 1) (nI (p + 1)) (mz_come g cm) := fun hb => by
      rw [mf_M_lostAll_L8, if_neg e, b1, Option.bind_some, if_neg (show ¬ b = 0 by rw [hb]; decide)]
      unfold mf_M_lostAll_J29
      rw [nI_1]
    rw [xf_P_lostPlaces_L18, if_neg e, gd_nI hp' (by omega), Option.bind_some, show xh_signs (SX h sz mk fd) = xh_signs h from rfl]
    unfold xf_P_lostPlaces_J52
    rw [nI_1, cameTo_ok hp', Option.bind_some]
    by_cases h32 : xh_signs h p = 32
    · rw [if_pos h32, stay (b2.resolve_right (fun h9 => (b3.mp h9).1 (hsg.symm.trans h32)))]
      exact ih (p + 1) (by omega) c m m' (by omega) (by omega)
    · rw [if_neg h32]
      by_cases h0 : mk p = 0
      · rw [if_pos h0, if_pos rfl, more (b3.mpr ⟨fun h9 => h32 (hsg.trans h9), hz.mp h0⟩)]
        exact ih (p + 1) (by omega) (c + 1) m m' (by omega) (by omega)
      · rw [if_neg h0, if_neg (show ¬ (1 : Int32) = 0 by decide), stay (b2.resolve_right (fun h9 => h0 (hz.mpr (b3.mp h9).2)))]
        exact ih (p + 1) (by omega) c m m' (by omega) (by omega)
theorem ok_count : OK_count Rel := by
  intro h g hR v0
  have key : ∀ F, 1000 < F → ∃ (r : Int32 × MH) (q : Int32 × XH), mf_M_count F v0 g = some r ∧ xf_P_count F v0 h = some q ∧ q.1 = r.1 ∧ Rel (q.2) (r.2) := by
    intro F hF
    have hR0 := Rel_fault hR 0
    have hR1 := hR
    obtain ⟨hRF, hT, hO, hW, ⟨n1, n2, i1, i2, i3, i4, i5, i6, -⟩, ⟨s1, s2, s3⟩, ⟨n, n4, p1, p2, -⟩, nb, k1, k2, k3, k4, -⟩ := hR1
    unfold mf_M_count xf_P_count
    rw [Option.bind_some]
    by_cases h0 : v0 = 0
    · rw [if_pos h0, if_pos h0]
      exact ⟨_, _, rfl, rfl, p1.trans p2.symm, hR0⟩
    rw [if_neg h0, if_neg h0]
    by_cases h1 : v0 = 1
    · rw [if_pos h1, if_pos h1]
      exact ⟨_, _, rfl, rfl, s3, hR0⟩
    rw [if_neg h1, if_neg h1]
    by_cases h2 : v0 = 2
    · rw [if_pos h2, if_pos h2]
      exact ⟨_, _, rfl, rfl, k2.trans k3.symm, hR0⟩
    rw [if_neg h2, if_neg h2]
    by_cases h3 : v0 = 3
    · rw [if_pos h3, if_pos h3]
      exact ⟨_, _, rfl, rfl, k4, hR0⟩
    rw [if_neg h3, if_neg h3]
    by_cases h4 : v0 = 4
    · rw [if_pos h4, if_pos h4]
      refine ⟨_, _, rfl, rfl, ?_, hR0⟩
      show xh_given h - xh_read h = mh_vinputs g - mh_vread g
      rw [i3, i4, i5, i6]
    rw [if_neg h4, if_neg h4]
    by_cases h5 : v0 = 5
    · rw [if_pos h5, if_pos h5, state_ok (by omega) hR0, Option.bind_some]
      exact ⟨_, _, rfl, rfl, rfl, hR0⟩
    rw [if_neg h5, if_neg h5]
    by_cases h6 : v0 = 6
    · rw [if_pos h6, if_pos h6]
      obtain ⟨cm, a1, a2⟩ := findWays_ok (F := F) (g := ms_vfault g 0) (by omega) (fun q hq => (hRF q hq).2)
      obtain ⟨met, mk, fd, s, c1, c2, c3, c4⟩ := explore_ok (F := F) (h := h) (Fd := mh_field g) (by omega) hRF
      obtain ⟨c', d1, d2⟩ := lostL_ok (F := F) (h := h) (g := ms_vfault g 0) (sz := nI s) (fd := fd) (by omega) hRF c2 c3 c4 a2 96 0 (by omega) 0 F F (by omega) (by omega)
      have d1' : xf_P_lostPlaces F h = some (c', SX h (nI s) mk fd) := by
        unfold xf_P_lostPlaces
        rw [c1, Option.bind_some]
        exact d1
      have d2' : mf_M_lostAll F (ms_vfault g 0) = some (c', mz_come (ms_vfault g 0) cm) := by
        unfold mf_M_lostAll
        rw [a1, Option.bind_some]
        exact d2
      rw [d1', d2', Option.bind_some, Option.bind_some]
      exact ⟨_, _, rfl, rfl, rfl, Rel_S hR0⟩
    rw [if_neg h6, if_neg h6]
    exact ⟨_, _, rfl, rfl, rfl, hR0⟩
  obtain ⟨r, q, k⟩ := key 2000 (by omega)
  exact ⟨2000, 2000, r, q, k⟩
theorem Rel_begin : ∃ (fuel : Nat) (g1 : MH), mf_M_blank fuel mh0 = some g1 ∧ Rel xh0 g1 := by
  obtain ⟨f, hf, f1, -⟩ := blank_ok 97 96 0 rfl 97 (by omega) mh0
  refine ⟨97, mz_field mh0 f, hf, ?_⟩
  refine ⟨fun i hi => ?_, ⟨0, by omega, rfl, rfl, fun i hi => absurd hi (by omega)⟩, ⟨0, by omega, rfl, rfl, fun i hi => absurd hi (by omega)⟩, ⟨0, by omega, rfl, rfl, fun i hi => absurd hi (by omega)⟩, ⟨0, 0, by omega, by omega, rfl, rfl, rfl, rfl, fun i hi => absurd hi (by omega)⟩, ⟨rfl, Or.inl rfl, rfl⟩, ⟨0, by omega, rfl, rfl, fun i hi => hi, fun i j _ _ h => h, fun i hi => absurd hi (by omega)⟩, ⟨0, by omega, rfl, rfl, rfl, fun i hi => hi, fun i j _ _ h => h, fun i hi => absurd hi (by omega), fun i j hi => absurd hi (by omega)⟩⟩
  show wpf 96 i = f i ∧ SG (f i)
  rw [f1 i hi (by omega)]
  refine ⟨?_, SG_32⟩
  unfold wpf
  rw [if_pos hi]
theorem pure_all : ∃ (Rel : XH → MH → Prop), OKS Rel ∧ ∃ (fuel : Nat) (g1 : MH), mf_M_blank fuel mh0 = some g1 ∧ Rel xh0 g1 :=
  ⟨Rel, ⟨ok_put, ok_sign, ok_type, ok_lay, ok_input, ok_clear, ok_start, ok_step, ok_fast, ok_pointer, ok_value, ok_count, ok_covers, ok_block, ok_lost, ok_output, ok_length, ok_charAt⟩, Rel_begin⟩
