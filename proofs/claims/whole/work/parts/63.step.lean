/-! the step -/
theorem state_ok {F : Nat} {h : XH} {g : MH} (hF : 20 < F) (hR : Rel h g) : mf_M_stateNow F g = some (xf_Run_state h) := by
  obtain ⟨-, -, -, -, -, ⟨s1, s2, s3⟩, ⟨n, n4, e1, e2, p5, p6, p7⟩, -⟩ := hR
  have hc : cnt (mh_lives g) n = n := cnt_all (fun y hy => (p7 y (by omega)).1)
  unfold mf_M_stateNow xf_Run_state
  rw [← s1]
  rcases s2 with h0 | h0 | h0
  · rw [h0, if_pos (show (0 : Int32) ≤ 0 by decide), if_pos rfl, living_ok hF (show n ≤ 8 by omega) e2, hc, Option.bind_some, e1]
    by_cases h1 : nI n ≤ 0
    · rw [if_pos h1, if_pos h1]
    · rw [if_neg h1, if_neg h1]
  · rw [h0, if_neg (show ¬ (2 : Int32) ≤ 0 by decide), if_neg (show ¬ (2 : Int32) = 0 by decide)]
  · rw [h0, if_neg (show ¬ (3 : Int32) ≤ 0 by decide), if_neg (show ¬ (3 : Int32) = 0 by decide)]
theorem run_0 {h : XH} (hs : xf_Run_state h = 0) : xh_stopped h = 0 := by
  unfold xf_Run_state at hs
  by_cases h0 : xh_stopped h = 0
  · exact h0
  · rw [if_neg h0] at hs
    exact hs
theorem step_L {F N : Nat} (hFu : 96 < F) (hN : N ≤ 1000) : ∀ (r x : Nat) (h : XH) (g : MH), x + r = N → Rel h g → mh_vfault g = 0 → ∀ m m', r < m → r < m' → ∃ s h' g', xf_P_step_L6 F m (nI N) (nI x) h = some (s, h') ∧ mf_M_step_L28 F m' (nI N) (nI x) g = some (s, g') ∧ Rel h' g' ∧ mh_vfault g' = 0 := by
  intro r
  induction r with
  | zero =>
    intro x h g hx hR hf m m' h1 h2
    obtain ⟨m, rfl⟩ : ∃ q, m = q + 1 := ⟨m - 1, by omega⟩
    obtain ⟨m', rfl⟩ : ∃ q, m' = q + 1 := ⟨m' - 1, by omega⟩
    refine ⟨xf_Run_state h, h, g, ?_, ?_, hR, hf⟩
    · rw [xf_P_step_L6, if_pos (by rw [nql (by omega) (by omega)]; omega)]
    · rw [mf_M_step_L28, if_pos (by rw [nql (by omega) (by omega)]; omega), state_ok (by omega) hR, Option.bind_some]
  | succ r ih =>
    intro x h g hx hR hf m m' h1 h2
    obtain ⟨m, rfl⟩ : ∃ q, m = q + 1 := ⟨m - 1, by omega⟩
    obtain ⟨m', rfl⟩ : ∃ q, m' = q + 1 := ⟨m' - 1, by omega⟩
    have hnx : ¬ nI N ≤ nI x := by rw [nql (by omega) (by omega)]; omega
    rw [xf_P_step_L6, if_neg hnx, mf_M_step_L28, if_neg hnx, state_ok (by omega) hR, Option.bind_some]
    by_cases h0 : xf_Run_state h = 0
    · rw [if_pos h0, if_pos h0]
      obtain ⟨h3, g3, e1, e2, hR3, hf3⟩ := stepAll_ok hFu hR hf (run_0 h0)
      rw [e1, e2, Option.bind_some, Option.bind_some, nI_1]
      exact ih (x + 1) h3 g3 (by omega) hR3 hf3 m m' (by omega) (by omega)
    · rw [if_neg h0, if_neg h0, Option.bind_some]
      exact ⟨_, h, g, rfl, rfl, hR, hf⟩
theorem steps_in {v : Int32} : (xf_P_checkSteps v = Sum.inl 2 ∧ (v < 1 ∨ ¬ v ≤ 1000)) ∨ ∃ N, v = nI N ∧ 1 ≤ N ∧ N ≤ 1000 ∧ xf_P_checkSteps v = Sum.inr () := by
  unfold xf_P_checkSteps
  by_cases h1 : v < 1
  · left
    exact ⟨if_pos h1, Or.inl h1⟩
  · by_cases h2 : v ≤ 1000
    · right
      have h0 : ¬ v < 0 := fun h0 => h1 (Int32.lt_trans h0 (by decide))
      obtain ⟨N, hN, rfl⟩ := nI_of h0
      rw [li_1, nqt (by omega) (by omega)] at h1
      have h3 := h2
      rw [li_1000, nql (by omega) (by omega)] at h3
      refine ⟨N, rfl, by omega, h3, ?_⟩
      rw [if_neg (show ¬ nI N < 1 by rw [li_1, nqt (by omega) (by omega)]; omega), if_pos h2]
    · left
      exact ⟨by rw [if_neg h1, if_neg h2], Or.inr h2⟩
theorem ok_step : OK_step Rel := by
  intro h g hR v0
  rcases steps_in (v := v0) with ⟨e1, e2⟩ | ⟨N, rfl, n1, n2, e1⟩
  · refine ⟨0, 0, (0, ms_vfault g 1), ?_, Or.inr ⟨?_, rfl, Rel_fault hR 1⟩⟩
    · unfold mf_M_step mf_M_step_J13
      have e3 : mf_M_step_J18 0 v0 1 g = some (0, ms_vfault g 1) := rfl
      rw [e3]
      by_cases h1 : v0 < 1
      · rw [if_pos h1]
      · rw [if_neg h1, if_neg (e2.resolve_left h1)]
    · unfold xf_P_step
      rw [e1]
      rfl
  · have key : ∀ F, 1100 < F → ∃ r : Int32 × MH, mf_M_step F (nI N) g = some r ∧ ∃ q : Int32 × XH, xf_P_step F (nI N) h = some (Sum.inr q) ∧ mh_vfault (r.2) = 0 ∧ q.1 = r.1 ∧ Rel (q.2) (r.2) := by
      intro F hF
      obtain ⟨s, h', g', a1, a2, a3, a4⟩ := step_L (F := F) (by omega) n2 N 0 h (ms_vfault g 0) (by omega) (Rel_fault hR 0) rfl F F (by omega) (by omega)
      refine ⟨(s, g'), ?_, (s, h'), ?_, a4, rfl, a3⟩
      · unfold mf_M_step
        rw [if_neg (show ¬ nI N < 1 by rw [li_1, nqt (by omega) (by omega)]; omega), if_pos (show nI N ≤ 1000 by rw [li_1000, nql (by omega) (by omega)]; omega), ← a2]
        rfl
      · unfold xf_P_step
        rw [e1]
        show (xf_P_step_L6 F F (nI N) (nI 0) h).map Sum.inr = _
        rw [a1]
        rfl
    obtain ⟨r, k1, k2⟩ := key 2000 (by omega)
    exact ⟨2000, 2000, r, k1, Or.inl k2⟩
