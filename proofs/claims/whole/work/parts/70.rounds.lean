/-! the ways that may be come to: the reference's rounds -/
def cb (b : Int32) (cm : Nat → Int32) (u : Nat) : Int32 := if cm u = 0 then 1 else b
theorem comeTo_ok {g : MH} {cm : Nat → Int32} {u : Nat} (hu : u < 768) : mf_M_comeTo (nI u) (mz_come g cm) = some ((if cm u = 0 then (1 : Int32) else 0), mz_come g (va_up cm u 1)) := by
  unfold mf_M_comeTo
  rw [gd_nI hu (by omega), Option.bind_some, show mh_come (mz_come g cm) = cm from rfl]
  by_cases h : cm u = 0
  · rw [if_pos h, if_pos h, Option.bind_some, Option.bind_some]
    rfl
  · rw [if_neg h, if_neg h, Option.bind_some, Option.bind_some]
    rfl
theorem way2 (p t : Nat) : ((8 : Int32) * nI p) + ((2 : Int32) * nI t) = nI (8 * p + 2 * t) := by
  rw [show (8 : Int32) = nI 8 from rfl, show (2 : Int32) = nI 2 from rfl, pk_mul, pk_mul, nI_add]
theorem cb_01 {b : Int32} {cm : Nat → Int32} {u : Nat} (hb : b = 0 ∨ b = 1) : cb b cm u = 0 ∨ cb b cm u = 1 := by
  unfold cb
  split
  · right; rfl
  · exact hb
theorem b_back {α : Type} {b : Int32} (hb : b = 0 ∨ b = 1) (f : Int32 → α) : (if b = 0 then f 0 else f 1) = f b := by
  rcases hb with h | h <;> subst h <;> rfl
theorem c_back {α : Type} {b : Int32} {cm : Nat → Int32} {u : Nat} (hb : b = 0 ∨ b = 1) (f : Int32 → α) : (if (if cm u = 0 then (1 : Int32) else 0) = 0 then (if b = 0 then f 0 else f 1) else f 1) = f (cb b cm u) := by
  rw [b_back hb]
  unfold cb
  by_cases h : cm u = 0
  · rw [if_pos h, if_pos h, if_neg (by decide)]
  · rw [if_neg h, if_neg h, if_pos rfl]
def fB : List Nat → Int32 × (Nat → Int32) → Int32 × (Nat → Int32)
  | [], s => s
  | u :: l, s => fB l (cb s.1 s.2 u, va_up s.2 u 1)
def sm (w c : Nat) : List Nat := if w % 2 = 0 ∧ (c = 82 ∨ c = 64) then [] else if w % 2 = 0 ∧ c = 63 then [bh w c, rt w, lf w] else if w % 2 = 0 ∧ c = 102 then [bh w c, lf w] else [bh w c]
theorem sm_sl {w c u : Nat} : u ∈ sm w c ↔ u ∈ sl w c := by
  unfold sm sl
  split
  · exact Iff.rfl
  · split
    · simp only [List.mem_cons, List.not_mem_nil, or_false]
      constructor
      · rintro (h | h | h)
        · exact Or.inr (Or.inr h)
        · exact Or.inr (Or.inl h)
        · exact Or.inl h
      · rintro (h | h | h)
        · exact Or.inr (Or.inr h)
        · exact Or.inr (Or.inl h)
        · exact Or.inl h
    · split
      · simp only [List.mem_cons, List.not_mem_nil, or_false]
        exact or_comm
      · exact Iff.rfl
theorem g199 {F : Nat} {rec : Int32 → Int32 → MH → Option (Int32 × MH)} {b : Int32} {w : Nat} {h : MH} : mf_M_goOn_J199 F rec b (nI w) h = rec b (nI (w + 1)) h := by
  unfold mf_M_goOn_J199
  rw [nI_1]
theorem g168 {F : Nat} {rec : Int32 → Int32 → MH → Option (Int32 × MH)} {b : Int32} {w p e : Nat} {g : MH} {cm : Nat → Int32} (hb : b = 0 ∨ b = 1) (hp : p < 96) (he : e < 4) : mf_M_goOn_J168 F rec b (nI w) (nI p) (nI e) (mz_come g cm) = rec (cb b cm (8 * mv p e + 2 * e)) (nI (w + 1)) (mz_come g (va_up cm (8 * mv p e + 2 * e) 1)) := by
  have hm := mv_lt p hp e he
  unfold mf_M_goOn_J168 mf_M_goOn_J193 mf_M_goOn_J198
  rw [mm_moved p hp e he, way2, comeTo_ok (by omega), Option.bind_some]
  simp only [g199]
  exact c_back hb (fun b => rec b (nI (w + 1)) (mz_come g (va_up cm (8 * mv p e + 2 * e) 1)))
theorem g154 {F : Nat} {rec : Int32 → Int32 → MH → Option (Int32 × MH)} {b : Int32} {w p e c : Nat} {g : MH} {cm : Nat → Int32} (hb : b = 0 ∨ b = 1) (hp : p < 96) (he : e < 4) (hc : c < 127) : mf_M_goOn_J154 F rec b (nI w) (nI p) (nI c) (nI e) (mz_come g cm) = if c = 63 ∨ c = 102 then rec (cb b cm (8 * mv p e + 2 * e)) (nI (w + 1)) (mz_come g (va_up cm (8 * mv p e + 2 * e) 1)) else rec b (nI (w + 1)) (mz_come g cm) := by
  have q63 : (nI c = (63 : Int32)) = (c = 63) := nqe (b := 63) (by omega) (by omega)
  have q102 : (nI c = (102 : Int32)) = (c = 102) := nqe (b := 102) (by omega) (by omega)
  unfold mf_M_goOn_J154
  rw [g168 hb hp he, g199]
  simp only [q63, q102]
  by_cases h1 : c = 63
  · rw [if_pos h1, if_pos (Or.inl h1)]
  · rw [if_neg h1]
    by_cases h2 : c = 102
    · rw [if_pos h2, if_pos (Or.inr h2)]
    · rw [if_neg h2, if_neg (fun h => h.elim h1 h2)]
theorem g99 {F : Nat} {rec : Int32 → Int32 → MH → Option (Int32 × MH)} {b : Int32} {w p d c : Nat} {g : MH} {cm : Nat → Int32} (hb : b = 0 ∨ b = 1) (hp : p < 96) (hd : d < 4) (hc : c < 127) : mf_M_goOn_J99 F rec (nI w) (nI p) (nI d) (nI c) b (mz_come g cm) = (if c = 63 then mf_M_goOn_J154 F rec (cb b cm (8 * mv p ((d + 1) % 4) + 2 * ((d + 1) % 4))) (nI w) (nI p) (nI c) (nI ((d + 3) % 4)) (mz_come g (va_up cm (8 * mv p ((d + 1) % 4) + 2 * ((d + 1) % 4)) 1)) else mf_M_goOn_J154 F rec b (nI w) (nI p) (nI c) (nI ((d + 3) % 4)) (mz_come g cm)) := by
  have q63 : (nI c = (63 : Int32)) = (c = 63) := nqe (b := 63) (by omega) (by omega)
  have hm := mv_lt p hp ((d + 1) % 4) (by omega)
  unfold mf_M_goOn_J99 mf_M_goOn_J148 mf_M_goOn_J153
  rw [nI_1, li_3, nI_add, rm4 (by omega), rm4 (by omega), mm_moved p hp ((d + 1) % 4) (by omega), way2, comeTo_ok (by omega), Option.bind_some]
  simp only [q63]
  by_cases h1 : c = 63
  · rw [if_pos h1, if_pos h1]
    exact c_back hb (fun b => mf_M_goOn_J154 F rec b (nI w) (nI p) (nI c) (nI ((d + 3) % 4)) (mz_come g (va_up cm (8 * mv p ((d + 1) % 4) + 2 * ((d + 1) % 4)) 1)))
  · rw [if_neg h1, if_neg h1]
theorem g71 {F : Nat} {rec : Int32 → Int32 → MH → Option (Int32 × MH)} {b : Int32} {w d c c2 : Nat} {p : Int32} {g : MH} {cm : Nat → Int32} (hb : b = 0 ∨ b = 1) (hw : w < 768) (hc2 : c2 < 127) (hf : mh_field g (w / 8) = nI c2) : mf_M_goOn_J71 F rec b (nI w) p (nI d) (nI c) 0 (mz_come g cm) = mf_M_goOn_J99 F rec (nI w) p (nI d) (nI c) (cb b cm (bh w c2)) (mz_come g (va_up cm (bh w c2) 1)) := by
  unfold mf_M_goOn_J71 mf_M_goOn_J90 mf_M_goOn_J94
  rw [if_pos rfl, mm_after (g := mz_come g cm) hw hc2 hf, Option.bind_some, comeTo_ok (bh_lt hw), Option.bind_some]
  exact c_back hb (fun b => mf_M_goOn_J99 F rec (nI w) p (nI d) (nI c) b (mz_come g (va_up cm (bh w c2) 1)))
theorem body_U {F : Nat} {rec : Int32 → Int32 → MH → Option (Int32 × MH)} {b : Int32} {w c : Nat} {g : MH} {cm : Nat → Int32} (hb : b = 0 ∨ b = 1) (hw : w < 768) (hq : w % 2 = 0) (hc : c < 127) (hf : mh_field g (w / 8) = nI c) : mf_M_goOn_J50 F rec b (nI w) (nI (w / 8)) (nI (w / 2 % 4)) (nI c) (mz_come g cm) = rec (fB (sm w c) (b, cm)).1 (nI (w + 1)) (mz_come g (fB (sm w c) (b, cm)).2) := by
  have q82 : (nI c = (82 : Int32)) = (c = 82) := nqe (b := 82) (by omega) (by omega)
  have q64 : (nI c = (64 : Int32)) = (c = 64) := nqe (b := 64) (by omega) (by omega)
  have hp : w / 8 < 96 := by omega
  have hd : w / 2 % 4 < 4 := by omega
  have e3 : (w / 2 % 4 + 3) % 4 < 4 := by omega
  have h66 : c ≠ 63 → c ≠ 102 → mf_M_goOn_J66 F rec b (nI w) (nI (w / 8)) (nI (w / 2 % 4)) (nI c) (mz_come g cm) = rec b (nI (w + 1)) (mz_come g cm) := by
    intro n1 n2
    unfold mf_M_goOn_J66 mf_M_goOn_J71 mf_M_goOn_J90 mf_M_goOn_J94
    rw [if_neg (show ¬ (1 : Int32) = 0 by decide), b_back hb (fun b => mf_M_goOn_J99 F rec (nI w) (nI (w / 8)) (nI (w / 2 % 4)) (nI c) b (mz_come g cm)), g99 hb hp hd hc, if_neg n1, g154 hb hp e3 hc, if_neg (fun h => h.elim n1 n2)]
  unfold mf_M_goOn_J50
  simp only [q82, q64]
  unfold sm
  by_cases h1 : c = 82
  · rw [if_pos h1, if_pos ⟨hq, Or.inl h1⟩, h66 (by omega) (by omega)]
    rfl
  · rw [if_neg h1]
    by_cases h2 : c = 64
    · rw [if_pos h2, if_pos ⟨hq, Or.inr h2⟩, h66 (by omega) (by omega)]
      rfl
    · rw [if_neg h2, if_neg (show ¬ (w % 2 = 0 ∧ (c = 82 ∨ c = 64)) from fun h => h.2.elim h1 h2), g71 hb hw hc hf, g99 (cb_01 hb) hp hd hc]
      by_cases h3 : c = 63
      · rw [if_pos h3, if_pos (show w % 2 = 0 ∧ c = 63 from ⟨hq, h3⟩), g154 (cb_01 (cb_01 hb)) hp e3 hc, if_pos (Or.inl h3)]
        rfl
      · rw [if_neg h3, if_neg (show ¬ (w % 2 = 0 ∧ c = 63) from fun h => h3 h.2), g154 (cb_01 hb) hp e3 hc]
        by_cases h4 : c = 102
        · rw [if_pos (Or.inr h4), if_pos (show w % 2 = 0 ∧ c = 102 from ⟨hq, h4⟩)]
          rfl
        · rw [if_neg (fun h => h.elim h3 h4), if_neg (show ¬ (w % 2 = 0 ∧ c = 102) from fun h => h4 h.2)]
          rfl
theorem body_Q {F : Nat} {rec : Int32 → Int32 → MH → Option (Int32 × MH)} {b : Int32} {w c : Nat} {g : MH} {cm : Nat → Int32} (hb : b = 0 ∨ b = 1) (hw : w < 768) (hq : w % 2 = 1) (hc : c < 127) (hf : mh_field g (w / 8) = nI c) : mf_M_goOn_J50 F rec b (nI w) (nI (w / 8)) (nI (w / 2 % 4)) (nI 32) (mz_come g cm) = rec (fB (sm w c) (b, cm)).1 (nI (w + 1)) (mz_come g (fB (sm w c) (b, cm)).2) := by
  unfold mf_M_goOn_J50
  rw [if_neg (show ¬ nI 32 = (82 : Int32) by decide), if_neg (show ¬ nI 32 = (64 : Int32) by decide), g71 hb hw hc hf, g99 (cb_01 hb) (by omega) (by omega) (by omega), if_neg (show ¬ 32 = 63 by omega), g154 (cb_01 hb) (by omega) (by omega) (by omega), if_neg (show ¬ (32 = 63 ∨ 32 = 102) by omega)]
  unfold sm
  rw [if_neg (by omega), if_neg (by omega), if_neg (by omega)]
  rfl
theorem cnt_ge {cm : Nat → Int32} {u : Nat} : ∀ {x : Nat}, cnt cm x ≤ cnt (va_up cm u 1) x
  | 0 => Nat.le_refl _
  | x + 1 => by
    rw [cnt_s, cnt_s]
    have := cnt_ge (cm := cm) (u := u) (x := x)
    by_cases h1 : x = u
    · rw [h1, up_eq, if_neg (show ¬ (1 : Int32) = 0 by decide)]
      rw [h1] at this
      split <;> omega
    · rw [up_ne h1]
      omega
def GI (Fd cm0 : Nat → Int32) (b : Int32) (cm : Nat → Int32) : Prop :=
  (b = 0 ∨ b = 1) ∧ (∀ v, cm0 v ≠ 0 → cm v ≠ 0) ∧ (∀ v, v < 768 → cm v ≠ 0 → RC Fd v) ∧ (b = 0 → ∀ v, v < 768 → cm v ≠ 0 → cm0 v ≠ 0) ∧ (b = 1 → cnt cm0 768 < cnt cm 768) ∧ cnt cm0 768 ≤ cnt cm 768
theorem GI_s {Fd cm0 cm : Nat → Int32} {b : Int32} {u : Nat} (hI : GI Fd cm0 b cm) (hu : u < 768) (hr : RC Fd u) : GI Fd cm0 (cb b cm u) (va_up cm u 1) := by
  obtain ⟨i1, i2, i3, i4, i5, i6⟩ := hI
  have hge := cnt_ge (cm := cm) (u := u) (x := 768)
  refine ⟨cb_01 i1, fun v hv => ?_, fun v hv hm => ?_, fun h0 v hv hm => ?_, fun h1 => ?_, by omega⟩
  · by_cases h : v = u
    · rw [h, up_eq]; decide
    · rw [up_ne h]; exact i2 v hv
  · by_cases h : v = u
    · rw [h]; exact hr
    · rw [up_ne h] at hm; exact i3 v hv hm
  · unfold cb at h0
    by_cases hz : cm u = 0
    · rw [if_pos hz] at h0
      exact absurd h0 (by decide)
    · rw [if_neg hz] at h0
      by_cases h : v = u
      · rw [h]; exact i4 h0 u hu hz
      · rw [up_ne h] at hm; exact i4 h0 v hv hm
  · unfold cb at h1
    by_cases hz : cm u = 0
    · rw [cnt_up hz hu]; omega
    · rw [if_neg hz] at h1
      have := i5 h1
      omega
theorem fB_ok {Fd cm0 : Nat → Int32} : ∀ (l : List Nat) (b : Int32) (cm : Nat → Int32), (∀ u, u ∈ l → u < 768 ∧ RC Fd u) → GI Fd cm0 b cm → GI Fd cm0 (fB l (b, cm)).1 (fB l (b, cm)).2 ∧ (∀ v, cm v ≠ 0 → (fB l (b, cm)).2 v ≠ 0) ∧ ∀ u, u ∈ l → (fB l (b, cm)).2 u ≠ 0
  | [], b, cm, _, hI => ⟨hI, fun _ hv => hv, fun _ hv => absurd hv List.not_mem_nil⟩
  | u :: l, b, cm, hl, hI => by
    obtain ⟨a1, a2, a3⟩ := fB_ok l (cb b cm u) (va_up cm u 1) (fun v hv => hl v (List.mem_cons_of_mem _ hv)) (GI_s hI (hl u List.mem_cons_self).1 (hl u List.mem_cons_self).2)
    have hup : ∀ v, cm v ≠ 0 → va_up cm u 1 v ≠ 0 := fun v hv => by
      by_cases h : v = u
      · rw [h, up_eq]; decide
      · rw [up_ne h]; exact hv
    refine ⟨a1, fun v hv => a2 v (hup v hv), fun v hv => ?_⟩
    rcases List.mem_cons.mp hv with h | h
    · rw [h]
      exact a2 u (by rw [up_eq]; decide)
    · exact a3 v h
theorem goL_ok {F : Nat} {g : MH} {cm0 : Nat → Int32} (hF : ∀ p, p < 96 → SG (mh_field g p)) : ∀ (r w : Nat), w + r = 768 → ∀ (b : Int32) (cm : Nat → Int32), GI (mh_field g) cm0 b cm → (∀ v, v < w → cm0 v ≠ 0 → ∀ u, u ∈ sl v (sN (mh_field g (v / 8))) → cm u ≠ 0) → ∀ m, r < m → ∃ (b' : Int32) (cm' : Nat → Int32), mf_M_goOn_L4 F m b (nI w) (mz_come g cm) = some (b', mz_come g cm') ∧ GI (mh_field g) cm0 b' cm' ∧ ∀ v, v < 768 → cm0 v ≠ 0 → ∀ u, u ∈ sl v (sN (mh_field g (v / 8))) → cm' u ≠ 0 := by
  intro r
  induction r with
  | zero =>
    intro w hw b cm hI hC m hm
    obtain ⟨m, rfl⟩ : ∃ q, m = q + 1 := ⟨m - 1, by omega⟩
    refine ⟨b, cm, ?_, hI, fun v hv => hC v (by omega)⟩
    rw [mf_M_goOn_L4, if_pos (show (768 : Int32) ≤ nI w by rw [li_768, nql (by omega) (by omega)]; omega)]
    rcases hI.1 with h | h <;> rw [h] <;> rfl
  | succ r ih =>
    intro w hw b cm hI hC m hm
    obtain ⟨m, rfl⟩ : ∃ q, m = q + 1 := ⟨m - 1, by omega⟩
    have hw' : w < 768 := by omega
    have hs := hF (w / 8) (by omega)
    have hc : sN (mh_field g (w / 8)) < 127 := by have := hs.2.2; omega
    rw [mf_M_goOn_L4, if_neg (show ¬ (768 : Int32) ≤ nI w by rw [li_768, nql (by omega) (by omega)]; omega), gd_nI hw' (by omega), Option.bind_some, show mh_come (mz_come g cm) = cm from rfl]
    by_cases h0 : cm w = 0
    · rw [if_pos h0, g199]
      refine ih (w + 1) (by omega) b cm hI (fun v hv hm u hu => ?_) m (by omega)
      by_cases h1 : v = w
      · rw [h1] at hm
        exact absurd h0 (hI.2.1 w hm)
      · exact hC v (by omega) hm u hu
    · have hbody : (if (nI w - nI w / (2 : Int32) * (2 : Int32)) = (1 : Int32) then mf_M_goOn_J50 F (mf_M_goOn_L4 F m) b (nI w) (nI w / (8 : Int32)) ((nI w / (2 : Int32)) - (nI w / (2 : Int32)) / (4 : Int32) * (4 : Int32)) (32 : Int32) (mz_come g cm) else (gd 96 (nI w / (8 : Int32))).bind fun j3 => mf_M_goOn_J50 F (mf_M_goOn_L4 F m) b (nI w) (nI w / (8 : Int32)) ((nI w / (2 : Int32)) - (nI w / (2 : Int32)) / (4 : Int32) * (4 : Int32)) (mh_field (mz_come g cm) j3) (mz_come g cm)) = mf_M_goOn_L4 F m (fB (sm w (sN (mh_field g (w / 8)))) (b, cm)).1 (nI (w + 1)) (mz_come g (fB (sm w (sN (mh_field g (w / 8)))) (b, cm)).2) := by
        rw [rm2 (by omega), dv8 (by omega), dv2 (by omega), rm4 (by omega)]
        rcases Nat.mod_two_eq_zero_or_one w with h2 | h2
        · rw [h2, if_neg (show ¬ nI 0 = (1 : Int32) by decide), gd_nI (show w / 8 < 96 by omega) (by omega), Option.bind_some, show mh_field (mz_come g cm) (w / 8) = nI (sN (mh_field g (w / 8))) from hs.1]
          exact body_U hI.1 hw' h2 hc hs.1
        · rw [h2, if_pos (show nI 1 = (1 : Int32) from rfl)]
          exact body_Q hI.1 hw' h2 hc hs.1
      rw [if_neg h0, hbody]
      obtain ⟨a1, a2, a3⟩ := fB_ok (Fd := mh_field g) (cm0 := cm0) (sm w (sN (mh_field g (w / 8)))) b cm (fun u hu => ⟨sl_lt hw' (sm_sl.mp hu), RC_s hw' (hI.2.2.1 w hw' h0) (sm_sl.mp hu)⟩) hI
      refine ih (w + 1) (by omega) _ _ a1 (fun v hv hm u hu => ?_) m (by omega)
      by_cases h1 : v = w
      · rw [h1] at hu
        exact a3 u (sm_sl.mpr hu)
      · exact a2 u (hC v (by omega) hm u hu)
theorem L32_ok {F : Nat} {g : MH} (hFu : 800 < F) (hF : ∀ p, p < 96 → SG (mh_field g p)) : ∀ (k : Nat) (cm : Nat → Int32), 768 ≤ cnt cm 768 + k → cm 0 ≠ 0 → (∀ v, v < 768 → cm v ≠ 0 → RC (mh_field g) v) → ∀ m, k + 1 < m → ∃ cm' : Nat → Int32, mf_M_findWays_L32 F m 1 (mz_come g cm) = some (mz_come g cm') ∧ ∀ v, v < 768 → (cm' v ≠ 0 ↔ RC (mh_field g) v) := by
  intro k
  induction k with
  | zero =>
    intro cm hk h0 hr m hm
    obtain ⟨m, rfl⟩ : ∃ q, m = q + 2 := ⟨m - 2, by omega⟩
    obtain ⟨b, cm', e, hI, hC⟩ := goL_ok (F := F) (cm0 := cm) hF 768 0 (by omega) 0 cm ⟨Or.inl rfl, fun _ h => h, hr, fun _ _ _ h => h, fun h => absurd h (by decide), Nat.le_refl _⟩ (fun v hv => absurd hv (by omega)) F (by omega)
    have e' : mf_M_goOn F (mz_come g cm) = some (b, mz_come g cm') := e
    rcases hI.1 with hb | hb
    · refine ⟨cm', ?_, fun v hv => ⟨hI.2.2.1 v hv, fun h => ?_⟩⟩
      · rw [mf_M_findWays_L32, if_neg (show ¬ (1 : Int32) = 0 by decide), e', Option.bind_some, hb, mf_M_findWays_L32, if_pos rfl]
      · exact RC_in (hI.2.1 0 h0) (fun w u hw hm hu => hC w hw (hI.2.2.2.1 hb w hw hm) u hu) h
    · have h1 := hI.2.2.2.2.1 hb
      have h2 := cnt_le cm' 768
      omega
  | succ k ih =>
    intro cm hk h0 hr m hm
    obtain ⟨m, rfl⟩ : ∃ q, m = q + 2 := ⟨m - 2, by omega⟩
    obtain ⟨b, cm', e, hI, hC⟩ := goL_ok (F := F) (cm0 := cm) hF 768 0 (by omega) 0 cm ⟨Or.inl rfl, fun _ h => h, hr, fun _ _ _ h => h, fun h => absurd h (by decide), Nat.le_refl _⟩ (fun v hv => absurd hv (by omega)) F (by omega)
    have e' : mf_M_goOn F (mz_come g cm) = some (b, mz_come g cm') := e
    rcases hI.1 with hb | hb
    · refine ⟨cm', ?_, fun v hv => ⟨hI.2.2.1 v hv, fun h => ?_⟩⟩
      · rw [mf_M_findWays_L32, if_neg (show ¬ (1 : Int32) = 0 by decide), e', Option.bind_some, hb, mf_M_findWays_L32, if_pos rfl]
      · exact RC_in (hI.2.1 0 h0) (fun w u hw hm hu => hC w hw (hI.2.2.2.1 hb w hw hm) u hu) h
    · have h1 := hI.2.2.2.2.1 hb
      obtain ⟨cm2, e2, h3⟩ := ih cm' (by omega) (hI.2.1 0 h0) hI.2.2.1 (m + 1) (by omega)
      refine ⟨cm2, ?_, h3⟩
      rw [mf_M_findWays_L32, if_neg (show ¬ (1 : Int32) = 0 by decide), e', Option.bind_some, hb]
      exact e2
theorem fwL_ok {F : Nat} {g : MH} : ∀ (r x : Nat), x + r = 768 → ∀ cm : Nat → Int32, (∀ v, v < x → cm v = if v = 0 then 1 else 0) → ∀ m, r < m → ∃ cm' : Nat → Int32, (∀ v, v < 768 → cm' v = if v = 0 then 1 else 0) ∧ mf_M_findWays_L2 F m (nI x) (mz_come g cm) = mf_M_findWays_L32 F F 1 (mz_come g cm') := by
  intro r
  induction r with
  | zero =>
    intro x hx cm h0 m hm
    obtain ⟨m, rfl⟩ : ∃ q, m = q + 1 := ⟨m - 1, by omega⟩
    refine ⟨cm, fun v hv => h0 v (by omega), ?_⟩
    rw [mf_M_findWays_L2, if_pos (show (768 : Int32) ≤ nI x by rw [li_768, nql (by omega) (by omega)]; omega)]
  | succ r ih =>
    intro x hx cm h0 m hm
    obtain ⟨m, rfl⟩ : ∃ q, m = q + 1 := ⟨m - 1, by omega⟩
    obtain ⟨cm', a1, a2⟩ := ih (x + 1) (by omega) (va_up cm x (if x = 0 then 1 else 0)) (fun v hv => by
      by_cases h9 : v = x
      · rw [h9, up_eq]
      · rw [up_ne h9]; exact h0 v (by omega)) m (by omega)
    refine ⟨cm', a1, ?_⟩
    rw [mf_M_findWays_L2, if_neg (show ¬ (768 : Int32) ≤ nI x by rw [li_768, nql (by omega) (by omega)]; omega)]
    unfold mf_M_findWays_J23
    rw [gd_nI (show x < 768 by omega) (by omega), Option.bind_some, Option.bind_some, Option.bind_some, nI_1, ← a2]
    by_cases h1 : x = 0
    · rw [if_pos h1, if_pos (show nI x = (0 : Int32) by rw [h1]; rfl)]
      rfl
    · rw [if_neg h1, if_neg (show ¬ nI x = (0 : Int32) from nI_neq (b := 0) h1 (by omega) (by omega))]
      rfl
theorem findWays_ok {F : Nat} {g : MH} (hFu : 800 < F) (hF : ∀ p, p < 96 → SG (mh_field g p)) : ∃ cm : Nat → Int32, mf_M_findWays F g = some (mz_come g cm) ∧ ∀ v, v < 768 → (cm v ≠ 0 ↔ RC (mh_field g) v) := by
  obtain ⟨cm, a1, a2⟩ := fwL_ok (F := F) (g := g) 768 0 (by omega) (mh_come g) (fun v hv => absurd hv (by omega)) F (by omega)
  obtain ⟨cm', b1, b2⟩ := L32_ok (F := F) hFu hF 768 cm (by omega) (by rw [a1 0 (by omega), if_pos rfl]; decide) (fun v hv hm => by
    by_cases h : v = 0
    · rw [h]; exact RC_0
    · rw [a1 v hv, if_neg h] at hm
      exact absurd rfl hm) F (by omega)
  refine ⟨cm', ?_, b2⟩
  show mf_M_findWays_L2 F F (nI 0) (mz_come g (mh_come g)) = _
  rw [a2, b1]
