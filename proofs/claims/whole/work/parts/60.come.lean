/-! a pointer goes, a pointer comes -/
def rp (f : Nat → Nat) (k x : Nat) : Nat → Nat := fun j => if k ≤ j ∧ j + 1 < x then f (j + 1) else f j
theorem rp_s {f : Nat → Nat} {k x : Nat} (h : k < x) : va_up (rp f k x) (x - 1) (f x) = rp f k (x + 1) := by
  funext j
  by_cases h1 : j = x - 1
  · rw [h1, up_eq]
    unfold rp
    rw [if_pos (by omega), show x - 1 + 1 = x by omega]
  · rw [up_ne h1]
    unfold rp
    by_cases h2 : k ≤ j ∧ j + 1 < x
    · rw [if_pos h2, if_pos (by omega)]
    · rw [if_neg h2, if_neg (by omega)]
theorem rp_0 {f : Nat → Nat} {k : Nat} : rp f k (k + 1) = f := by
  funext j
  unfold rp
  rw [if_neg (by omega)]
theorem zz_ptrs {h : XH} {P Q : Nat → Nat} : xz_ptrs (xz_ptrs h P) Q = xz_ptrs h Q := rfl
theorem zi_ptrs {h : XH} : xz_ptrs h (xh_ptrs h) = h := rfl
def rmX (h : XH) (k L : Nat) : XH := xz_ptrs (xs_living h (nI (L - 1))) (va_up (rp (xh_ptrs h) k L) (L - 1) (xh_ptrs h k))
theorem rm_L {F : Nat} {h : XH} {k L : Nat} (hL : L ≤ 4) (hl : xh_living h = nI L) (hp : ∀ i, i < 4 → xh_ptrs h i < 4) : ∀ (r x : Nat), x + r = L → k < x → ∀ m, r < m → xf_Run_remove_L11 F m (xh_ptrs h k) (nI x) (xz_ptrs h (rp (xh_ptrs h) k x)) = some (rmX h k L) := by
  intro r
  induction r with
  | zero =>
    intro x hx hk m hm
    obtain ⟨m, rfl⟩ : ∃ q, m = q + 1 := ⟨m - 1, by omega⟩
    have e : xh_living (xz_ptrs h (rp (xh_ptrs h) k x)) = nI L := by simp only [gxz_ptrs]; exact hl
    rw [xf_Run_remove_L11, e, if_pos (by rw [nql (by omega) (by omega)]; omega), li_1, pk_sub (by omega), Option.bind_some]
    have e2 : xh_living (xs_living (xz_ptrs h (rp (xh_ptrs h) k x)) (nI (L - 1))) = nI (L - 1) := rfl
    rw [e2, gd_nI (by omega) (by omega), Option.bind_some, Option.bind_some, show x = L by omega]
    rfl
  | succ r ih =>
    intro x hx hk m hm
    obtain ⟨m, rfl⟩ : ∃ q, m = q + 1 := ⟨m - 1, by omega⟩
    have e : xh_living (xz_ptrs h (rp (xh_ptrs h) k x)) = nI L := by simp only [gxz_ptrs]; exact hl
    have e2 : xh_ptrs (xz_ptrs h (rp (xh_ptrs h) k x)) x = xh_ptrs h x := by
      simp only [gxz_ptrs]
      unfold rp
      rw [if_neg (by omega)]
    rw [xf_Run_remove_L11, e, if_neg (by rw [nql (by omega) (by omega)]; omega), gd_nI (show x < 4 by omega) (by omega), Option.bind_some, e2, gn_ok (hp x (by omega)), Option.bind_some, li_1, pk_sub (by omega), gd_nI (show x - 1 < 4 by omega) (by omega), Option.bind_some, Option.bind_some, nI_add]
    have e3 : xs_ptrs (xz_ptrs h (rp (xh_ptrs h) k x)) (x - 1) (xh_ptrs h x) = xz_ptrs h (rp (xh_ptrs h) k (x + 1)) := by
      unfold xs_ptrs
      simp only [gxz_ptrs]
      rw [rp_s hk, zz_ptrs]
    rw [e3]
    exact ih (x + 1) (by omega) (by omega) m (by omega)
theorem remove_ok {F : Nat} {h : XH} {k L : Nat} (hF : 20 < F) (hk : k < L) (hL : L ≤ 4) (hl : xh_living h = nI L) (hp : ∀ i, i < 4 → xh_ptrs h i < 4) : xf_Run_remove F (nI k) h = some (rmX h k L) := by
  unfold xf_Run_remove
  rw [gd_nI (show k < 4 by omega) (by omega), Option.bind_some, gn_ok (hp k (by omega)), Option.bind_some, nI_1]
  have := rm_L (F := F) (k := k) hL hl hp (L - (k + 1)) (k + 1) (by omega) (by omega) F (by omega)
  rw [rp_0, zi_ptrs] at this
  exact this
theorem cnt_up0 {f : Nat → Int32} {i : Nat} (hi : f i ≠ 0) : ∀ x, (x ≤ i → cnt (va_up f i 0) x = cnt f x) ∧ (i < x → cnt (va_up f i 0) x + 1 = cnt f x)
  | 0 => ⟨fun _ => rfl, fun h => by omega⟩
  | x + 1 => by
    obtain ⟨h1, h2⟩ := cnt_up0 hi x
    refine ⟨fun h => ?_, fun h => ?_⟩
    · rw [cnt_s, cnt_s, h1 (by omega), up_ne (by omega)]
    · by_cases hx : x = i
      · rw [cnt_s, cnt_s, h1 (by omega), hx, up_eq, if_pos rfl, if_neg hi]
      · have := h2 (by omega)
        rw [cnt_s, cnt_s, up_ne hx]
        omega
def sg (k L j : Nat) : Nat := if j + 1 = L then k else if k ≤ j ∧ j + 1 < L then j + 1 else j
theorem rm_sg {f : Nat → Nat} {k L j : Nat} (hk : k < L) : va_up (rp f k L) (L - 1) (f k) j = f (sg k L j) := by
  unfold sg
  by_cases h1 : j + 1 = L
  · rw [if_pos h1, show j = L - 1 by omega, up_eq]
  · rw [if_neg h1, up_ne (by omega)]
    unfold rp
    split <;> rfl
theorem sg_lt {k L j : Nat} (hk : k < L) (hL : L ≤ 4) (hj : j < 4) : sg k L j < 4 := by
  unfold sg
  split
  · omega
  · split <;> omega
theorem sg_inj {k L i j : Nat} (hk : k < L) (h : sg k L i = sg k L j) : i = j := by
  unfold sg at h
  split at h <;> split at h <;> (try split at h) <;> (try split at h) <;> omega
theorem PX_rm {h : XH} {g : MH} {k L i K x : Nat} (hP : PX h g K x) : PX (rmX h k L) (ms_lives g i 0) K x := by
  unfold PX rmX at *
  simp only [gxz_ptrs, gx_living, gm_lives]
  exact hP
theorem Mid_B {h : XH} {g : MH} {n0 dn k : Nat} (hm : Mid h g n0 dn k) (hdn : dn < n0) : ∃ L, k < L ∧ L ≤ 4 ∧ xh_living h = nI L ∧ (∀ i, i < 4 → xh_ptrs h i < 4) ∧ Mid (rmX h k L) (ms_lives g dn 0) n0 (dn + 1) k := by
  obtain ⟨hG, hS, L, V, ⟨p1, p2, p3, p4, p5, p6, p7, p8, p9⟩, q1, q2, q3, q4, q5, q6⟩ := hm
  have ne0 : ∀ z : Int32, z = 1 → z ≠ 0 := fun z h => by rw [h]; decide
  have hlv := q5 dn (Nat.le_refl _) (by omega)
  have hk : k < L := by
    rw [← p8, ← q6]
    exact cnt_lt (by omega) (ne0 _ hlv)
  refine ⟨L, hk, p3, p1, p5, ?_, ?_, L - 1, V, ?_, ?_⟩
  · unfold GL rmX at *
    simp only [gxz_ptrs, gx_living, gm_lives]
    exact hG
  · unfold SS rmX at *
    simp only [gxz_ptrs, gx_living, gm_lives]
    exact hS
  · unfold PM0
    have e1 : xh_ptrs (rmX h k L) = va_up (rp (xh_ptrs h) k L) (L - 1) (xh_ptrs h k) := by unfold rmX; simp only [gxz_ptrs]
    have e2 : xh_living (rmX h k L) = nI (L - 1) := by unfold rmX; simp only [gxz_ptrs, gx_living]
    have e3 : mh_lives (ms_lives g dn 0) = va_up (mh_lives g) dn 0 := by simp only [gm_lives]
    have e4 : mh_vpointers (ms_lives g dn 0) = mh_vpointers g := by simp only [gm_lives]
    have hc := cnt_up0 (f := mh_lives g) (i := dn) (ne0 _ hlv)
    rw [e1, e2, e3, e4]
    refine ⟨rfl, p2, by omega, p4, fun i hi => ?_, fun i j hi hj he => ?_, fun x hx => ?_, ?_, fun x hx hlx => ?_⟩
    · rw [rm_sg hk]
      exact p5 _ (sg_lt hk p3 hi)
    · rw [rm_sg hk, rm_sg hk] at he
      exact sg_inj hk (p6 _ _ (sg_lt hk p3 hi) (sg_lt hk p3 hj) he)
    · by_cases hx2 : x = dn
      · left; rw [hx2, up_eq]
      · rw [up_ne hx2]; exact p7 x hx
    · have := (hc V).2 (by omega)
      omega
    · have hx2 : x ≠ dn := fun he => by
        rw [he, up_eq] at hlx
        exact absurd hlx (by decide)
      rw [up_ne hx2] at hlx
      have hP := p9 x hx hlx
      have hcx : cnt (mh_lives g) x < L := by rw [← p8]; exact cnt_lt hx (ne0 _ hlx)
      rw [rm_sg hk]
      have hs : sg k L (cnt (va_up (mh_lives g) dn 0) x) = cnt (mh_lives g) x := by
        rcases Nat.lt_or_gt_of_ne hx2 with h8 | h8
        · have h7 := (hc x).1 (by omega)
          have h6 := cnt_lt (f := mh_lives g) h8 (ne0 _ hlx)
          unfold sg
          rw [if_neg (by omega), if_neg (by omega), h7]
        · have h7 := (hc x).2 (by omega)
          have h6 := cnt_lt (f := mh_lives g) h8 (ne0 _ hlv)
          unfold sg
          rw [if_neg (by omega), if_pos (by omega)]
          exact h7
      rw [hs]
      exact PX_rm hP
  · unfold PMx
    simp only [gm_lives]
    refine ⟨q1, by omega, by omega, q4, fun x h1 h2 => ?_, ?_⟩
    · rw [up_ne (by omega)]
      exact q5 x (by omega) h2
    · rw [cnt_s, up_eq, if_pos rfl, ((cnt_up0 (ne0 _ hlv)) dn).1 (Nat.le_refl _)]
      exact q6
theorem PX_lv {h : XH} {g : MH} {K x V : Nat} {a b : Int32} (hP : PX h g K x) : PX (xs_living h a) (ms_lives (ms_vpointers g b) V 1) K x := by
  unfold PX at *
  simp only [gx_living, gm_lives, gm_vpointers]
  exact hP
theorem cnt_up1 {f : Nat → Int32} {V : Nat} {x : Nat} (hx : x ≤ V) : cnt (va_up f V 1) x = cnt f x := cnt_ext (fun y hy => up_ne (by omega))
theorem Mid_C {h : XH} {g : MH} {n0 dn k L V w1 w D r : Nat} {v : Int64} (hG : GL h g) (hS : SS h g) (hP : PM0 h g L V) (hQ : PMx g n0 dn k V) (hdn : dn < n0) (hL4 : L < 4) (hw1 : w1 < 768) (hv1 : w1 % 2 = 0) (hw : w < 768) (hv2 : w % 2 = 0) (hr : r ≤ 8) (hL : LK dn D (xh_pnums h (xh_ptrs h k)) (mh_stacks g) (mh_stacks g)) (hT : RT dn r (xh_prets h (xh_ptrs h k)) (mh_back g) (mh_back g)) :
    Mid (fkX h (xh_ptrs h k) (xh_ptrs h L) L w1 w D r v (xh_pnums h (xh_ptrs h k)) (xh_prets h (xh_ptrs h k))) (fkM g dn V w1 w D r v (mh_stacks g) (mh_back g)) n0 (dn + 1) (k + 1) := by
  obtain ⟨q1, q2, q3, q4, q5, q6⟩ := hQ
  obtain ⟨p1, p2, p3, p4, p5, p6, p7, p8, p9⟩ := hP
  have ne0 : ∀ z : Int32, z = 1 → z ≠ 0 := fun z h => by rw [h]; decide
  have hlv := q5 dn (Nat.le_refl _) (by omega)
  have hk : k < L := by
    rw [← p8, ← q6]
    exact cnt_lt (by omega) (ne0 _ hlv)
  have eM : fkM g dn V w1 w D r v (mh_stacks g) (mh_back g) = UM (UM (ms_lives (ms_vpointers g (nI (V + 1))) V 1) V (nI (w1 / 8)) (nI (w1 / 2 % 4)) (nI (w1 % 2)) (nI 1) (nI 0) (va_up (mh_stacks g) (24 * V) v) (mh_back g)) dn (nI (w / 8)) (nI (w / 2 % 4)) (nI (w % 2)) (nI D) (nI r) (va_up (mh_stacks g) (24 * V) v) (mh_back g) := by
    unfold fkM
    rw [hv1, hv2]
    exact UM_in
  rw [eM]
  unfold fkX
  have hG1 : GL (xs_living h (nI (L + 1))) (ms_lives (ms_vpointers g (nI (V + 1))) V 1) := by
    unfold GL at *
    simp only [gx_living, gm_lives, gm_vpointers]
    exact hG
  have hS1 : SS (xs_living h (nI (L + 1))) (ms_lives (ms_vpointers g (nI (V + 1))) V 1) := by
    unfold SS at *
    simp only [gx_living, gm_lives, gm_vpointers]
    exact hS
  have hLn : LK V 1 (va_up (xh_pnums h (xh_ptrs h L)) 0 v) (va_up (mh_stacks g) (24 * V) v) (mh_stacks g) := by
    refine ⟨by omega, fun j hj => ?_, fun y hy => up_ne (by omega)⟩
    rw [show j = 0 by omega, up_eq, Nat.add_zero, up_eq]
  have hTn : RT V 0 (xh_prets h (xh_ptrs h L)) (mh_back g) (mh_back g) := ⟨fun j hj => absurd hj (by omega), fun _ _ => rfl⟩
  have hP1 : PM0 (UX (xs_living h (nI (L + 1))) (xh_ptrs h L) (nI w1) (nI 1) (nI 0) (va_up (xh_pnums h (xh_ptrs h L)) 0 v) (xh_prets h (xh_ptrs h L))) (UM (ms_lives (ms_vpointers g (nI (V + 1))) V 1) V (nI (w1 / 8)) (nI (w1 / 2 % 4)) (nI (w1 % 2)) (nI 1) (nI 0) (va_up (mh_stacks g) (24 * V) v) (mh_back g)) (L + 1) (V + 1) := by
    unfold PM0
    have e1 : ∀ a b c e f K, xh_ptrs (UX (xs_living h (nI (L + 1))) K a b c e f) = xh_ptrs h := by intro a b c e f K; simp only [UX_get, gx_living]
    have e2 : ∀ a b c e f K, xh_living (UX (xs_living h (nI (L + 1))) K a b c e f) = nI (L + 1) := by intro a b c e f K; simp only [UX_get, gx_living]
    have e3 : ∀ a b c e f x y, mh_lives (UM (ms_lives (ms_vpointers g (nI (V + 1))) V 1) V a b c e f x y) = va_up (mh_lives g) V 1 := by intro a b c e f x y; simp only [UM_get, gm_lives, gm_vpointers]
    have e4 : ∀ a b c e f x y, mh_vpointers (UM (ms_lives (ms_vpointers g (nI (V + 1))) V 1) V a b c e f x y) = nI (V + 1) := by intro a b c e f x y; simp only [UM_get, gm_lives, gm_vpointers]
    rw [e1, e2, e3, e4]
    refine ⟨rfl, rfl, by omega, by omega, p5, p6, fun x hx => ?_, ?_, fun x hx hlx => ?_⟩
    · by_cases hx2 : x = V
      · right; rw [hx2, up_eq]
      · rw [up_ne hx2]; exact p7 x (by omega)
    · rw [cnt_s, cnt_up1 (Nat.le_refl _), up_eq, if_neg (by decide), p8]
    · by_cases hx2 : x = V
      · subst hx2
        rw [cnt_up1 (Nat.le_refl _), p8]
        exact PX_own hw1 (by omega) hLn hTn
      · rw [up_ne hx2] at hlx
        rw [cnt_up1 (by omega)]
        have hcx : cnt (mh_lives g) x < L := by rw [← p8]; exact cnt_lt (by omega) (ne0 _ hlx)
        refine PX_frame (FX_r _) (FM_r _) (fun j hj => ?_) (fun j hj => ?_) (fun he => ?_) hx2 (PX_lv (p9 x (by omega) hlx))
        · rw [up_ne (by omega)]
          simp only [gm_lives, gm_vpointers]
        · simp only [gm_lives, gm_vpointers]
        · have := p6 _ _ (by omega) (by omega) he
          omega
  have hL2 : LK dn D (xh_pnums h (xh_ptrs h k)) (va_up (mh_stacks g) (24 * V) v) (va_up (mh_stacks g) (24 * V) v) := by
    refine ⟨hL.1, fun j hj => ?_, fun _ _ => rfl⟩
    have := hL.1
    rw [up_ne (by omega)]
    exact hL.2.1 j hj
  have eK : xh_ptrs h k = xh_ptrs h (cnt (mh_lives g) dn) := by rw [q6]
  have e5 : ∀ a b c e f x y, mh_lives (UM (ms_lives (ms_vpointers g (nI (V + 1))) V 1) V a b c e f x y) = va_up (mh_lives g) V 1 := by intro a b c e f x y; simp only [UM_get, gm_lives, gm_vpointers]
  have e6 : ∀ a b c e f K, xh_ptrs (UX (xs_living h (nI (L + 1))) K a b c e f) = xh_ptrs h := by intro a b c e f K; simp only [UX_get, gx_living]
  have hA := PM0_A (i := dn) (w := w) (D := D) (r := r) (n := xh_pnums h (xh_ptrs h k)) (s := xh_prets h (xh_ptrs h k)) (st := va_up (mh_stacks g) (24 * V) v) (ba := mh_back g) hP1 (by omega) (by rw [e5, up_ne (by omega)]; exact hlv) (FX_r _) (FM_r _) hw hr (by simp only [UM_get]; exact hL2) (by simp only [UM_get]; exact hT)
  rw [e5, e6, cnt_up1 (by omega), q6] at hA
  refine ⟨GL_U (GL_U hG1), SS_U (SS_U hS1 (FX_r _) (FM_r _)) (FX_r _) (FM_r _), L + 1, V + 1, hA, ?_⟩
  unfold PMx
  have e7 : ∀ a b c e f x y a' b' c' e' f' x' y', mh_lives (UM (UM (ms_lives (ms_vpointers g (nI (V + 1))) V 1) V a b c e f x y) dn a' b' c' e' f' x' y') = va_up (mh_lives g) V 1 := by intro a b c e f x y a' b' c' e' f' x' y'; simp only [UM_get, gm_lives, gm_vpointers]
  rw [e7]
  refine ⟨by omega, by omega, by omega, q4, fun x h1 h2 => ?_, ?_⟩
  · by_cases hx2 : x = V
    · rw [hx2, up_eq]
    · rw [up_ne hx2]; exact q5 x (by omega) (by omega)
  · rw [cnt_s, cnt_up1 (by omega), up_ne (by omega), hlv, if_neg (by decide), q6]
