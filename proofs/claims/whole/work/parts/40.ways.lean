/-! numbers of the field: places, directions, ways -/
def mv (p d : Nat) : Nat := if d = 0 then 12 * (p / 12) + (p % 12 + 1) % 12 else if d = 1 then 12 * ((p / 12 + 1) % 8) + p % 12 else if d = 2 then 12 * (p / 12) + (p % 12 + 11) % 12 else 12 * ((p / 12 + 7) % 8) + p % 12
def tn (c d : Nat) : Nat := if c = 62 then 0 else if c = 118 then 1 else if c = 60 then 2 else if c = 94 then 3 else if c = 47 then 3 - d else if c = 92 then (if d % 2 = 0 then d + 1 else d - 1) else d
def bh (w c : Nat) : Nat := if w % 2 = 1 then 8 * mv (w / 8) (w / 2 % 4) + 2 * (w / 2 % 4) + (if c = 34 then 0 else 1) else 8 * (if c = 35 then mv (mv (w / 8) (tn c (w / 2 % 4))) (tn c (w / 2 % 4)) else mv (w / 8) (tn c (w / 2 % 4))) + 2 * tn c (w / 2 % 4) + (if c = 34 then 1 else 0)
theorem mv_lt : ∀ p, p < 96 → ∀ d, d < 4 → mv p d < 96 := by decide +kernel
theorem wy_place : ∀ w, w < 768 → xf_Way_place (nI w) = nI (w / 8) := by decide +kernel
theorem wy_dir : ∀ w, w < 768 → xf_Way_direction (nI w) = nI (w / 2 % 4) := by decide +kernel
theorem wy_quo : ∀ w, w < 768 → xf_Way_quotes (nI w) = nI (w % 2) := by decide +kernel
theorem wy_ahead : ∀ w, w < 768 → xf_Way_ahead (nI w) = nI (8 * mv (w / 8) (w / 2 % 4) + w % 8) := by decide +kernel
theorem wy_right : ∀ w, w < 768 → xf_Way_turned (nI w) 1 = nI (8 * (w / 8) + 2 * ((w / 2 % 4 + 1) % 4) + w % 2) := by decide +kernel
theorem wy_left : ∀ w, w < 768 → xf_Way_turned (nI w) 3 = nI (8 * (w / 8) + 2 * ((w / 2 % 4 + 3) % 4) + w % 2) := by decide +kernel
theorem wy_of : ∀ p, p < 96 → ∀ d, d < 4 → ∀ q, q < 2 → xf_Way_of (nI p) (nI d) (nI q) = nI (8 * p + 2 * d + q) := by decide +kernel
theorem mm_moved : ∀ p, p < 96 → ∀ d, d < 4 → mf_M_moved (nI p) (nI d) = nI (mv p d) := by decide +kernel
theorem bh_34 : ∀ w, w < 768 → xf_Way_behind (nI w) 34 = nI (bh w 34) := by decide +kernel
theorem bh_62 : ∀ w, w < 768 → xf_Way_behind (nI w) 62 = nI (bh w 62) := by decide +kernel
theorem bh_118 : ∀ w, w < 768 → xf_Way_behind (nI w) 118 = nI (bh w 118) := by decide +kernel
theorem bh_60 : ∀ w, w < 768 → xf_Way_behind (nI w) 60 = nI (bh w 60) := by decide +kernel
theorem bh_94 : ∀ w, w < 768 → xf_Way_behind (nI w) 94 = nI (bh w 94) := by decide +kernel
theorem bh_47 : ∀ w, w < 768 → xf_Way_behind (nI w) 47 = nI (bh w 47) := by decide +kernel
theorem bh_92 : ∀ w, w < 768 → xf_Way_behind (nI w) 92 = nI (bh w 92) := by decide +kernel
theorem bh_35 : ∀ w, w < 768 → xf_Way_behind (nI w) 35 = nI (bh w 35) := by decide +kernel
theorem bh_32 : ∀ w, w < 768 → xf_Way_behind (nI w) 32 = nI (bh w 32) := by decide +kernel
