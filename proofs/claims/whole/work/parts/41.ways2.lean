theorem li_0 : (0 : Int32) = nI 0 := rfl
theorem li_1 : (1 : Int32) = nI 1 := rfl
theorem li_2 : (2 : Int32) = nI 2 := rfl
theorem li_3 : (3 : Int32) = nI 3 := rfl
theorem li_4 : (4 : Int32) = nI 4 := rfl
theorem li_5 : (5 : Int32) = nI 5 := rfl
theorem li_6 : (6 : Int32) = nI 6 := rfl
theorem li_7 : (7 : Int32) = nI 7 := rfl
theorem li_8 : (8 : Int32) = nI 8 := rfl
theorem li_9 : (9 : Int32) = nI 9 := rfl
theorem li_10 : (10 : Int32) = nI 10 := rfl
theorem li_11 : (11 : Int32) = nI 11 := rfl
theorem li_12 : (12 : Int32) = nI 12 := rfl
theorem li_13 : (13 : Int32) = nI 13 := rfl
theorem li_14 : (14 : Int32) = nI 14 := rfl
theorem li_15 : (15 : Int32) = nI 15 := rfl
theorem li_16 : (16 : Int32) = nI 16 := rfl
theorem li_17 : (17 : Int32) = nI 17 := rfl
theorem li_18 : (18 : Int32) = nI 18 := rfl
theorem li_19 : (19 : Int32) = nI 19 := rfl
theorem li_20 : (20 : Int32) = nI 20 := rfl
theorem li_21 : (21 : Int32) = nI 21 := rfl
theorem li_22 : (22 : Int32) = nI 22 := rfl
theorem li_23 : (23 : Int32) = nI 23 := rfl
theorem li_24 : (24 : Int32) = nI 24 := rfl
theorem li_25 : (25 : Int32) = nI 25 := rfl
theorem li_26 : (26 : Int32) = nI 26 := rfl
theorem li_27 : (27 : Int32) = nI 27 := rfl
theorem li_28 : (28 : Int32) = nI 28 := rfl
theorem li_29 : (29 : Int32) = nI 29 := rfl
theorem li_30 : (30 : Int32) = nI 30 := rfl
theorem li_31 : (31 : Int32) = nI 31 := rfl
theorem li_32 : (32 : Int32) = nI 32 := rfl
theorem li_33 : (33 : Int32) = nI 33 := rfl
theorem li_34 : (34 : Int32) = nI 34 := rfl
theorem li_35 : (35 : Int32) = nI 35 := rfl
theorem li_36 : (36 : Int32) = nI 36 := rfl
theorem li_37 : (37 : Int32) = nI 37 := rfl
theorem li_38 : (38 : Int32) = nI 38 := rfl
theorem li_39 : (39 : Int32) = nI 39 := rfl
theorem li_40 : (40 : Int32) = nI 40 := rfl
theorem li_41 : (41 : Int32) = nI 41 := rfl
theorem li_42 : (42 : Int32) = nI 42 := rfl
theorem li_43 : (43 : Int32) = nI 43 := rfl
theorem li_44 : (44 : Int32) = nI 44 := rfl
theorem li_45 : (45 : Int32) = nI 45 := rfl
theorem li_46 : (46 : Int32) = nI 46 := rfl
theorem li_47 : (47 : Int32) = nI 47 := rfl
theorem li_48 : (48 : Int32) = nI 48 := rfl
theorem li_49 : (49 : Int32) = nI 49 := rfl
theorem li_50 : (50 : Int32) = nI 50 := rfl
theorem li_51 : (51 : Int32) = nI 51 := rfl
theorem li_52 : (52 : Int32) = nI 52 := rfl
theorem li_53 : (53 : Int32) = nI 53 := rfl
theorem li_54 : (54 : Int32) = nI 54 := rfl
theorem li_55 : (55 : Int32) = nI 55 := rfl
theorem li_56 : (56 : Int32) = nI 56 := rfl
theorem li_57 : (57 : Int32) = nI 57 := rfl
theorem li_58 : (58 : Int32) = nI 58 := rfl
theorem li_59 : (59 : Int32) = nI 59 := rfl
theorem li_60 : (60 : Int32) = nI 60 := rfl
theorem li_61 : (61 : Int32) = nI 61 := rfl
theorem li_62 : (62 : Int32) = nI 62 := rfl
theorem li_63 : (63 : Int32) = nI 63 := rfl
theorem li_64 : (64 : Int32) = nI 64 := rfl
theorem li_65 : (65 : Int32) = nI 65 := rfl
theorem li_66 : (66 : Int32) = nI 66 := rfl
theorem li_67 : (67 : Int32) = nI 67 := rfl
theorem li_68 : (68 : Int32) = nI 68 := rfl
theorem li_69 : (69 : Int32) = nI 69 := rfl
theorem li_70 : (70 : Int32) = nI 70 := rfl
theorem li_71 : (71 : Int32) = nI 71 := rfl
theorem li_72 : (72 : Int32) = nI 72 := rfl
theorem li_73 : (73 : Int32) = nI 73 := rfl
theorem li_74 : (74 : Int32) = nI 74 := rfl
theorem li_75 : (75 : Int32) = nI 75 := rfl
theorem li_76 : (76 : Int32) = nI 76 := rfl
theorem li_77 : (77 : Int32) = nI 77 := rfl
theorem li_78 : (78 : Int32) = nI 78 := rfl
theorem li_79 : (79 : Int32) = nI 79 := rfl
theorem li_80 : (80 : Int32) = nI 80 := rfl
theorem li_81 : (81 : Int32) = nI 81 := rfl
theorem li_82 : (82 : Int32) = nI 82 := rfl
theorem li_83 : (83 : Int32) = nI 83 := rfl
theorem li_84 : (84 : Int32) = nI 84 := rfl
theorem li_85 : (85 : Int32) = nI 85 := rfl
theorem li_86 : (86 : Int32) = nI 86 := rfl
theorem li_87 : (87 : Int32) = nI 87 := rfl
theorem li_88 : (88 : Int32) = nI 88 := rfl
theorem li_89 : (89 : Int32) = nI 89 := rfl
theorem li_90 : (90 : Int32) = nI 90 := rfl
theorem li_91 : (91 : Int32) = nI 91 := rfl
theorem li_92 : (92 : Int32) = nI 92 := rfl
theorem li_93 : (93 : Int32) = nI 93 := rfl
theorem li_94 : (94 : Int32) = nI 94 := rfl
theorem li_95 : (95 : Int32) = nI 95 := rfl
theorem li_96 : (96 : Int32) = nI 96 := rfl
theorem li_97 : (97 : Int32) = nI 97 := rfl
theorem li_98 : (98 : Int32) = nI 98 := rfl
theorem li_99 : (99 : Int32) = nI 99 := rfl
theorem li_100 : (100 : Int32) = nI 100 := rfl
theorem li_101 : (101 : Int32) = nI 101 := rfl
theorem li_102 : (102 : Int32) = nI 102 := rfl
theorem li_103 : (103 : Int32) = nI 103 := rfl
theorem li_104 : (104 : Int32) = nI 104 := rfl
theorem li_105 : (105 : Int32) = nI 105 := rfl
theorem li_106 : (106 : Int32) = nI 106 := rfl
theorem li_107 : (107 : Int32) = nI 107 := rfl
theorem li_108 : (108 : Int32) = nI 108 := rfl
theorem li_109 : (109 : Int32) = nI 109 := rfl
theorem li_110 : (110 : Int32) = nI 110 := rfl
theorem li_111 : (111 : Int32) = nI 111 := rfl
theorem li_112 : (112 : Int32) = nI 112 := rfl
theorem li_113 : (113 : Int32) = nI 113 := rfl
theorem li_114 : (114 : Int32) = nI 114 := rfl
theorem li_115 : (115 : Int32) = nI 115 := rfl
theorem li_116 : (116 : Int32) = nI 116 := rfl
theorem li_117 : (117 : Int32) = nI 117 := rfl
theorem li_118 : (118 : Int32) = nI 118 := rfl
theorem li_119 : (119 : Int32) = nI 119 := rfl
theorem li_120 : (120 : Int32) = nI 120 := rfl
theorem li_121 : (121 : Int32) = nI 121 := rfl
theorem li_122 : (122 : Int32) = nI 122 := rfl
theorem li_123 : (123 : Int32) = nI 123 := rfl
theorem li_124 : (124 : Int32) = nI 124 := rfl
theorem li_125 : (125 : Int32) = nI 125 := rfl
theorem li_126 : (126 : Int32) = nI 126 := rfl
theorem li_127 : (127 : Int32) = nI 127 := rfl
theorem li_192 : (192 : Int32) = nI 192 := rfl
theorem li_768 : (768 : Int32) = nI 768 := rfl
theorem li_2880 : (2880 : Int32) = nI 2880 := rfl
theorem li_1000 : (1000 : Int32) = nI 1000 := rfl
theorem li_255 : (255 : Int32) = nI 255 := rfl
theorem nqe {a b : Nat} (ha : a < 2 ^ 31) (hb : b < 2 ^ 31) : (nI a = nI b) = (a = b) := propext (nI_eq ha hb)
theorem nql {a b : Nat} (ha : a < 2 ^ 31) (hb : b < 2 ^ 31) : (nI a ≤ nI b) = (a ≤ b) := propext (nI_leI ha hb)
theorem nqt {a b : Nat} (ha : a < 2 ^ 31) (hb : b < 2 ^ 31) : (nI a < nI b) = (a < b) := propext (nI_ltI ha hb)
theorem nI_neq {a b : Nat} (h : a ≠ b) (ha : a < 2 ^ 31) (hb : b < 2 ^ 31) : ¬ nI a = nI b := fun e => h ((nI_eq ha hb).mp e)
theorem wy_behind {w c : Nat} (hw : w < 768) (hc : c < 127) : xf_Way_behind (nI w) (nI c) = nI (bh w c) := by
  by_cases h34 : c = 34
  · subst h34; exact bh_34 w hw
  by_cases h62 : c = 62
  · subst h62; exact bh_62 w hw
  by_cases h118 : c = 118
  · subst h118; exact bh_118 w hw
  by_cases h60 : c = 60
  · subst h60; exact bh_60 w hw
  by_cases h94 : c = 94
  · subst h94; exact bh_94 w hw
  by_cases h47 : c = 47
  · subst h47; exact bh_47 w hw
  by_cases h92 : c = 92
  · subst h92; exact bh_92 w hw
  by_cases h35 : c = 35
  · subst h35; exact bh_35 w hw
  have e : xf_Way_behind (nI w) (nI c) = xf_Way_behind (nI w) 32 := by
    unfold xf_Way_behind
    simp (disch := omega) only [li_34, li_35, li_47, li_60, li_62, li_92, li_94, li_118, li_32, nqe, h34, h35, h47, h60, h62, h92, h94, h118, if_false]
    simp
  rw [e, bh_32 w hw]
  congr 1
  unfold bh tn
  simp [h34, h62, h118, h60, h94, h47, h92, h35]
theorem tn_lt {c d : Nat} (hd : d < 4) : tn c d < 4 := by
  unfold tn
  repeat' split
  all_goals omega
theorem bh_lt {w c : Nat} (hw : w < 768) : bh w c < 768 := by
  unfold bh
  have h1 := mv_lt (w / 8) (by omega) (w / 2 % 4) (by omega)
  have h2 := mv_lt (w / 8) (by omega) (tn c (w / 2 % 4)) (tn_lt (by omega))
  have h3 := mv_lt _ h2 (tn c (w / 2 % 4)) (tn_lt (by omega))
  have h4 := tn_lt (c := c) (d := w / 2 % 4) (by omega)
  repeat' split
  all_goals omega
theorem tn_47 : ∀ d, d < 4 → mf_M_turned 47 (nI d) = nI (tn 47 d) := by decide +kernel
theorem tn_92 : ∀ d, d < 4 → mf_M_turned 92 (nI d) = nI (tn 92 d) := by decide +kernel
theorem mm_turned {c d : Nat} (hc : c < 127) (hd : d < 4) : mf_M_turned (nI c) (nI d) = nI (tn c d) := by
  by_cases h47 : c = 47
  · subst h47; exact tn_47 d hd
  by_cases h92 : c = 92
  · subst h92; exact tn_92 d hd
  by_cases h62 : c = 62
  · subst h62; rfl
  by_cases h118 : c = 118
  · subst h118; rfl
  by_cases h60 : c = 60
  · subst h60; rfl
  by_cases h94 : c = 94
  · subst h94; rfl
  unfold mf_M_turned tn
  simp (disch := omega) only [li_34, li_35, li_47, li_60, li_62, li_92, li_94, li_118, nqe, h47, h60, h62, h92, h94, h118, if_false]
theorem dv8 {w : Nat} (h : w < 2 ^ 31) : nI w / (8 : Int32) = nI (w / 8) := pk_div (d := 8) h (by omega) (by omega)
theorem dv2 {w : Nat} (h : w < 2 ^ 31) : nI w / (2 : Int32) = nI (w / 2) := pk_div (d := 2) h (by omega) (by omega)
theorem dv12 {w : Nat} (h : w < 2 ^ 31) : nI w / (12 : Int32) = nI (w / 12) := pk_div (d := 12) h (by omega) (by omega)
theorem dv4 {w : Nat} (h : w < 2 ^ 31) : nI w / (4 : Int32) = nI (w / 4) := pk_div (d := 4) h (by omega) (by omega)
theorem rm2 {w : Nat} (h : w < 2 ^ 31) : nI w - nI w / (2 : Int32) * (2 : Int32) = nI (w % 2) := pk_rem (d := 2) h (by omega) (by omega)
theorem rm4 {w : Nat} (h : w < 2 ^ 31) : nI w - nI w / (4 : Int32) * (4 : Int32) = nI (w % 4) := pk_rem (d := 4) h (by omega) (by omega)
theorem rm12 {w : Nat} (h : w < 2 ^ 31) : nI w - nI w / (12 : Int32) * (12 : Int32) = nI (w % 12) := pk_rem (d := 12) h (by omega) (by omega)
theorem way3 (p t q : Nat) : ((8 : Int32) * nI p) + ((2 : Int32) * nI t) + nI q = nI (8 * p + 2 * t + q) := by
  rw [show (8 : Int32) = nI 8 from rfl, show (2 : Int32) = nI 2 from rfl, pk_mul, pk_mul, nI_add, nI_add]
theorem mm_after {w c : Nat} {g : MH} (hw : w < 768) (hc : c < 127) (hf : mh_field g (w / 8) = nI c) : mf_M_after (nI w) g = some (nI (bh w c)) := by
  unfold mf_M_after
  rw [dv8 (by omega), gd_nI (by omega) (by omega), Option.bind_some, rm2 (by omega), dv2 (by omega), rm4 (by omega), hf]
  unfold bh
  have ht := tn_lt (c := c) (d := w / 2 % 4) (by omega)
  have h2 := mv_lt (w / 8) (by omega) _ ht
  rw [mm_turned hc (by omega), mm_moved _ (by omega) _ (by omega), mm_moved _ (by omega) _ ht, mm_moved _ h2 _ ht]
  unfold mf_M_after_J87
  rw [show (((8 : Int32) * nI (mv (w / 8) (w / 2 % 4))) + ((2 : Int32) * nI (w / 2 % 4))) + (0 : Int32) = _ from way3 _ _ 0, show (((8 : Int32) * nI (mv (w / 8) (w / 2 % 4))) + ((2 : Int32) * nI (w / 2 % 4))) + (1 : Int32) = _ from way3 _ _ 1,
    show (((8 : Int32) * nI (mv (w / 8) (tn c (w / 2 % 4)))) + ((2 : Int32) * nI (tn c (w / 2 % 4)))) + (0 : Int32) = _ from way3 _ _ 0, show (((8 : Int32) * nI (mv (w / 8) (tn c (w / 2 % 4)))) + ((2 : Int32) * nI (tn c (w / 2 % 4)))) + (1 : Int32) = _ from way3 _ _ 1,
    show (((8 : Int32) * nI (mv (mv (w / 8) (tn c (w / 2 % 4))) (tn c (w / 2 % 4)))) + ((2 : Int32) * nI (tn c (w / 2 % 4)))) + (0 : Int32) = _ from way3 _ _ 0, show (((8 : Int32) * nI (mv (mv (w / 8) (tn c (w / 2 % 4))) (tn c (w / 2 % 4)))) + ((2 : Int32) * nI (tn c (w / 2 % 4)))) + (1 : Int32) = _ from way3 _ _ 1]
  simp (disch := omega) only [li_34, li_35, li_1, nqe]
  by_cases hq : w % 2 = 1 <;> by_cases h34 : c = 34 <;> by_cases h35 : c = 35 <;> simp [hq, h34, h35]
  all_goals omega
/-- the signs that act -/
def ac (c : Nat) : Prop := c = 63 ∨ c = 110 ∨ c = 98 ∨ c = 105 ∨ c = 119 ∨ c = 67 ∨ c = 82 ∨ c = 102 ∨ c = 64
theorem mm_isAct {c : Nat} (hc : c < 127) : (mf_M_isAct (nI c) = 0 ↔ ¬ ac c) ∧ (mf_M_isAct (nI c) = 1 ↔ ac c) := by
  have : ∀ c, c < 127 → (mf_M_isAct (nI c) = 0 ↔ ¬ (c = 63 ∨ c = 110 ∨ c = 98 ∨ c = 105 ∨ c = 119 ∨ c = 67 ∨ c = 82 ∨ c = 102 ∨ c = 64)) ∧ (mf_M_isAct (nI c) = 1 ↔ (c = 63 ∨ c = 110 ∨ c = 98 ∨ c = 105 ∨ c = 119 ∨ c = 67 ∨ c = 82 ∨ c = 102 ∨ c = 64)) := by decide +kernel
  exact this c hc
theorem xx_isAct {w c : Nat} (hw : w < 768) (hc : c < 127) : (xf_P_isAct (nI w) (nI c) = 0 ↔ ¬ (w % 2 = 0 ∧ ac c)) := by
  have h1 : ∀ c, c < 127 → (xf_P_isAct 0 (nI c) = 0 ↔ ¬ (c = 63 ∨ c = 110 ∨ c = 98 ∨ c = 105 ∨ c = 119 ∨ c = 67 ∨ c = 82 ∨ c = 102 ∨ c = 64)) := by decide +kernel
  by_cases hq : w % 2 = 1
  · unfold xf_P_isAct
    rw [wy_quo w hw, hq, if_pos (show nI 1 = (1 : Int32) from rfl)]
    exact ⟨fun _ h => by omega, fun _ => rfl⟩
  · have e : xf_P_isAct (nI w) (nI c) = xf_P_isAct 0 (nI c) := by
      unfold xf_P_isAct
      rw [wy_quo w hw, show w % 2 = 0 by omega]
      rfl
    rw [e, h1 c hc]
    unfold ac
    exact ⟨fun h1 h2 => h1 h2.2, fun h1 h2 => h1 ⟨by omega, h2⟩⟩
