def xtys (cA : Nat → ClassId) : List (ClassId × FieldType) := [(cA 0, .int), (cA 1, .char), (cA 2, .long), (cA 3, .object "DrawnPaths$Block"), (cA 4, .object "DrawnPaths$Pointer")]
def xct (cA : Nat → ClassId) (ad : Nat → Nat) (h : XH) (i : Nat) : va_E :=
  if i = 0 then .inr (0, [.ref (ad 1), .ref (ad 4), .ref (ad 6), .ref (ad 10), .ref (ad (1 + 13)), .ref (ad (2 + 13))]) else
  if i = 1 then .inr (2, [.ref (ad 2), .ref (ad 3), .int (xh_held h), .int (xh_dropped h)]) else
  if i = 2 then .inl (cA 3, 30, .inr (.inr (.inr (.inr (fun j => some (ad (xh_row h j + 31))))))) else
  if i = 3 then .inl (cA 0, 96, .inl (xh_bmarks h)) else
  if i = 4 then .inr (3, [.ref (ad 5), .ref (ad 1)]) else
  if i = 5 then .inl (cA 1, 96, .inl (xh_signs h)) else
  if i = 6 then .inr (6, [.ref (ad 4), .ref (ad 7), .ref (ad 8), .ref (ad 9), .ref (ad (0 + 13)), .int (xh_living h), .int (xh_given h), .int (xh_read h), .int (xh_steps h), .int (xh_stopped h)]) else
  if i = 7 then .inl (cA 4, 4, .inr (.inr (.inr (.inr (fun j => some (ad (xh_ptrs h j + 19))))))) else
  if i = 8 then .inl (cA 2, 40, .inr (.inl (xh_innums h))) else
  if i = 9 then .inl (cA 1, 20, .inl (xh_digits h)) else
  if i = 10 then .inr (7, [.ref (ad 11), .ref (ad 12), .int (xh_ssize h)]) else
  if i = 11 then .inl (cA 0, 96, .inl (xh_smarks h)) else
  if i = 12 then .inl (cA 0, 768, .inl (xh_sfound h)) else
  if i < 16 then .inr (4, [.ref (ad ((i - 13) + 16)), .int (xh_lsize h (i - 13))]) else
  if i < 19 then .inl (cA 1, (xh_cap (i - 16)), .inl (xh_lchars h (i - 16))) else
  if i < 23 then .inr (5, [.ref (ad ((i - 19) + 23)), .ref (ad ((i - 19) + 27)), .int (xh_pway h (i - 19)), .int (xh_pdepth h (i - 19)), .int (xh_pret h (i - 19))]) else
  if i < 27 then .inl (cA 2, 24, .inr (.inl (xh_pnums h (i - 23)))) else
  if i < 31 then .inl (cA 0, 8, .inl (xh_prets h (i - 27))) else
  if i < 61 then .inr (1, [.int (xh_bbegin h (i - 31)), .int (xh_bbehind h (i - 31)), .int (xh_bsize h (i - 31)), .long (xh_blow h (i - 31)), .long (xh_bhigh h (i - 31))]) else .inr (0, [])
def xW (cA : Nat → ClassId) (ad : Nat → Nat) (h : XH) : va_W := wdG 61 ad (xct cA ad h)
theorem xw_DP {cA : Nat → ClassId} {ad : Nat → Nat} {h : XH} : (xW cA ad h)[0]? = some (ad 0, .inr (0, [.ref (ad 1), .ref (ad 4), .ref (ad 6), .ref (ad 10), .ref (ad (1 + 13)), .ref (ad (2 + 13))])) := wdG_at (by decide) (by simp [xct])
theorem xw_Blocks {cA : Nat → ClassId} {ad : Nat → Nat} {h : XH} : (xW cA ad h)[1]? = some (ad 1, .inr (2, [.ref (ad 2), .ref (ad 3), .int (xh_held h), .int (xh_dropped h)])) := wdG_at (by decide) (by simp [xct])
theorem xw_Row {cA : Nat → ClassId} {ad : Nat → Nat} {h : XH} : (xW cA ad h)[2]? = some (ad 2, .inl (cA 3, 30, .inr (.inr (.inr (.inr (fun j => some (ad (xh_row h j + 31)))))))) := wdG_at (by decide) (by simp [xct])
theorem xw_BMarks {cA : Nat → ClassId} {ad : Nat → Nat} {h : XH} : (xW cA ad h)[3]? = some (ad 3, .inl (cA 0, 96, .inl (xh_bmarks h))) := wdG_at (by decide) (by simp [xct])
theorem xw_Field {cA : Nat → ClassId} {ad : Nat → Nat} {h : XH} : (xW cA ad h)[4]? = some (ad 4, .inr (3, [.ref (ad 5), .ref (ad 1)])) := wdG_at (by decide) (by simp [xct])
theorem xw_Signs {cA : Nat → ClassId} {ad : Nat → Nat} {h : XH} : (xW cA ad h)[5]? = some (ad 5, .inl (cA 1, 96, .inl (xh_signs h))) := wdG_at (by decide) (by simp [xct])
theorem xw_Run {cA : Nat → ClassId} {ad : Nat → Nat} {h : XH} : (xW cA ad h)[6]? = some (ad 6, .inr (6, [.ref (ad 4), .ref (ad 7), .ref (ad 8), .ref (ad 9), .ref (ad (0 + 13)), .int (xh_living h), .int (xh_given h), .int (xh_read h), .int (xh_steps h), .int (xh_stopped h)])) := wdG_at (by decide) (by simp [xct])
theorem xw_PArr {cA : Nat → ClassId} {ad : Nat → Nat} {h : XH} : (xW cA ad h)[7]? = some (ad 7, .inl (cA 4, 4, .inr (.inr (.inr (.inr (fun j => some (ad (xh_ptrs h j + 19)))))))) := wdG_at (by decide) (by simp [xct])
theorem xw_InNums {cA : Nat → ClassId} {ad : Nat → Nat} {h : XH} : (xW cA ad h)[8]? = some (ad 8, .inl (cA 2, 40, .inr (.inl (xh_innums h)))) := wdG_at (by decide) (by simp [xct])
theorem xw_Digits {cA : Nat → ClassId} {ad : Nat → Nat} {h : XH} : (xW cA ad h)[9]? = some (ad 9, .inl (cA 1, 20, .inl (xh_digits h))) := wdG_at (by decide) (by simp [xct])
theorem xw_Search {cA : Nat → ClassId} {ad : Nat → Nat} {h : XH} : (xW cA ad h)[10]? = some (ad 10, .inr (7, [.ref (ad 11), .ref (ad 12), .int (xh_ssize h)])) := wdG_at (by decide) (by simp [xct])
theorem xw_SMarks {cA : Nat → ClassId} {ad : Nat → Nat} {h : XH} : (xW cA ad h)[11]? = some (ad 11, .inl (cA 0, 96, .inl (xh_smarks h))) := wdG_at (by decide) (by simp [xct])
theorem xw_SFound {cA : Nat → ClassId} {ad : Nat → Nat} {h : XH} : (xW cA ad h)[12]? = some (ad 12, .inl (cA 0, 768, .inl (xh_sfound h))) := wdG_at (by decide) (by simp [xct])
theorem xw_Line {cA : Nat → ClassId} {ad : Nat → Nat} {h : XH} {k : Nat} (hk : k < 3) : (xW cA ad h)[k + 13]? = some (ad (k + 13), .inr (4, [.ref (ad (k + 16)), .int (xh_lsize h k)])) := wdG_at (by omega) (by
  unfold xct
  rw [if_neg (by omega)]
  rw [if_neg (by omega)]
  rw [if_neg (by omega)]
  rw [if_neg (by omega)]
  rw [if_neg (by omega)]
  rw [if_neg (by omega)]
  rw [if_neg (by omega)]
  rw [if_neg (by omega)]
  rw [if_neg (by omega)]
  rw [if_neg (by omega)]
  rw [if_neg (by omega)]
  rw [if_neg (by omega)]
  rw [if_neg (by omega)]
  rw [if_pos (by omega), Nat.add_sub_cancel])
theorem xw_LineCh {cA : Nat → ClassId} {ad : Nat → Nat} {h : XH} {k : Nat} (hk : k < 3) : (xW cA ad h)[k + 16]? = some (ad (k + 16), .inl (cA 1, (xh_cap k), .inl (xh_lchars h k))) := wdG_at (by omega) (by
  unfold xct
  rw [if_neg (by omega)]
  rw [if_neg (by omega)]
  rw [if_neg (by omega)]
  rw [if_neg (by omega)]
  rw [if_neg (by omega)]
  rw [if_neg (by omega)]
  rw [if_neg (by omega)]
  rw [if_neg (by omega)]
  rw [if_neg (by omega)]
  rw [if_neg (by omega)]
  rw [if_neg (by omega)]
  rw [if_neg (by omega)]
  rw [if_neg (by omega)]
  rw [if_neg (by omega)]
  rw [if_pos (by omega), Nat.add_sub_cancel])
theorem xw_Pointer {cA : Nat → ClassId} {ad : Nat → Nat} {h : XH} {k : Nat} (hk : k < 4) : (xW cA ad h)[k + 19]? = some (ad (k + 19), .inr (5, [.ref (ad (k + 23)), .ref (ad (k + 27)), .int (xh_pway h k), .int (xh_pdepth h k), .int (xh_pret h k)])) := wdG_at (by omega) (by
  unfold xct
  rw [if_neg (by omega)]
  rw [if_neg (by omega)]
  rw [if_neg (by omega)]
  rw [if_neg (by omega)]
  rw [if_neg (by omega)]
  rw [if_neg (by omega)]
  rw [if_neg (by omega)]
  rw [if_neg (by omega)]
  rw [if_neg (by omega)]
  rw [if_neg (by omega)]
  rw [if_neg (by omega)]
  rw [if_neg (by omega)]
  rw [if_neg (by omega)]
  rw [if_neg (by omega)]
  rw [if_neg (by omega)]
  rw [if_pos (by omega), Nat.add_sub_cancel])
theorem xw_PNums {cA : Nat → ClassId} {ad : Nat → Nat} {h : XH} {k : Nat} (hk : k < 4) : (xW cA ad h)[k + 23]? = some (ad (k + 23), .inl (cA 2, 24, .inr (.inl (xh_pnums h k)))) := wdG_at (by omega) (by
  unfold xct
  rw [if_neg (by omega)]
  rw [if_neg (by omega)]
  rw [if_neg (by omega)]
  rw [if_neg (by omega)]
  rw [if_neg (by omega)]
  rw [if_neg (by omega)]
  rw [if_neg (by omega)]
  rw [if_neg (by omega)]
  rw [if_neg (by omega)]
  rw [if_neg (by omega)]
  rw [if_neg (by omega)]
  rw [if_neg (by omega)]
  rw [if_neg (by omega)]
  rw [if_neg (by omega)]
  rw [if_neg (by omega)]
  rw [if_neg (by omega)]
  rw [if_pos (by omega), Nat.add_sub_cancel])
theorem xw_PRets {cA : Nat → ClassId} {ad : Nat → Nat} {h : XH} {k : Nat} (hk : k < 4) : (xW cA ad h)[k + 27]? = some (ad (k + 27), .inl (cA 0, 8, .inl (xh_prets h k))) := wdG_at (by omega) (by
  unfold xct
  rw [if_neg (by omega)]
  rw [if_neg (by omega)]
  rw [if_neg (by omega)]
  rw [if_neg (by omega)]
  rw [if_neg (by omega)]
  rw [if_neg (by omega)]
  rw [if_neg (by omega)]
  rw [if_neg (by omega)]
  rw [if_neg (by omega)]
  rw [if_neg (by omega)]
  rw [if_neg (by omega)]
  rw [if_neg (by omega)]
  rw [if_neg (by omega)]
  rw [if_neg (by omega)]
  rw [if_neg (by omega)]
  rw [if_neg (by omega)]
  rw [if_neg (by omega)]
  rw [if_pos (by omega), Nat.add_sub_cancel])
theorem xw_Block {cA : Nat → ClassId} {ad : Nat → Nat} {h : XH} {k : Nat} (hk : k < 30) : (xW cA ad h)[k + 31]? = some (ad (k + 31), .inr (1, [.int (xh_bbegin h k), .int (xh_bbehind h k), .int (xh_bsize h k), .long (xh_blow h k), .long (xh_bhigh h k)])) := wdG_at (by omega) (by
  unfold xct
  rw [if_neg (by omega)]
  rw [if_neg (by omega)]
  rw [if_neg (by omega)]
  rw [if_neg (by omega)]
  rw [if_neg (by omega)]
  rw [if_neg (by omega)]
  rw [if_neg (by omega)]
  rw [if_neg (by omega)]
  rw [if_neg (by omega)]
  rw [if_neg (by omega)]
  rw [if_neg (by omega)]
  rw [if_neg (by omega)]
  rw [if_neg (by omega)]
  rw [if_neg (by omega)]
  rw [if_neg (by omega)]
  rw [if_neg (by omega)]
  rw [if_neg (by omega)]
  rw [if_neg (by omega)]
  rw [if_pos (by omega), Nat.add_sub_cancel])
theorem xo_held {cA : Nat → ClassId} {ad : Nat → Nat} {h : XH} {v : Int32} {j : Nat} (hne : j ≠ 1) : xct cA ad (xs_held h v) j = xct cA ad h j := ic (fun _ => rfl) (fun h0_ => ic (fun hc => absurd hc hne) (fun _ => rfl))
theorem xe_held {cA : Nat → ClassId} {ad : Nat → Nat} {h : XH} {v : Int32} : xct cA ad (xs_held h v) (1) = .inr (2, [.ref (ad 2), .ref (ad 3), .int v, .int (xh_dropped h)]) := by
  unfold xct
  rw [if_neg (by omega)]
  rw [if_pos (by omega)]
  try rfl
theorem xo_dropped {cA : Nat → ClassId} {ad : Nat → Nat} {h : XH} {v : Int32} {j : Nat} (hne : j ≠ 1) : xct cA ad (xs_dropped h v) j = xct cA ad h j := ic (fun _ => rfl) (fun h0_ => ic (fun hc => absurd hc hne) (fun _ => rfl))
theorem xe_dropped {cA : Nat → ClassId} {ad : Nat → Nat} {h : XH} {v : Int32} : xct cA ad (xs_dropped h v) (1) = .inr (2, [.ref (ad 2), .ref (ad 3), .int (xh_held h), .int v]) := by
  unfold xct
  rw [if_neg (by omega)]
  rw [if_pos (by omega)]
  try rfl
theorem xo_row {cA : Nat → ClassId} {ad : Nat → Nat} {h : XH} {j0 : Nat} {v : Nat} {j : Nat} (hne : j ≠ 2) : xct cA ad (xs_row h j0 v) j = xct cA ad h j := ic (fun _ => rfl) (fun h0_ => ic (fun _ => rfl) (fun h1_ => ic (fun hc => absurd hc hne) (fun _ => rfl)))
theorem xe_row {cA : Nat → ClassId} {ad : Nat → Nat} {h : XH} {j0 : Nat} {v : Nat} : xct cA ad (xs_row h j0 v) (2) = .inl (cA 3, 30, .inr (.inr (.inr (.inr (va_up (fun j => some (ad (xh_row h j + 31))) j0 (some (ad (v + 31)))))))) := by
  unfold xct
  rw [if_neg (by omega)]
  rw [if_neg (by omega)]
  rw [if_pos (by omega)]
  exact congrArg (fun f9 => (Sum.inl (cA 3, 30, Sum.inr (Sum.inr (Sum.inr (Sum.inr f9)))) : va_E)) (rf_up ad (xh_row h) j0 v 31)
theorem xo_bmarks {cA : Nat → ClassId} {ad : Nat → Nat} {h : XH} {j0 : Nat} {v : Int32} {j : Nat} (hne : j ≠ 3) : xct cA ad (xs_bmarks h j0 v) j = xct cA ad h j := ic (fun _ => rfl) (fun h0_ => ic (fun _ => rfl) (fun h1_ => ic (fun _ => rfl) (fun h2_ => ic (fun hc => absurd hc hne) (fun _ => rfl))))
theorem xe_bmarks {cA : Nat → ClassId} {ad : Nat → Nat} {h : XH} {j0 : Nat} {v : Int32} : xct cA ad (xs_bmarks h j0 v) (3) = .inl (cA 0, 96, .inl (va_up (xh_bmarks h) j0 v)) := by
  unfold xct
  rw [if_neg (by omega)]
  rw [if_neg (by omega)]
  rw [if_neg (by omega)]
  rw [if_pos (by omega)]
  try rfl
theorem xo_signs {cA : Nat → ClassId} {ad : Nat → Nat} {h : XH} {j0 : Nat} {v : Int32} {j : Nat} (hne : j ≠ 5) : xct cA ad (xs_signs h j0 v) j = xct cA ad h j := ic (fun _ => rfl) (fun h0_ => ic (fun _ => rfl) (fun h1_ => ic (fun _ => rfl) (fun h2_ => ic (fun _ => rfl) (fun h3_ => ic (fun _ => rfl) (fun h4_ => ic (fun hc => absurd hc hne) (fun _ => rfl))))))
theorem xe_signs {cA : Nat → ClassId} {ad : Nat → Nat} {h : XH} {j0 : Nat} {v : Int32} : xct cA ad (xs_signs h j0 v) (5) = .inl (cA 1, 96, .inl (va_up (xh_signs h) j0 v)) := by
  unfold xct
  rw [if_neg (by omega)]
  rw [if_neg (by omega)]
  rw [if_neg (by omega)]
  rw [if_neg (by omega)]
  rw [if_neg (by omega)]
  rw [if_pos (by omega)]
  try rfl
theorem xoc_signs {cA : Nat → ClassId} {ad : Nat → Nat} {h : XH} {f0 : Nat → Int32} {j : Nat} (hne : j ≠ 5) : xct cA ad (xc_signs h f0) j = xct cA ad h j := ic (fun _ => rfl) (fun h0_ => ic (fun _ => rfl) (fun h1_ => ic (fun _ => rfl) (fun h2_ => ic (fun _ => rfl) (fun h3_ => ic (fun _ => rfl) (fun h4_ => ic (fun hc => absurd hc hne) (fun _ => rfl))))))
theorem xec_signs {cA : Nat → ClassId} {ad : Nat → Nat} {h : XH} {f0 : Nat → Int32} : xct cA ad (xc_signs h f0) (5) = .inl (cA 1, 96, .inl f0) := by
  unfold xct
  rw [if_neg (by omega)]
  rw [if_neg (by omega)]
  rw [if_neg (by omega)]
  rw [if_neg (by omega)]
  rw [if_neg (by omega)]
  rw [if_pos (by omega)]
  try rfl
theorem xo_living {cA : Nat → ClassId} {ad : Nat → Nat} {h : XH} {v : Int32} {j : Nat} (hne : j ≠ 6) : xct cA ad (xs_living h v) j = xct cA ad h j := ic (fun _ => rfl) (fun h0_ => ic (fun _ => rfl) (fun h1_ => ic (fun _ => rfl) (fun h2_ => ic (fun _ => rfl) (fun h3_ => ic (fun _ => rfl) (fun h4_ => ic (fun _ => rfl) (fun h5_ => ic (fun hc => absurd hc hne) (fun _ => rfl)))))))
theorem xe_living {cA : Nat → ClassId} {ad : Nat → Nat} {h : XH} {v : Int32} : xct cA ad (xs_living h v) (6) = .inr (6, [.ref (ad 4), .ref (ad 7), .ref (ad 8), .ref (ad 9), .ref (ad (0 + 13)), .int v, .int (xh_given h), .int (xh_read h), .int (xh_steps h), .int (xh_stopped h)]) := by
  unfold xct
  rw [if_neg (by omega)]
  rw [if_neg (by omega)]
  rw [if_neg (by omega)]
  rw [if_neg (by omega)]
  rw [if_neg (by omega)]
  rw [if_neg (by omega)]
  rw [if_pos (by omega)]
  try rfl
theorem xo_given {cA : Nat → ClassId} {ad : Nat → Nat} {h : XH} {v : Int32} {j : Nat} (hne : j ≠ 6) : xct cA ad (xs_given h v) j = xct cA ad h j := ic (fun _ => rfl) (fun h0_ => ic (fun _ => rfl) (fun h1_ => ic (fun _ => rfl) (fun h2_ => ic (fun _ => rfl) (fun h3_ => ic (fun _ => rfl) (fun h4_ => ic (fun _ => rfl) (fun h5_ => ic (fun hc => absurd hc hne) (fun _ => rfl)))))))
theorem xe_given {cA : Nat → ClassId} {ad : Nat → Nat} {h : XH} {v : Int32} : xct cA ad (xs_given h v) (6) = .inr (6, [.ref (ad 4), .ref (ad 7), .ref (ad 8), .ref (ad 9), .ref (ad (0 + 13)), .int (xh_living h), .int v, .int (xh_read h), .int (xh_steps h), .int (xh_stopped h)]) := by
  unfold xct
  rw [if_neg (by omega)]
  rw [if_neg (by omega)]
  rw [if_neg (by omega)]
  rw [if_neg (by omega)]
  rw [if_neg (by omega)]
  rw [if_neg (by omega)]
  rw [if_pos (by omega)]
  try rfl
theorem xo_read {cA : Nat → ClassId} {ad : Nat → Nat} {h : XH} {v : Int32} {j : Nat} (hne : j ≠ 6) : xct cA ad (xs_read h v) j = xct cA ad h j := ic (fun _ => rfl) (fun h0_ => ic (fun _ => rfl) (fun h1_ => ic (fun _ => rfl) (fun h2_ => ic (fun _ => rfl) (fun h3_ => ic (fun _ => rfl) (fun h4_ => ic (fun _ => rfl) (fun h5_ => ic (fun hc => absurd hc hne) (fun _ => rfl)))))))
theorem xe_read {cA : Nat → ClassId} {ad : Nat → Nat} {h : XH} {v : Int32} : xct cA ad (xs_read h v) (6) = .inr (6, [.ref (ad 4), .ref (ad 7), .ref (ad 8), .ref (ad 9), .ref (ad (0 + 13)), .int (xh_living h), .int (xh_given h), .int v, .int (xh_steps h), .int (xh_stopped h)]) := by
  unfold xct
  rw [if_neg (by omega)]
  rw [if_neg (by omega)]
  rw [if_neg (by omega)]
  rw [if_neg (by omega)]
  rw [if_neg (by omega)]
  rw [if_neg (by omega)]
  rw [if_pos (by omega)]
  try rfl
theorem xo_steps {cA : Nat → ClassId} {ad : Nat → Nat} {h : XH} {v : Int32} {j : Nat} (hne : j ≠ 6) : xct cA ad (xs_steps h v) j = xct cA ad h j := ic (fun _ => rfl) (fun h0_ => ic (fun _ => rfl) (fun h1_ => ic (fun _ => rfl) (fun h2_ => ic (fun _ => rfl) (fun h3_ => ic (fun _ => rfl) (fun h4_ => ic (fun _ => rfl) (fun h5_ => ic (fun hc => absurd hc hne) (fun _ => rfl)))))))
theorem xe_steps {cA : Nat → ClassId} {ad : Nat → Nat} {h : XH} {v : Int32} : xct cA ad (xs_steps h v) (6) = .inr (6, [.ref (ad 4), .ref (ad 7), .ref (ad 8), .ref (ad 9), .ref (ad (0 + 13)), .int (xh_living h), .int (xh_given h), .int (xh_read h), .int v, .int (xh_stopped h)]) := by
  unfold xct
  rw [if_neg (by omega)]
  rw [if_neg (by omega)]
  rw [if_neg (by omega)]
  rw [if_neg (by omega)]
  rw [if_neg (by omega)]
  rw [if_neg (by omega)]
  rw [if_pos (by omega)]
  try rfl
theorem xo_stopped {cA : Nat → ClassId} {ad : Nat → Nat} {h : XH} {v : Int32} {j : Nat} (hne : j ≠ 6) : xct cA ad (xs_stopped h v) j = xct cA ad h j := ic (fun _ => rfl) (fun h0_ => ic (fun _ => rfl) (fun h1_ => ic (fun _ => rfl) (fun h2_ => ic (fun _ => rfl) (fun h3_ => ic (fun _ => rfl) (fun h4_ => ic (fun _ => rfl) (fun h5_ => ic (fun hc => absurd hc hne) (fun _ => rfl)))))))
theorem xe_stopped {cA : Nat → ClassId} {ad : Nat → Nat} {h : XH} {v : Int32} : xct cA ad (xs_stopped h v) (6) = .inr (6, [.ref (ad 4), .ref (ad 7), .ref (ad 8), .ref (ad 9), .ref (ad (0 + 13)), .int (xh_living h), .int (xh_given h), .int (xh_read h), .int (xh_steps h), .int v]) := by
  unfold xct
  rw [if_neg (by omega)]
  rw [if_neg (by omega)]
  rw [if_neg (by omega)]
  rw [if_neg (by omega)]
  rw [if_neg (by omega)]
  rw [if_neg (by omega)]
  rw [if_pos (by omega)]
  try rfl
theorem xo_ptrs {cA : Nat → ClassId} {ad : Nat → Nat} {h : XH} {j0 : Nat} {v : Nat} {j : Nat} (hne : j ≠ 7) : xct cA ad (xs_ptrs h j0 v) j = xct cA ad h j := ic (fun _ => rfl) (fun h0_ => ic (fun _ => rfl) (fun h1_ => ic (fun _ => rfl) (fun h2_ => ic (fun _ => rfl) (fun h3_ => ic (fun _ => rfl) (fun h4_ => ic (fun _ => rfl) (fun h5_ => ic (fun _ => rfl) (fun h6_ => ic (fun hc => absurd hc hne) (fun _ => rfl))))))))
theorem xe_ptrs {cA : Nat → ClassId} {ad : Nat → Nat} {h : XH} {j0 : Nat} {v : Nat} : xct cA ad (xs_ptrs h j0 v) (7) = .inl (cA 4, 4, .inr (.inr (.inr (.inr (va_up (fun j => some (ad (xh_ptrs h j + 19))) j0 (some (ad (v + 19)))))))) := by
  unfold xct
  rw [if_neg (by omega)]
  rw [if_neg (by omega)]
  rw [if_neg (by omega)]
  rw [if_neg (by omega)]
  rw [if_neg (by omega)]
  rw [if_neg (by omega)]
  rw [if_neg (by omega)]
  rw [if_pos (by omega)]
  exact congrArg (fun f9 => (Sum.inl (cA 4, 4, Sum.inr (Sum.inr (Sum.inr (Sum.inr f9)))) : va_E)) (rf_up ad (xh_ptrs h) j0 v 19)
theorem xo_innums {cA : Nat → ClassId} {ad : Nat → Nat} {h : XH} {j0 : Nat} {v : Int64} {j : Nat} (hne : j ≠ 8) : xct cA ad (xs_innums h j0 v) j = xct cA ad h j := ic (fun _ => rfl) (fun h0_ => ic (fun _ => rfl) (fun h1_ => ic (fun _ => rfl) (fun h2_ => ic (fun _ => rfl) (fun h3_ => ic (fun _ => rfl) (fun h4_ => ic (fun _ => rfl) (fun h5_ => ic (fun _ => rfl) (fun h6_ => ic (fun _ => rfl) (fun h7_ => ic (fun hc => absurd hc hne) (fun _ => rfl)))))))))
theorem xe_innums {cA : Nat → ClassId} {ad : Nat → Nat} {h : XH} {j0 : Nat} {v : Int64} : xct cA ad (xs_innums h j0 v) (8) = .inl (cA 2, 40, .inr (.inl (va_up (xh_innums h) j0 v))) := by
  unfold xct
  rw [if_neg (by omega)]
  rw [if_neg (by omega)]
  rw [if_neg (by omega)]
  rw [if_neg (by omega)]
  rw [if_neg (by omega)]
  rw [if_neg (by omega)]
  rw [if_neg (by omega)]
  rw [if_neg (by omega)]
  rw [if_pos (by omega)]
  try rfl
theorem xo_digits {cA : Nat → ClassId} {ad : Nat → Nat} {h : XH} {j0 : Nat} {v : Int32} {j : Nat} (hne : j ≠ 9) : xct cA ad (xs_digits h j0 v) j = xct cA ad h j := ic (fun _ => rfl) (fun h0_ => ic (fun _ => rfl) (fun h1_ => ic (fun _ => rfl) (fun h2_ => ic (fun _ => rfl) (fun h3_ => ic (fun _ => rfl) (fun h4_ => ic (fun _ => rfl) (fun h5_ => ic (fun _ => rfl) (fun h6_ => ic (fun _ => rfl) (fun h7_ => ic (fun _ => rfl) (fun h8_ => ic (fun hc => absurd hc hne) (fun _ => rfl))))))))))
theorem xe_digits {cA : Nat → ClassId} {ad : Nat → Nat} {h : XH} {j0 : Nat} {v : Int32} : xct cA ad (xs_digits h j0 v) (9) = .inl (cA 1, 20, .inl (va_up (xh_digits h) j0 v)) := by
  unfold xct
  rw [if_neg (by omega)]
  rw [if_neg (by omega)]
  rw [if_neg (by omega)]
  rw [if_neg (by omega)]
  rw [if_neg (by omega)]
  rw [if_neg (by omega)]
  rw [if_neg (by omega)]
  rw [if_neg (by omega)]
  rw [if_neg (by omega)]
  rw [if_pos (by omega)]
  try rfl
theorem xoc_digits {cA : Nat → ClassId} {ad : Nat → Nat} {h : XH} {f0 : Nat → Int32} {j : Nat} (hne : j ≠ 9) : xct cA ad (xc_digits h f0) j = xct cA ad h j := ic (fun _ => rfl) (fun h0_ => ic (fun _ => rfl) (fun h1_ => ic (fun _ => rfl) (fun h2_ => ic (fun _ => rfl) (fun h3_ => ic (fun _ => rfl) (fun h4_ => ic (fun _ => rfl) (fun h5_ => ic (fun _ => rfl) (fun h6_ => ic (fun _ => rfl) (fun h7_ => ic (fun _ => rfl) (fun h8_ => ic (fun hc => absurd hc hne) (fun _ => rfl))))))))))
theorem xec_digits {cA : Nat → ClassId} {ad : Nat → Nat} {h : XH} {f0 : Nat → Int32} : xct cA ad (xc_digits h f0) (9) = .inl (cA 1, 20, .inl f0) := by
  unfold xct
  rw [if_neg (by omega)]
  rw [if_neg (by omega)]
  rw [if_neg (by omega)]
  rw [if_neg (by omega)]
  rw [if_neg (by omega)]
  rw [if_neg (by omega)]
  rw [if_neg (by omega)]
  rw [if_neg (by omega)]
  rw [if_neg (by omega)]
  rw [if_pos (by omega)]
  try rfl
theorem xo_ssize {cA : Nat → ClassId} {ad : Nat → Nat} {h : XH} {v : Int32} {j : Nat} (hne : j ≠ 10) : xct cA ad (xs_ssize h v) j = xct cA ad h j := ic (fun _ => rfl) (fun h0_ => ic (fun _ => rfl) (fun h1_ => ic (fun _ => rfl) (fun h2_ => ic (fun _ => rfl) (fun h3_ => ic (fun _ => rfl) (fun h4_ => ic (fun _ => rfl) (fun h5_ => ic (fun _ => rfl) (fun h6_ => ic (fun _ => rfl) (fun h7_ => ic (fun _ => rfl) (fun h8_ => ic (fun _ => rfl) (fun h9_ => ic (fun hc => absurd hc hne) (fun _ => rfl)))))))))))
theorem xe_ssize {cA : Nat → ClassId} {ad : Nat → Nat} {h : XH} {v : Int32} : xct cA ad (xs_ssize h v) (10) = .inr (7, [.ref (ad 11), .ref (ad 12), .int v]) := by
  unfold xct
  rw [if_neg (by omega)]
  rw [if_neg (by omega)]
  rw [if_neg (by omega)]
  rw [if_neg (by omega)]
  rw [if_neg (by omega)]
  rw [if_neg (by omega)]
  rw [if_neg (by omega)]
  rw [if_neg (by omega)]
  rw [if_neg (by omega)]
  rw [if_neg (by omega)]
  rw [if_pos (by omega)]
  try rfl
theorem xo_smarks {cA : Nat → ClassId} {ad : Nat → Nat} {h : XH} {j0 : Nat} {v : Int32} {j : Nat} (hne : j ≠ 11) : xct cA ad (xs_smarks h j0 v) j = xct cA ad h j := ic (fun _ => rfl) (fun h0_ => ic (fun _ => rfl) (fun h1_ => ic (fun _ => rfl) (fun h2_ => ic (fun _ => rfl) (fun h3_ => ic (fun _ => rfl) (fun h4_ => ic (fun _ => rfl) (fun h5_ => ic (fun _ => rfl) (fun h6_ => ic (fun _ => rfl) (fun h7_ => ic (fun _ => rfl) (fun h8_ => ic (fun _ => rfl) (fun h9_ => ic (fun _ => rfl) (fun h10_ => ic (fun hc => absurd hc hne) (fun _ => rfl))))))))))))
theorem xe_smarks {cA : Nat → ClassId} {ad : Nat → Nat} {h : XH} {j0 : Nat} {v : Int32} : xct cA ad (xs_smarks h j0 v) (11) = .inl (cA 0, 96, .inl (va_up (xh_smarks h) j0 v)) := by
  unfold xct
  rw [if_neg (by omega)]
  rw [if_neg (by omega)]
  rw [if_neg (by omega)]
  rw [if_neg (by omega)]
  rw [if_neg (by omega)]
  rw [if_neg (by omega)]
  rw [if_neg (by omega)]
  rw [if_neg (by omega)]
  rw [if_neg (by omega)]
  rw [if_neg (by omega)]
  rw [if_neg (by omega)]
  rw [if_pos (by omega)]
  try rfl
theorem xo_sfound {cA : Nat → ClassId} {ad : Nat → Nat} {h : XH} {j0 : Nat} {v : Int32} {j : Nat} (hne : j ≠ 12) : xct cA ad (xs_sfound h j0 v) j = xct cA ad h j := ic (fun _ => rfl) (fun h0_ => ic (fun _ => rfl) (fun h1_ => ic (fun _ => rfl) (fun h2_ => ic (fun _ => rfl) (fun h3_ => ic (fun _ => rfl) (fun h4_ => ic (fun _ => rfl) (fun h5_ => ic (fun _ => rfl) (fun h6_ => ic (fun _ => rfl) (fun h7_ => ic (fun _ => rfl) (fun h8_ => ic (fun _ => rfl) (fun h9_ => ic (fun _ => rfl) (fun h10_ => ic (fun _ => rfl) (fun h11_ => ic (fun hc => absurd hc hne) (fun _ => rfl)))))))))))))
theorem xe_sfound {cA : Nat → ClassId} {ad : Nat → Nat} {h : XH} {j0 : Nat} {v : Int32} : xct cA ad (xs_sfound h j0 v) (12) = .inl (cA 0, 768, .inl (va_up (xh_sfound h) j0 v)) := by
  unfold xct
  rw [if_neg (by omega)]
  rw [if_neg (by omega)]
  rw [if_neg (by omega)]
  rw [if_neg (by omega)]
  rw [if_neg (by omega)]
  rw [if_neg (by omega)]
  rw [if_neg (by omega)]
  rw [if_neg (by omega)]
  rw [if_neg (by omega)]
  rw [if_neg (by omega)]
  rw [if_neg (by omega)]
  rw [if_neg (by omega)]
  rw [if_pos (by omega)]
  try rfl
theorem xo_lsize {cA : Nat → ClassId} {ad : Nat → Nat} {h : XH} {k : Nat} {v : Int32} {j : Nat} (hne : j ≠ k + 13) : xct cA ad (xs_lsize h k v) j = xct cA ad h j := ic (fun _ => rfl) (fun h0_ => ic (fun _ => rfl) (fun h1_ => ic (fun _ => rfl) (fun h2_ => ic (fun _ => rfl) (fun h3_ => ic (fun _ => rfl) (fun h4_ => ic (fun _ => rfl) (fun h5_ => ic (fun _ => rfl) (fun h6_ => ic (fun _ => rfl) (fun h7_ => ic (fun _ => rfl) (fun h8_ => ic (fun _ => rfl) (fun h9_ => ic (fun _ => rfl) (fun h10_ => ic (fun _ => rfl) (fun h11_ => ic (fun _ => rfl) (fun h12_ => ic (fun hc => by rw [show xh_lsize (xs_lsize h k v) (j - 13) = xh_lsize h (j - 13) from up_ne (by omega)]; try rfl) (fun _ => rfl))))))))))))))
theorem xe_lsize {cA : Nat → ClassId} {ad : Nat → Nat} {h : XH} {k : Nat} (hk : k < 3) {v : Int32} : xct cA ad (xs_lsize h k v) (k + 13) = .inr (4, [.ref (ad (k + 16)), .int v]) := by
  unfold xct
  rw [if_neg (by omega)]
  rw [if_neg (by omega)]
  rw [if_neg (by omega)]
  rw [if_neg (by omega)]
  rw [if_neg (by omega)]
  rw [if_neg (by omega)]
  rw [if_neg (by omega)]
  rw [if_neg (by omega)]
  rw [if_neg (by omega)]
  rw [if_neg (by omega)]
  rw [if_neg (by omega)]
  rw [if_neg (by omega)]
  rw [if_neg (by omega)]
  rw [if_pos (by omega), Nat.add_sub_cancel]
  rw [show xh_lsize (xs_lsize h k v) k = v from up_eq]
  try rfl
theorem xo_lchars {cA : Nat → ClassId} {ad : Nat → Nat} {h : XH} {k : Nat} {j0 : Nat} {v : Int32} {j : Nat} (hne : j ≠ k + 16) : xct cA ad (xs_lchars h k j0 v) j = xct cA ad h j := ic (fun _ => rfl) (fun h0_ => ic (fun _ => rfl) (fun h1_ => ic (fun _ => rfl) (fun h2_ => ic (fun _ => rfl) (fun h3_ => ic (fun _ => rfl) (fun h4_ => ic (fun _ => rfl) (fun h5_ => ic (fun _ => rfl) (fun h6_ => ic (fun _ => rfl) (fun h7_ => ic (fun _ => rfl) (fun h8_ => ic (fun _ => rfl) (fun h9_ => ic (fun _ => rfl) (fun h10_ => ic (fun _ => rfl) (fun h11_ => ic (fun _ => rfl) (fun h12_ => ic (fun _ => rfl) (fun h13_ => ic (fun hc => by rw [show xh_lchars (xs_lchars h k j0 v) (j - 16) = xh_lchars h (j - 16) from up_ne (by omega)]; try rfl) (fun _ => rfl)))))))))))))))
theorem xe_lchars {cA : Nat → ClassId} {ad : Nat → Nat} {h : XH} {k : Nat} (hk : k < 3) {j0 : Nat} {v : Int32} : xct cA ad (xs_lchars h k j0 v) (k + 16) = .inl (cA 1, (xh_cap k), .inl (va_up (xh_lchars h k) j0 v)) := by
  unfold xct
  rw [if_neg (by omega)]
  rw [if_neg (by omega)]
  rw [if_neg (by omega)]
  rw [if_neg (by omega)]
  rw [if_neg (by omega)]
  rw [if_neg (by omega)]
  rw [if_neg (by omega)]
  rw [if_neg (by omega)]
  rw [if_neg (by omega)]
  rw [if_neg (by omega)]
  rw [if_neg (by omega)]
  rw [if_neg (by omega)]
  rw [if_neg (by omega)]
  rw [if_neg (by omega)]
  rw [if_pos (by omega), Nat.add_sub_cancel]
  rw [show xh_lchars (xs_lchars h k j0 v) k = (va_up (xh_lchars h k) j0 v) from up_eq]
  try rfl
theorem xoc_lchars {cA : Nat → ClassId} {ad : Nat → Nat} {h : XH} {k : Nat} {f0 : Nat → Int32} {j : Nat} (hne : j ≠ k + 16) : xct cA ad (xc_lchars h k f0) j = xct cA ad h j := ic (fun _ => rfl) (fun h0_ => ic (fun _ => rfl) (fun h1_ => ic (fun _ => rfl) (fun h2_ => ic (fun _ => rfl) (fun h3_ => ic (fun _ => rfl) (fun h4_ => ic (fun _ => rfl) (fun h5_ => ic (fun _ => rfl) (fun h6_ => ic (fun _ => rfl) (fun h7_ => ic (fun _ => rfl) (fun h8_ => ic (fun _ => rfl) (fun h9_ => ic (fun _ => rfl) (fun h10_ => ic (fun _ => rfl) (fun h11_ => ic (fun _ => rfl) (fun h12_ => ic (fun _ => rfl) (fun h13_ => ic (fun hc => by rw [show xh_lchars (xc_lchars h k f0) (j - 16) = xh_lchars h (j - 16) from up_ne (by omega)]; try rfl) (fun _ => rfl)))))))))))))))
theorem xec_lchars {cA : Nat → ClassId} {ad : Nat → Nat} {h : XH} {k : Nat} (hk : k < 3) {f0 : Nat → Int32} : xct cA ad (xc_lchars h k f0) (k + 16) = .inl (cA 1, (xh_cap k), .inl f0) := by
  unfold xct
  rw [if_neg (by omega)]
  rw [if_neg (by omega)]
  rw [if_neg (by omega)]
  rw [if_neg (by omega)]
  rw [if_neg (by omega)]
  rw [if_neg (by omega)]
  rw [if_neg (by omega)]
  rw [if_neg (by omega)]
  rw [if_neg (by omega)]
  rw [if_neg (by omega)]
  rw [if_neg (by omega)]
  rw [if_neg (by omega)]
  rw [if_neg (by omega)]
  rw [if_neg (by omega)]
  rw [if_pos (by omega), Nat.add_sub_cancel]
  rw [show xh_lchars (xc_lchars h k f0) k = f0 from up_eq]
  try rfl
theorem xo_pway {cA : Nat → ClassId} {ad : Nat → Nat} {h : XH} {k : Nat} {v : Int32} {j : Nat} (hne : j ≠ k + 19) : xct cA ad (xs_pway h k v) j = xct cA ad h j := ic (fun _ => rfl) (fun h0_ => ic (fun _ => rfl) (fun h1_ => ic (fun _ => rfl) (fun h2_ => ic (fun _ => rfl) (fun h3_ => ic (fun _ => rfl) (fun h4_ => ic (fun _ => rfl) (fun h5_ => ic (fun _ => rfl) (fun h6_ => ic (fun _ => rfl) (fun h7_ => ic (fun _ => rfl) (fun h8_ => ic (fun _ => rfl) (fun h9_ => ic (fun _ => rfl) (fun h10_ => ic (fun _ => rfl) (fun h11_ => ic (fun _ => rfl) (fun h12_ => ic (fun _ => rfl) (fun h13_ => ic (fun _ => rfl) (fun h14_ => ic (fun hc => by rw [show xh_pway (xs_pway h k v) (j - 19) = xh_pway h (j - 19) from up_ne (by omega)]; try rfl) (fun _ => rfl))))))))))))))))
theorem xe_pway {cA : Nat → ClassId} {ad : Nat → Nat} {h : XH} {k : Nat} (hk : k < 4) {v : Int32} : xct cA ad (xs_pway h k v) (k + 19) = .inr (5, [.ref (ad (k + 23)), .ref (ad (k + 27)), .int v, .int (xh_pdepth h k), .int (xh_pret h k)]) := by
  unfold xct
  rw [if_neg (by omega)]
  rw [if_neg (by omega)]
  rw [if_neg (by omega)]
  rw [if_neg (by omega)]
  rw [if_neg (by omega)]
  rw [if_neg (by omega)]
  rw [if_neg (by omega)]
  rw [if_neg (by omega)]
  rw [if_neg (by omega)]
  rw [if_neg (by omega)]
  rw [if_neg (by omega)]
  rw [if_neg (by omega)]
  rw [if_neg (by omega)]
  rw [if_neg (by omega)]
  rw [if_neg (by omega)]
  rw [if_pos (by omega), Nat.add_sub_cancel]
  rw [show xh_pway (xs_pway h k v) k = v from up_eq]
  try rfl
theorem xo_pdepth {cA : Nat → ClassId} {ad : Nat → Nat} {h : XH} {k : Nat} {v : Int32} {j : Nat} (hne : j ≠ k + 19) : xct cA ad (xs_pdepth h k v) j = xct cA ad h j := ic (fun _ => rfl) (fun h0_ => ic (fun _ => rfl) (fun h1_ => ic (fun _ => rfl) (fun h2_ => ic (fun _ => rfl) (fun h3_ => ic (fun _ => rfl) (fun h4_ => ic (fun _ => rfl) (fun h5_ => ic (fun _ => rfl) (fun h6_ => ic (fun _ => rfl) (fun h7_ => ic (fun _ => rfl) (fun h8_ => ic (fun _ => rfl) (fun h9_ => ic (fun _ => rfl) (fun h10_ => ic (fun _ => rfl) (fun h11_ => ic (fun _ => rfl) (fun h12_ => ic (fun _ => rfl) (fun h13_ => ic (fun _ => rfl) (fun h14_ => ic (fun hc => by rw [show xh_pdepth (xs_pdepth h k v) (j - 19) = xh_pdepth h (j - 19) from up_ne (by omega)]; try rfl) (fun _ => rfl))))))))))))))))
theorem xe_pdepth {cA : Nat → ClassId} {ad : Nat → Nat} {h : XH} {k : Nat} (hk : k < 4) {v : Int32} : xct cA ad (xs_pdepth h k v) (k + 19) = .inr (5, [.ref (ad (k + 23)), .ref (ad (k + 27)), .int (xh_pway h k), .int v, .int (xh_pret h k)]) := by
  unfold xct
  rw [if_neg (by omega)]
  rw [if_neg (by omega)]
  rw [if_neg (by omega)]
  rw [if_neg (by omega)]
  rw [if_neg (by omega)]
  rw [if_neg (by omega)]
  rw [if_neg (by omega)]
  rw [if_neg (by omega)]
  rw [if_neg (by omega)]
  rw [if_neg (by omega)]
  rw [if_neg (by omega)]
  rw [if_neg (by omega)]
  rw [if_neg (by omega)]
  rw [if_neg (by omega)]
  rw [if_neg (by omega)]
  rw [if_pos (by omega), Nat.add_sub_cancel]
  rw [show xh_pdepth (xs_pdepth h k v) k = v from up_eq]
  try rfl
theorem xo_pret {cA : Nat → ClassId} {ad : Nat → Nat} {h : XH} {k : Nat} {v : Int32} {j : Nat} (hne : j ≠ k + 19) : xct cA ad (xs_pret h k v) j = xct cA ad h j := ic (fun _ => rfl) (fun h0_ => ic (fun _ => rfl) (fun h1_ => ic (fun _ => rfl) (fun h2_ => ic (fun _ => rfl) (fun h3_ => ic (fun _ => rfl) (fun h4_ => ic (fun _ => rfl) (fun h5_ => ic (fun _ => rfl) (fun h6_ => ic (fun _ => rfl) (fun h7_ => ic (fun _ => rfl) (fun h8_ => ic (fun _ => rfl) (fun h9_ => ic (fun _ => rfl) (fun h10_ => ic (fun _ => rfl) (fun h11_ => ic (fun _ => rfl) (fun h12_ => ic (fun _ => rfl) (fun h13_ => ic (fun _ => rfl) (fun h14_ => ic (fun hc => by rw [show xh_pret (xs_pret h k v) (j - 19) = xh_pret h (j - 19) from up_ne (by omega)]; try rfl) (fun _ => rfl))))))))))))))))
theorem xe_pret {cA : Nat → ClassId} {ad : Nat → Nat} {h : XH} {k : Nat} (hk : k < 4) {v : Int32} : xct cA ad (xs_pret h k v) (k + 19) = .inr (5, [.ref (ad (k + 23)), .ref (ad (k + 27)), .int (xh_pway h k), .int (xh_pdepth h k), .int v]) := by
  unfold xct
  rw [if_neg (by omega)]
  rw [if_neg (by omega)]
  rw [if_neg (by omega)]
  rw [if_neg (by omega)]
  rw [if_neg (by omega)]
  rw [if_neg (by omega)]
  rw [if_neg (by omega)]
  rw [if_neg (by omega)]
  rw [if_neg (by omega)]
  rw [if_neg (by omega)]
  rw [if_neg (by omega)]
  rw [if_neg (by omega)]
  rw [if_neg (by omega)]
  rw [if_neg (by omega)]
  rw [if_neg (by omega)]
  rw [if_pos (by omega), Nat.add_sub_cancel]
  rw [show xh_pret (xs_pret h k v) k = v from up_eq]
  try rfl
theorem xo_pnums {cA : Nat → ClassId} {ad : Nat → Nat} {h : XH} {k : Nat} {j0 : Nat} {v : Int64} {j : Nat} (hne : j ≠ k + 23) : xct cA ad (xs_pnums h k j0 v) j = xct cA ad h j := ic (fun _ => rfl) (fun h0_ => ic (fun _ => rfl) (fun h1_ => ic (fun _ => rfl) (fun h2_ => ic (fun _ => rfl) (fun h3_ => ic (fun _ => rfl) (fun h4_ => ic (fun _ => rfl) (fun h5_ => ic (fun _ => rfl) (fun h6_ => ic (fun _ => rfl) (fun h7_ => ic (fun _ => rfl) (fun h8_ => ic (fun _ => rfl) (fun h9_ => ic (fun _ => rfl) (fun h10_ => ic (fun _ => rfl) (fun h11_ => ic (fun _ => rfl) (fun h12_ => ic (fun _ => rfl) (fun h13_ => ic (fun _ => rfl) (fun h14_ => ic (fun _ => rfl) (fun h15_ => ic (fun hc => by rw [show xh_pnums (xs_pnums h k j0 v) (j - 23) = xh_pnums h (j - 23) from up_ne (by omega)]; try rfl) (fun _ => rfl)))))))))))))))))
theorem xe_pnums {cA : Nat → ClassId} {ad : Nat → Nat} {h : XH} {k : Nat} (hk : k < 4) {j0 : Nat} {v : Int64} : xct cA ad (xs_pnums h k j0 v) (k + 23) = .inl (cA 2, 24, .inr (.inl (va_up (xh_pnums h k) j0 v))) := by
  unfold xct
  rw [if_neg (by omega)]
  rw [if_neg (by omega)]
  rw [if_neg (by omega)]
  rw [if_neg (by omega)]
  rw [if_neg (by omega)]
  rw [if_neg (by omega)]
  rw [if_neg (by omega)]
  rw [if_neg (by omega)]
  rw [if_neg (by omega)]
  rw [if_neg (by omega)]
  rw [if_neg (by omega)]
  rw [if_neg (by omega)]
  rw [if_neg (by omega)]
  rw [if_neg (by omega)]
  rw [if_neg (by omega)]
  rw [if_neg (by omega)]
  rw [if_pos (by omega), Nat.add_sub_cancel]
  rw [show xh_pnums (xs_pnums h k j0 v) k = (va_up (xh_pnums h k) j0 v) from up_eq]
  try rfl
theorem xo_prets {cA : Nat → ClassId} {ad : Nat → Nat} {h : XH} {k : Nat} {j0 : Nat} {v : Int32} {j : Nat} (hne : j ≠ k + 27) : xct cA ad (xs_prets h k j0 v) j = xct cA ad h j := ic (fun _ => rfl) (fun h0_ => ic (fun _ => rfl) (fun h1_ => ic (fun _ => rfl) (fun h2_ => ic (fun _ => rfl) (fun h3_ => ic (fun _ => rfl) (fun h4_ => ic (fun _ => rfl) (fun h5_ => ic (fun _ => rfl) (fun h6_ => ic (fun _ => rfl) (fun h7_ => ic (fun _ => rfl) (fun h8_ => ic (fun _ => rfl) (fun h9_ => ic (fun _ => rfl) (fun h10_ => ic (fun _ => rfl) (fun h11_ => ic (fun _ => rfl) (fun h12_ => ic (fun _ => rfl) (fun h13_ => ic (fun _ => rfl) (fun h14_ => ic (fun _ => rfl) (fun h15_ => ic (fun _ => rfl) (fun h16_ => ic (fun hc => by rw [show xh_prets (xs_prets h k j0 v) (j - 27) = xh_prets h (j - 27) from up_ne (by omega)]; try rfl) (fun _ => rfl))))))))))))))))))
theorem xe_prets {cA : Nat → ClassId} {ad : Nat → Nat} {h : XH} {k : Nat} (hk : k < 4) {j0 : Nat} {v : Int32} : xct cA ad (xs_prets h k j0 v) (k + 27) = .inl (cA 0, 8, .inl (va_up (xh_prets h k) j0 v)) := by
  unfold xct
  rw [if_neg (by omega)]
  rw [if_neg (by omega)]
  rw [if_neg (by omega)]
  rw [if_neg (by omega)]
  rw [if_neg (by omega)]
  rw [if_neg (by omega)]
  rw [if_neg (by omega)]
  rw [if_neg (by omega)]
  rw [if_neg (by omega)]
  rw [if_neg (by omega)]
  rw [if_neg (by omega)]
  rw [if_neg (by omega)]
  rw [if_neg (by omega)]
  rw [if_neg (by omega)]
  rw [if_neg (by omega)]
  rw [if_neg (by omega)]
  rw [if_neg (by omega)]
  rw [if_pos (by omega), Nat.add_sub_cancel]
  rw [show xh_prets (xs_prets h k j0 v) k = (va_up (xh_prets h k) j0 v) from up_eq]
  try rfl
theorem xo_bbegin {cA : Nat → ClassId} {ad : Nat → Nat} {h : XH} {k : Nat} {v : Int32} {j : Nat} (hne : j ≠ k + 31) : xct cA ad (xs_bbegin h k v) j = xct cA ad h j := ic (fun _ => rfl) (fun h0_ => ic (fun _ => rfl) (fun h1_ => ic (fun _ => rfl) (fun h2_ => ic (fun _ => rfl) (fun h3_ => ic (fun _ => rfl) (fun h4_ => ic (fun _ => rfl) (fun h5_ => ic (fun _ => rfl) (fun h6_ => ic (fun _ => rfl) (fun h7_ => ic (fun _ => rfl) (fun h8_ => ic (fun _ => rfl) (fun h9_ => ic (fun _ => rfl) (fun h10_ => ic (fun _ => rfl) (fun h11_ => ic (fun _ => rfl) (fun h12_ => ic (fun _ => rfl) (fun h13_ => ic (fun _ => rfl) (fun h14_ => ic (fun _ => rfl) (fun h15_ => ic (fun _ => rfl) (fun h16_ => ic (fun _ => rfl) (fun h17_ => ic (fun hc => by rw [show xh_bbegin (xs_bbegin h k v) (j - 31) = xh_bbegin h (j - 31) from up_ne (by omega)]; try rfl) (fun _ => rfl)))))))))))))))))))
theorem xe_bbegin {cA : Nat → ClassId} {ad : Nat → Nat} {h : XH} {k : Nat} (hk : k < 30) {v : Int32} : xct cA ad (xs_bbegin h k v) (k + 31) = .inr (1, [.int v, .int (xh_bbehind h k), .int (xh_bsize h k), .long (xh_blow h k), .long (xh_bhigh h k)]) := by
  unfold xct
  rw [if_neg (by omega)]
  rw [if_neg (by omega)]
  rw [if_neg (by omega)]
  rw [if_neg (by omega)]
  rw [if_neg (by omega)]
  rw [if_neg (by omega)]
  rw [if_neg (by omega)]
  rw [if_neg (by omega)]
  rw [if_neg (by omega)]
  rw [if_neg (by omega)]
  rw [if_neg (by omega)]
  rw [if_neg (by omega)]
  rw [if_neg (by omega)]
  rw [if_neg (by omega)]
  rw [if_neg (by omega)]
  rw [if_neg (by omega)]
  rw [if_neg (by omega)]
  rw [if_neg (by omega)]
  rw [if_pos (by omega), Nat.add_sub_cancel]
  rw [show xh_bbegin (xs_bbegin h k v) k = v from up_eq]
  try rfl
theorem xo_bbehind {cA : Nat → ClassId} {ad : Nat → Nat} {h : XH} {k : Nat} {v : Int32} {j : Nat} (hne : j ≠ k + 31) : xct cA ad (xs_bbehind h k v) j = xct cA ad h j := ic (fun _ => rfl) (fun h0_ => ic (fun _ => rfl) (fun h1_ => ic (fun _ => rfl) (fun h2_ => ic (fun _ => rfl) (fun h3_ => ic (fun _ => rfl) (fun h4_ => ic (fun _ => rfl) (fun h5_ => ic (fun _ => rfl) (fun h6_ => ic (fun _ => rfl) (fun h7_ => ic (fun _ => rfl) (fun h8_ => ic (fun _ => rfl) (fun h9_ => ic (fun _ => rfl) (fun h10_ => ic (fun _ => rfl) (fun h11_ => ic (fun _ => rfl) (fun h12_ => ic (fun _ => rfl) (fun h13_ => ic (fun _ => rfl) (fun h14_ => ic (fun _ => rfl) (fun h15_ => ic (fun _ => rfl) (fun h16_ => ic (fun _ => rfl) (fun h17_ => ic (fun hc => by rw [show xh_bbehind (xs_bbehind h k v) (j - 31) = xh_bbehind h (j - 31) from up_ne (by omega)]; try rfl) (fun _ => rfl)))))))))))))))))))
theorem xe_bbehind {cA : Nat → ClassId} {ad : Nat → Nat} {h : XH} {k : Nat} (hk : k < 30) {v : Int32} : xct cA ad (xs_bbehind h k v) (k + 31) = .inr (1, [.int (xh_bbegin h k), .int v, .int (xh_bsize h k), .long (xh_blow h k), .long (xh_bhigh h k)]) := by
  unfold xct
  rw [if_neg (by omega)]
  rw [if_neg (by omega)]
  rw [if_neg (by omega)]
  rw [if_neg (by omega)]
  rw [if_neg (by omega)]
  rw [if_neg (by omega)]
  rw [if_neg (by omega)]
  rw [if_neg (by omega)]
  rw [if_neg (by omega)]
  rw [if_neg (by omega)]
  rw [if_neg (by omega)]
  rw [if_neg (by omega)]
  rw [if_neg (by omega)]
  rw [if_neg (by omega)]
  rw [if_neg (by omega)]
  rw [if_neg (by omega)]
  rw [if_neg (by omega)]
  rw [if_neg (by omega)]
  rw [if_pos (by omega), Nat.add_sub_cancel]
  rw [show xh_bbehind (xs_bbehind h k v) k = v from up_eq]
  try rfl
theorem xo_bsize {cA : Nat → ClassId} {ad : Nat → Nat} {h : XH} {k : Nat} {v : Int32} {j : Nat} (hne : j ≠ k + 31) : xct cA ad (xs_bsize h k v) j = xct cA ad h j := ic (fun _ => rfl) (fun h0_ => ic (fun _ => rfl) (fun h1_ => ic (fun _ => rfl) (fun h2_ => ic (fun _ => rfl) (fun h3_ => ic (fun _ => rfl) (fun h4_ => ic (fun _ => rfl) (fun h5_ => ic (fun _ => rfl) (fun h6_ => ic (fun _ => rfl) (fun h7_ => ic (fun _ => rfl) (fun h8_ => ic (fun _ => rfl) (fun h9_ => ic (fun _ => rfl) (fun h10_ => ic (fun _ => rfl) (fun h11_ => ic (fun _ => rfl) (fun h12_ => ic (fun _ => rfl) (fun h13_ => ic (fun _ => rfl) (fun h14_ => ic (fun _ => rfl) (fun h15_ => ic (fun _ => rfl) (fun h16_ => ic (fun _ => rfl) (fun h17_ => ic (fun hc => by rw [show xh_bsize (xs_bsize h k v) (j - 31) = xh_bsize h (j - 31) from up_ne (by omega)]; try rfl) (fun _ => rfl)))))))))))))))))))
theorem xe_bsize {cA : Nat → ClassId} {ad : Nat → Nat} {h : XH} {k : Nat} (hk : k < 30) {v : Int32} : xct cA ad (xs_bsize h k v) (k + 31) = .inr (1, [.int (xh_bbegin h k), .int (xh_bbehind h k), .int v, .long (xh_blow h k), .long (xh_bhigh h k)]) := by
  unfold xct
  rw [if_neg (by omega)]
  rw [if_neg (by omega)]
  rw [if_neg (by omega)]
  rw [if_neg (by omega)]
  rw [if_neg (by omega)]
  rw [if_neg (by omega)]
  rw [if_neg (by omega)]
  rw [if_neg (by omega)]
  rw [if_neg (by omega)]
  rw [if_neg (by omega)]
  rw [if_neg (by omega)]
  rw [if_neg (by omega)]
  rw [if_neg (by omega)]
  rw [if_neg (by omega)]
  rw [if_neg (by omega)]
  rw [if_neg (by omega)]
  rw [if_neg (by omega)]
  rw [if_neg (by omega)]
  rw [if_pos (by omega), Nat.add_sub_cancel]
  rw [show xh_bsize (xs_bsize h k v) k = v from up_eq]
  try rfl
theorem xo_blow {cA : Nat → ClassId} {ad : Nat → Nat} {h : XH} {k : Nat} {v : Int64} {j : Nat} (hne : j ≠ k + 31) : xct cA ad (xs_blow h k v) j = xct cA ad h j := ic (fun _ => rfl) (fun h0_ => ic (fun _ => rfl) (fun h1_ => ic (fun _ => rfl) (fun h2_ => ic (fun _ => rfl) (fun h3_ => ic (fun _ => rfl) (fun h4_ => ic (fun _ => rfl) (fun h5_ => ic (fun _ => rfl) (fun h6_ => ic (fun _ => rfl) (fun h7_ => ic (fun _ => rfl) (fun h8_ => ic (fun _ => rfl) (fun h9_ => ic (fun _ => rfl) (fun h10_ => ic (fun _ => rfl) (fun h11_ => ic (fun _ => rfl) (fun h12_ => ic (fun _ => rfl) (fun h13_ => ic (fun _ => rfl) (fun h14_ => ic (fun _ => rfl) (fun h15_ => ic (fun _ => rfl) (fun h16_ => ic (fun _ => rfl) (fun h17_ => ic (fun hc => by rw [show xh_blow (xs_blow h k v) (j - 31) = xh_blow h (j - 31) from up_ne (by omega)]; try rfl) (fun _ => rfl)))))))))))))))))))
theorem xe_blow {cA : Nat → ClassId} {ad : Nat → Nat} {h : XH} {k : Nat} (hk : k < 30) {v : Int64} : xct cA ad (xs_blow h k v) (k + 31) = .inr (1, [.int (xh_bbegin h k), .int (xh_bbehind h k), .int (xh_bsize h k), .long v, .long (xh_bhigh h k)]) := by
  unfold xct
  rw [if_neg (by omega)]
  rw [if_neg (by omega)]
  rw [if_neg (by omega)]
  rw [if_neg (by omega)]
  rw [if_neg (by omega)]
  rw [if_neg (by omega)]
  rw [if_neg (by omega)]
  rw [if_neg (by omega)]
  rw [if_neg (by omega)]
  rw [if_neg (by omega)]
  rw [if_neg (by omega)]
  rw [if_neg (by omega)]
  rw [if_neg (by omega)]
  rw [if_neg (by omega)]
  rw [if_neg (by omega)]
  rw [if_neg (by omega)]
  rw [if_neg (by omega)]
  rw [if_neg (by omega)]
  rw [if_pos (by omega), Nat.add_sub_cancel]
  rw [show xh_blow (xs_blow h k v) k = v from up_eq]
  try rfl
theorem xo_bhigh {cA : Nat → ClassId} {ad : Nat → Nat} {h : XH} {k : Nat} {v : Int64} {j : Nat} (hne : j ≠ k + 31) : xct cA ad (xs_bhigh h k v) j = xct cA ad h j := ic (fun _ => rfl) (fun h0_ => ic (fun _ => rfl) (fun h1_ => ic (fun _ => rfl) (fun h2_ => ic (fun _ => rfl) (fun h3_ => ic (fun _ => rfl) (fun h4_ => ic (fun _ => rfl) (fun h5_ => ic (fun _ => rfl) (fun h6_ => ic (fun _ => rfl) (fun h7_ => ic (fun _ => rfl) (fun h8_ => ic (fun _ => rfl) (fun h9_ => ic (fun _ => rfl) (fun h10_ => ic (fun _ => rfl) (fun h11_ => ic (fun _ => rfl) (fun h12_ => ic (fun _ => rfl) (fun h13_ => ic (fun _ => rfl) (fun h14_ => ic (fun _ => rfl) (fun h15_ => ic (fun _ => rfl) (fun h16_ => ic (fun _ => rfl) (fun h17_ => ic (fun hc => by rw [show xh_bhigh (xs_bhigh h k v) (j - 31) = xh_bhigh h (j - 31) from up_ne (by omega)]; try rfl) (fun _ => rfl)))))))))))))))))))
theorem xe_bhigh {cA : Nat → ClassId} {ad : Nat → Nat} {h : XH} {k : Nat} (hk : k < 30) {v : Int64} : xct cA ad (xs_bhigh h k v) (k + 31) = .inr (1, [.int (xh_bbegin h k), .int (xh_bbehind h k), .int (xh_bsize h k), .long (xh_blow h k), .long v]) := by
  unfold xct
  rw [if_neg (by omega)]
  rw [if_neg (by omega)]
  rw [if_neg (by omega)]
  rw [if_neg (by omega)]
  rw [if_neg (by omega)]
  rw [if_neg (by omega)]
  rw [if_neg (by omega)]
  rw [if_neg (by omega)]
  rw [if_neg (by omega)]
  rw [if_neg (by omega)]
  rw [if_neg (by omega)]
  rw [if_neg (by omega)]
  rw [if_neg (by omega)]
  rw [if_neg (by omega)]
  rw [if_neg (by omega)]
  rw [if_neg (by omega)]
  rw [if_neg (by omega)]
  rw [if_neg (by omega)]
  rw [if_pos (by omega), Nat.add_sub_cancel]
  rw [show xh_bhigh (xs_bhigh h k v) k = v from up_eq]
  try rfl
section XR
variable {p : Program} {l : Launch} {e : Env} {R : Room} {s : State} {m : MethodId} {args : Array Value} {below : List Frame} {meth : Method} {c : Code} {H : Heap} {locs : List Loc} {cells slots : Nat} {Q : State → Prop}
variable {cc : ByteArray} {pc : Nat} {ls : Array Slot} {rest : List Value} {D : va_G} {A : Nat → Prop} {H0 : Heap} {cA : Nat → ClassId} {ad : Nat → Nat} {h : XH} {own : String} {index : Nat}
theorem xr_DP (hK : va_K D vwCl (xtys cA) s) (hP : va_P D vwCl (xW cA ad h) H) : ∃ cell : Cell, H[(ad 0)]? = some cell ∧ cell.vm.isStatics = false ∧ s.vm.findClass nR_P = some cell.cls := va_recv (q := (nR_P, nT_P, 6)) hK hP rfl xw_DP
theorem xg_P_blocks (hx : p.tables.exec = Jvm.exec) (hb : c.code = cc) (hts : ∀ w ∈ lw_wd, w.before args s = true) (hown : s.vm.findClass own = some m.cls) (hK : va_K D vwCl (xtys cA) s) (hP : va_P D vwCl (xW cA ad h) H) (hlink : (Cond.fieldLink own index "DrawnPaths" "blocks" "LDrawnPaths$Blocks;").before args s = true) (hdg : decode cc pc = .ok (.getfield index, 3)) (kk : W p l e R s m args below meth c H locs cells slots Q (F0 m (pc + 3) ls (.ref (ad 1) :: rest))) : W p l e R s m args below meth c H locs cells slots Q (F0 m pc ls (.ref (ad 0) :: rest)) :=
  va_get (ci := 0) (v := .ref (ad 1)) (C := nR_P) (T := nT_P) (N := 6) hx hb hts nu_P hown hK hP 0 xw_DP rfl 0 (by decide) hlink (fun _ h9 => h9) rfl hdg kk
theorem xg_P_field (hx : p.tables.exec = Jvm.exec) (hb : c.code = cc) (hts : ∀ w ∈ lw_wd, w.before args s = true) (hown : s.vm.findClass own = some m.cls) (hK : va_K D vwCl (xtys cA) s) (hP : va_P D vwCl (xW cA ad h) H) (hlink : (Cond.fieldLink own index "DrawnPaths" "field" "LDrawnPaths$Field;").before args s = true) (hdg : decode cc pc = .ok (.getfield index, 3)) (kk : W p l e R s m args below meth c H locs cells slots Q (F0 m (pc + 3) ls (.ref (ad 4) :: rest))) : W p l e R s m args below meth c H locs cells slots Q (F0 m pc ls (.ref (ad 0) :: rest)) :=
  va_get (ci := 0) (v := .ref (ad 4)) (C := nR_P) (T := nT_P) (N := 6) hx hb hts nu_P hown hK hP 0 xw_DP rfl 1 (by decide) hlink (fun _ h9 => h9) rfl hdg kk
theorem xg_P_run (hx : p.tables.exec = Jvm.exec) (hb : c.code = cc) (hts : ∀ w ∈ lw_wd, w.before args s = true) (hown : s.vm.findClass own = some m.cls) (hK : va_K D vwCl (xtys cA) s) (hP : va_P D vwCl (xW cA ad h) H) (hlink : (Cond.fieldLink own index "DrawnPaths" "run" "LDrawnPaths$Run;").before args s = true) (hdg : decode cc pc = .ok (.getfield index, 3)) (kk : W p l e R s m args below meth c H locs cells slots Q (F0 m (pc + 3) ls (.ref (ad 6) :: rest))) : W p l e R s m args below meth c H locs cells slots Q (F0 m pc ls (.ref (ad 0) :: rest)) :=
  va_get (ci := 0) (v := .ref (ad 6)) (C := nR_P) (T := nT_P) (N := 6) hx hb hts nu_P hown hK hP 0 xw_DP rfl 2 (by decide) hlink (fun _ h9 => h9) rfl hdg kk
theorem xg_P_search (hx : p.tables.exec = Jvm.exec) (hb : c.code = cc) (hts : ∀ w ∈ lw_wd, w.before args s = true) (hown : s.vm.findClass own = some m.cls) (hK : va_K D vwCl (xtys cA) s) (hP : va_P D vwCl (xW cA ad h) H) (hlink : (Cond.fieldLink own index "DrawnPaths" "search" "LDrawnPaths$Search;").before args s = true) (hdg : decode cc pc = .ok (.getfield index, 3)) (kk : W p l e R s m args below meth c H locs cells slots Q (F0 m (pc + 3) ls (.ref (ad 10) :: rest))) : W p l e R s m args below meth c H locs cells slots Q (F0 m pc ls (.ref (ad 0) :: rest)) :=
  va_get (ci := 0) (v := .ref (ad 10)) (C := nR_P) (T := nT_P) (N := 6) hx hb hts nu_P hown hK hP 0 xw_DP rfl 3 (by decide) hlink (fun _ h9 => h9) rfl hdg kk
theorem xg_P_text (hx : p.tables.exec = Jvm.exec) (hb : c.code = cc) (hts : ∀ w ∈ lw_wd, w.before args s = true) (hown : s.vm.findClass own = some m.cls) (hK : va_K D vwCl (xtys cA) s) (hP : va_P D vwCl (xW cA ad h) H) (hlink : (Cond.fieldLink own index "DrawnPaths" "text" "LDrawnPaths$Line;").before args s = true) (hdg : decode cc pc = .ok (.getfield index, 3)) (kk : W p l e R s m args below meth c H locs cells slots Q (F0 m (pc + 3) ls (.ref (ad (1 + 13)) :: rest))) : W p l e R s m args below meth c H locs cells slots Q (F0 m pc ls (.ref (ad 0) :: rest)) :=
  va_get (ci := 0) (v := .ref (ad (1 + 13))) (C := nR_P) (T := nT_P) (N := 6) hx hb hts nu_P hown hK hP 0 xw_DP rfl 4 (by decide) hlink (fun _ h9 => h9) rfl hdg kk
theorem xg_P_page (hx : p.tables.exec = Jvm.exec) (hb : c.code = cc) (hts : ∀ w ∈ lw_wd, w.before args s = true) (hown : s.vm.findClass own = some m.cls) (hK : va_K D vwCl (xtys cA) s) (hP : va_P D vwCl (xW cA ad h) H) (hlink : (Cond.fieldLink own index "DrawnPaths" "page" "LDrawnPaths$Line;").before args s = true) (hdg : decode cc pc = .ok (.getfield index, 3)) (kk : W p l e R s m args below meth c H locs cells slots Q (F0 m (pc + 3) ls (.ref (ad (2 + 13)) :: rest))) : W p l e R s m args below meth c H locs cells slots Q (F0 m pc ls (.ref (ad 0) :: rest)) :=
  va_get (ci := 0) (v := .ref (ad (2 + 13))) (C := nR_P) (T := nT_P) (N := 6) hx hb hts nu_P hown hK hP 0 xw_DP rfl 5 (by decide) hlink (fun _ h9 => h9) rfl hdg kk
theorem xr_Block (hK : va_K D vwCl (xtys cA) s) (hP : va_P D vwCl (xW cA ad h) H) {k : Nat} (hk : k < 30) : ∃ cell : Cell, H[(ad (k + 31))]? = some cell ∧ cell.vm.isStatics = false ∧ s.vm.findClass nR_Block = some cell.cls := va_recv (q := (nR_Block, nT_Block, 5)) hK hP rfl (xw_Block hk)
theorem xg_Block_begin (hx : p.tables.exec = Jvm.exec) (hb : c.code = cc) (hts : ∀ w ∈ lw_wd, w.before args s = true) (hown : s.vm.findClass own = some m.cls) (hK : va_K D vwCl (xtys cA) s) (hP : va_P D vwCl (xW cA ad h) H) {k : Nat} (hk : k < 30) (hlink : (Cond.fieldLink own index "DrawnPaths$Block" "begin" "I").before args s = true) (hdg : decode cc pc = .ok (.getfield index, 3)) (kk : W p l e R s m args below meth c H locs cells slots Q (F0 m (pc + 3) ls (.int (xh_bbegin h k) :: rest))) : W p l e R s m args below meth c H locs cells slots Q (F0 m pc ls (.ref (ad (k + 31)) :: rest)) :=
  va_get (ci := 1) (v := .int (xh_bbegin h k)) (C := nR_Block) (T := nT_Block) (N := 5) hx hb hts nu_Block hown hK hP (k + 31) (xw_Block hk) rfl 0 (by decide) hlink (fun _ h9 => h9) rfl hdg kk
theorem xp_Block_begin (hx : p.tables.exec = Jvm.exec) (hb : c.code = cc) (hts : ∀ w ∈ lw_wd, w.before args s = true) (hown : s.vm.findClass own = some m.cls) (hK : va_K D vwCl (xtys cA) s) (hD : wdD 61 A ad) (hP : va_P D vwCl (xW cA ad h) H) (hS : va_S A H0 H locs) {k : Nat} (hk : k < 30) (hlink : (Cond.fieldLink own index "DrawnPaths$Block" "begin" "I").before args s = true) (hdg : decode cc pc = .ok (.putfield index, 3)) {v : Int32} (kk : ∀ (H1 : Heap) (locs1 : List Loc), va_P D vwCl (xW cA ad (xs_bbegin h k v)) H1 → va_S A H0 H1 locs1 → W p l e R s m args below meth c H1 locs1 cells slots Q (F0 m (pc + 3) ls rest)) : W p l e R s m args below meth c H locs cells slots Q (F0 m pc ls (.int v :: .ref (ad (k + 31)) :: rest)) :=
  va_put (ci := 1) (v := .int v) (ty := .int) (C := nR_Block) (T := nT_Block) (N := 5) hx hb hts nu_Block nY_Block nY_Block_ok nN_Block hown hK hP (hD _) hS (k + 31) (xw_Block hk) rfl 0 (by decide) hlink (fun _ h9 => h9) rfl (by decide +kernel) rfl rfl (Nat.le_of_ble_eq_true rfl) hdg (fun H1 locs1 hP1 _ hS1 => kk H1 locs1 (va_P_eq (wdG_set (ct' := xct cA ad (xs_bbegin h k v)) (by first | decide | omega) (by intro j9 hj9 hne; exact xo_bbegin hne) (by exact xe_bbegin hk)) hP1) hS1)
theorem xg_Block_behind (hx : p.tables.exec = Jvm.exec) (hb : c.code = cc) (hts : ∀ w ∈ lw_wd, w.before args s = true) (hown : s.vm.findClass own = some m.cls) (hK : va_K D vwCl (xtys cA) s) (hP : va_P D vwCl (xW cA ad h) H) {k : Nat} (hk : k < 30) (hlink : (Cond.fieldLink own index "DrawnPaths$Block" "behind" "I").before args s = true) (hdg : decode cc pc = .ok (.getfield index, 3)) (kk : W p l e R s m args below meth c H locs cells slots Q (F0 m (pc + 3) ls (.int (xh_bbehind h k) :: rest))) : W p l e R s m args below meth c H locs cells slots Q (F0 m pc ls (.ref (ad (k + 31)) :: rest)) :=
  va_get (ci := 1) (v := .int (xh_bbehind h k)) (C := nR_Block) (T := nT_Block) (N := 5) hx hb hts nu_Block hown hK hP (k + 31) (xw_Block hk) rfl 1 (by decide) hlink (fun _ h9 => h9) rfl hdg kk
theorem xp_Block_behind (hx : p.tables.exec = Jvm.exec) (hb : c.code = cc) (hts : ∀ w ∈ lw_wd, w.before args s = true) (hown : s.vm.findClass own = some m.cls) (hK : va_K D vwCl (xtys cA) s) (hD : wdD 61 A ad) (hP : va_P D vwCl (xW cA ad h) H) (hS : va_S A H0 H locs) {k : Nat} (hk : k < 30) (hlink : (Cond.fieldLink own index "DrawnPaths$Block" "behind" "I").before args s = true) (hdg : decode cc pc = .ok (.putfield index, 3)) {v : Int32} (kk : ∀ (H1 : Heap) (locs1 : List Loc), va_P D vwCl (xW cA ad (xs_bbehind h k v)) H1 → va_S A H0 H1 locs1 → W p l e R s m args below meth c H1 locs1 cells slots Q (F0 m (pc + 3) ls rest)) : W p l e R s m args below meth c H locs cells slots Q (F0 m pc ls (.int v :: .ref (ad (k + 31)) :: rest)) :=
  va_put (ci := 1) (v := .int v) (ty := .int) (C := nR_Block) (T := nT_Block) (N := 5) hx hb hts nu_Block nY_Block nY_Block_ok nN_Block hown hK hP (hD _) hS (k + 31) (xw_Block hk) rfl 1 (by decide) hlink (fun _ h9 => h9) rfl (by decide +kernel) rfl rfl (Nat.le_of_ble_eq_true rfl) hdg (fun H1 locs1 hP1 _ hS1 => kk H1 locs1 (va_P_eq (wdG_set (ct' := xct cA ad (xs_bbehind h k v)) (by first | decide | omega) (by intro j9 hj9 hne; exact xo_bbehind hne) (by exact xe_bbehind hk)) hP1) hS1)
theorem xg_Block_size (hx : p.tables.exec = Jvm.exec) (hb : c.code = cc) (hts : ∀ w ∈ lw_wd, w.before args s = true) (hown : s.vm.findClass own = some m.cls) (hK : va_K D vwCl (xtys cA) s) (hP : va_P D vwCl (xW cA ad h) H) {k : Nat} (hk : k < 30) (hlink : (Cond.fieldLink own index "DrawnPaths$Block" "size" "I").before args s = true) (hdg : decode cc pc = .ok (.getfield index, 3)) (kk : W p l e R s m args below meth c H locs cells slots Q (F0 m (pc + 3) ls (.int (xh_bsize h k) :: rest))) : W p l e R s m args below meth c H locs cells slots Q (F0 m pc ls (.ref (ad (k + 31)) :: rest)) :=
  va_get (ci := 1) (v := .int (xh_bsize h k)) (C := nR_Block) (T := nT_Block) (N := 5) hx hb hts nu_Block hown hK hP (k + 31) (xw_Block hk) rfl 2 (by decide) hlink (fun _ h9 => h9) rfl hdg kk
theorem xp_Block_size (hx : p.tables.exec = Jvm.exec) (hb : c.code = cc) (hts : ∀ w ∈ lw_wd, w.before args s = true) (hown : s.vm.findClass own = some m.cls) (hK : va_K D vwCl (xtys cA) s) (hD : wdD 61 A ad) (hP : va_P D vwCl (xW cA ad h) H) (hS : va_S A H0 H locs) {k : Nat} (hk : k < 30) (hlink : (Cond.fieldLink own index "DrawnPaths$Block" "size" "I").before args s = true) (hdg : decode cc pc = .ok (.putfield index, 3)) {v : Int32} (kk : ∀ (H1 : Heap) (locs1 : List Loc), va_P D vwCl (xW cA ad (xs_bsize h k v)) H1 → va_S A H0 H1 locs1 → W p l e R s m args below meth c H1 locs1 cells slots Q (F0 m (pc + 3) ls rest)) : W p l e R s m args below meth c H locs cells slots Q (F0 m pc ls (.int v :: .ref (ad (k + 31)) :: rest)) :=
  va_put (ci := 1) (v := .int v) (ty := .int) (C := nR_Block) (T := nT_Block) (N := 5) hx hb hts nu_Block nY_Block nY_Block_ok nN_Block hown hK hP (hD _) hS (k + 31) (xw_Block hk) rfl 2 (by decide) hlink (fun _ h9 => h9) rfl (by decide +kernel) rfl rfl (Nat.le_of_ble_eq_true rfl) hdg (fun H1 locs1 hP1 _ hS1 => kk H1 locs1 (va_P_eq (wdG_set (ct' := xct cA ad (xs_bsize h k v)) (by first | decide | omega) (by intro j9 hj9 hne; exact xo_bsize hne) (by exact xe_bsize hk)) hP1) hS1)
theorem xg_Block_lowPlaces (hx : p.tables.exec = Jvm.exec) (hb : c.code = cc) (hts : ∀ w ∈ lw_wd, w.before args s = true) (hown : s.vm.findClass own = some m.cls) (hK : va_K D vwCl (xtys cA) s) (hP : va_P D vwCl (xW cA ad h) H) {k : Nat} (hk : k < 30) (hlink : (Cond.fieldLink own index "DrawnPaths$Block" "lowPlaces" "J").before args s = true) (hdg : decode cc pc = .ok (.getfield index, 3)) (kk : W p l e R s m args below meth c H locs cells slots Q (F0 m (pc + 3) ls (.long (xh_blow h k) :: rest))) : W p l e R s m args below meth c H locs cells slots Q (F0 m pc ls (.ref (ad (k + 31)) :: rest)) :=
  va_get (ci := 1) (v := .long (xh_blow h k)) (C := nR_Block) (T := nT_Block) (N := 5) hx hb hts nu_Block hown hK hP (k + 31) (xw_Block hk) rfl 3 (by decide) hlink (fun _ h9 => h9) rfl hdg kk
theorem xp_Block_lowPlaces (hx : p.tables.exec = Jvm.exec) (hb : c.code = cc) (hts : ∀ w ∈ lw_wd, w.before args s = true) (hown : s.vm.findClass own = some m.cls) (hK : va_K D vwCl (xtys cA) s) (hD : wdD 61 A ad) (hP : va_P D vwCl (xW cA ad h) H) (hS : va_S A H0 H locs) {k : Nat} (hk : k < 30) (hlink : (Cond.fieldLink own index "DrawnPaths$Block" "lowPlaces" "J").before args s = true) (hdg : decode cc pc = .ok (.putfield index, 3)) {v : Int64} (kk : ∀ (H1 : Heap) (locs1 : List Loc), va_P D vwCl (xW cA ad (xs_blow h k v)) H1 → va_S A H0 H1 locs1 → W p l e R s m args below meth c H1 locs1 cells slots Q (F0 m (pc + 3) ls rest)) : W p l e R s m args below meth c H locs cells slots Q (F0 m pc ls (.long v :: .ref (ad (k + 31)) :: rest)) :=
  va_put (ci := 1) (v := .long v) (ty := .long) (C := nR_Block) (T := nT_Block) (N := 5) hx hb hts nu_Block nY_Block nY_Block_ok nN_Block hown hK hP (hD _) hS (k + 31) (xw_Block hk) rfl 3 (by decide) hlink (fun _ h9 => h9) rfl (by decide +kernel) rfl rfl (Nat.le_of_ble_eq_true rfl) hdg (fun H1 locs1 hP1 _ hS1 => kk H1 locs1 (va_P_eq (wdG_set (ct' := xct cA ad (xs_blow h k v)) (by first | decide | omega) (by intro j9 hj9 hne; exact xo_blow hne) (by exact xe_blow hk)) hP1) hS1)
theorem xg_Block_highPlaces (hx : p.tables.exec = Jvm.exec) (hb : c.code = cc) (hts : ∀ w ∈ lw_wd, w.before args s = true) (hown : s.vm.findClass own = some m.cls) (hK : va_K D vwCl (xtys cA) s) (hP : va_P D vwCl (xW cA ad h) H) {k : Nat} (hk : k < 30) (hlink : (Cond.fieldLink own index "DrawnPaths$Block" "highPlaces" "J").before args s = true) (hdg : decode cc pc = .ok (.getfield index, 3)) (kk : W p l e R s m args below meth c H locs cells slots Q (F0 m (pc + 3) ls (.long (xh_bhigh h k) :: rest))) : W p l e R s m args below meth c H locs cells slots Q (F0 m pc ls (.ref (ad (k + 31)) :: rest)) :=
  va_get (ci := 1) (v := .long (xh_bhigh h k)) (C := nR_Block) (T := nT_Block) (N := 5) hx hb hts nu_Block hown hK hP (k + 31) (xw_Block hk) rfl 4 (by decide) hlink (fun _ h9 => h9) rfl hdg kk
theorem xp_Block_highPlaces (hx : p.tables.exec = Jvm.exec) (hb : c.code = cc) (hts : ∀ w ∈ lw_wd, w.before args s = true) (hown : s.vm.findClass own = some m.cls) (hK : va_K D vwCl (xtys cA) s) (hD : wdD 61 A ad) (hP : va_P D vwCl (xW cA ad h) H) (hS : va_S A H0 H locs) {k : Nat} (hk : k < 30) (hlink : (Cond.fieldLink own index "DrawnPaths$Block" "highPlaces" "J").before args s = true) (hdg : decode cc pc = .ok (.putfield index, 3)) {v : Int64} (kk : ∀ (H1 : Heap) (locs1 : List Loc), va_P D vwCl (xW cA ad (xs_bhigh h k v)) H1 → va_S A H0 H1 locs1 → W p l e R s m args below meth c H1 locs1 cells slots Q (F0 m (pc + 3) ls rest)) : W p l e R s m args below meth c H locs cells slots Q (F0 m pc ls (.long v :: .ref (ad (k + 31)) :: rest)) :=
  va_put (ci := 1) (v := .long v) (ty := .long) (C := nR_Block) (T := nT_Block) (N := 5) hx hb hts nu_Block nY_Block nY_Block_ok nN_Block hown hK hP (hD _) hS (k + 31) (xw_Block hk) rfl 4 (by decide) hlink (fun _ h9 => h9) rfl (by decide +kernel) rfl rfl (Nat.le_of_ble_eq_true rfl) hdg (fun H1 locs1 hP1 _ hS1 => kk H1 locs1 (va_P_eq (wdG_set (ct' := xct cA ad (xs_bhigh h k v)) (by first | decide | omega) (by intro j9 hj9 hne; exact xo_bhigh hne) (by exact xe_bhigh hk)) hP1) hS1)
theorem xr_Blocks (hK : va_K D vwCl (xtys cA) s) (hP : va_P D vwCl (xW cA ad h) H) : ∃ cell : Cell, H[(ad 1)]? = some cell ∧ cell.vm.isStatics = false ∧ s.vm.findClass nR_Blocks = some cell.cls := va_recv (q := (nR_Blocks, nT_Blocks, 4)) hK hP rfl xw_Blocks
theorem xg_Blocks_row (hx : p.tables.exec = Jvm.exec) (hb : c.code = cc) (hts : ∀ w ∈ lw_wd, w.before args s = true) (hown : s.vm.findClass own = some m.cls) (hK : va_K D vwCl (xtys cA) s) (hP : va_P D vwCl (xW cA ad h) H) (hlink : (Cond.fieldLink own index "DrawnPaths$Blocks" "row" "[LDrawnPaths$Block;").before args s = true) (hdg : decode cc pc = .ok (.getfield index, 3)) (kk : W p l e R s m args below meth c H locs cells slots Q (F0 m (pc + 3) ls (.ref (ad 2) :: rest))) : W p l e R s m args below meth c H locs cells slots Q (F0 m pc ls (.ref (ad 1) :: rest)) :=
  va_get (ci := 2) (v := .ref (ad 2)) (C := nR_Blocks) (T := nT_Blocks) (N := 4) hx hb hts nu_Blocks hown hK hP 1 xw_Blocks rfl 0 (by decide) hlink (fun _ h9 => h9) rfl hdg kk
theorem xg_Blocks_marks (hx : p.tables.exec = Jvm.exec) (hb : c.code = cc) (hts : ∀ w ∈ lw_wd, w.before args s = true) (hown : s.vm.findClass own = some m.cls) (hK : va_K D vwCl (xtys cA) s) (hP : va_P D vwCl (xW cA ad h) H) (hlink : (Cond.fieldLink own index "DrawnPaths$Blocks" "marks" "[I").before args s = true) (hdg : decode cc pc = .ok (.getfield index, 3)) (kk : W p l e R s m args below meth c H locs cells slots Q (F0 m (pc + 3) ls (.ref (ad 3) :: rest))) : W p l e R s m args below meth c H locs cells slots Q (F0 m pc ls (.ref (ad 1) :: rest)) :=
  va_get (ci := 2) (v := .ref (ad 3)) (C := nR_Blocks) (T := nT_Blocks) (N := 4) hx hb hts nu_Blocks hown hK hP 1 xw_Blocks rfl 1 (by decide) hlink (fun _ h9 => h9) rfl hdg kk
theorem xg_Blocks_held (hx : p.tables.exec = Jvm.exec) (hb : c.code = cc) (hts : ∀ w ∈ lw_wd, w.before args s = true) (hown : s.vm.findClass own = some m.cls) (hK : va_K D vwCl (xtys cA) s) (hP : va_P D vwCl (xW cA ad h) H) (hlink : (Cond.fieldLink own index "DrawnPaths$Blocks" "held" "I").before args s = true) (hdg : decode cc pc = .ok (.getfield index, 3)) (kk : W p l e R s m args below meth c H locs cells slots Q (F0 m (pc + 3) ls (.int (xh_held h) :: rest))) : W p l e R s m args below meth c H locs cells slots Q (F0 m pc ls (.ref (ad 1) :: rest)) :=
  va_get (ci := 2) (v := .int (xh_held h)) (C := nR_Blocks) (T := nT_Blocks) (N := 4) hx hb hts nu_Blocks hown hK hP 1 xw_Blocks rfl 2 (by decide) hlink (fun _ h9 => h9) rfl hdg kk
theorem xp_Blocks_held (hx : p.tables.exec = Jvm.exec) (hb : c.code = cc) (hts : ∀ w ∈ lw_wd, w.before args s = true) (hown : s.vm.findClass own = some m.cls) (hK : va_K D vwCl (xtys cA) s) (hD : wdD 61 A ad) (hP : va_P D vwCl (xW cA ad h) H) (hS : va_S A H0 H locs) (hlink : (Cond.fieldLink own index "DrawnPaths$Blocks" "held" "I").before args s = true) (hdg : decode cc pc = .ok (.putfield index, 3)) {v : Int32} (kk : ∀ (H1 : Heap) (locs1 : List Loc), va_P D vwCl (xW cA ad (xs_held h v)) H1 → va_S A H0 H1 locs1 → W p l e R s m args below meth c H1 locs1 cells slots Q (F0 m (pc + 3) ls rest)) : W p l e R s m args below meth c H locs cells slots Q (F0 m pc ls (.int v :: .ref (ad 1) :: rest)) :=
  va_put (ci := 2) (v := .int v) (ty := .int) (C := nR_Blocks) (T := nT_Blocks) (N := 4) hx hb hts nu_Blocks nY_Blocks nY_Blocks_ok nN_Blocks hown hK hP (hD _) hS 1 xw_Blocks rfl 2 (by decide) hlink (fun _ h9 => h9) rfl (by decide +kernel) rfl rfl (Nat.le_of_ble_eq_true rfl) hdg (fun H1 locs1 hP1 _ hS1 => kk H1 locs1 (va_P_eq (wdG_set (ct' := xct cA ad (xs_held h v)) (by first | decide | omega) (by intro j9 hj9 hne; exact xo_held hne) (by exact xe_held)) hP1) hS1)
theorem xg_Blocks_dropped (hx : p.tables.exec = Jvm.exec) (hb : c.code = cc) (hts : ∀ w ∈ lw_wd, w.before args s = true) (hown : s.vm.findClass own = some m.cls) (hK : va_K D vwCl (xtys cA) s) (hP : va_P D vwCl (xW cA ad h) H) (hlink : (Cond.fieldLink own index "DrawnPaths$Blocks" "dropped" "I").before args s = true) (hdg : decode cc pc = .ok (.getfield index, 3)) (kk : W p l e R s m args below meth c H locs cells slots Q (F0 m (pc + 3) ls (.int (xh_dropped h) :: rest))) : W p l e R s m args below meth c H locs cells slots Q (F0 m pc ls (.ref (ad 1) :: rest)) :=
  va_get (ci := 2) (v := .int (xh_dropped h)) (C := nR_Blocks) (T := nT_Blocks) (N := 4) hx hb hts nu_Blocks hown hK hP 1 xw_Blocks rfl 3 (by decide) hlink (fun _ h9 => h9) rfl hdg kk
theorem xp_Blocks_dropped (hx : p.tables.exec = Jvm.exec) (hb : c.code = cc) (hts : ∀ w ∈ lw_wd, w.before args s = true) (hown : s.vm.findClass own = some m.cls) (hK : va_K D vwCl (xtys cA) s) (hD : wdD 61 A ad) (hP : va_P D vwCl (xW cA ad h) H) (hS : va_S A H0 H locs) (hlink : (Cond.fieldLink own index "DrawnPaths$Blocks" "dropped" "I").before args s = true) (hdg : decode cc pc = .ok (.putfield index, 3)) {v : Int32} (kk : ∀ (H1 : Heap) (locs1 : List Loc), va_P D vwCl (xW cA ad (xs_dropped h v)) H1 → va_S A H0 H1 locs1 → W p l e R s m args below meth c H1 locs1 cells slots Q (F0 m (pc + 3) ls rest)) : W p l e R s m args below meth c H locs cells slots Q (F0 m pc ls (.int v :: .ref (ad 1) :: rest)) :=
  va_put (ci := 2) (v := .int v) (ty := .int) (C := nR_Blocks) (T := nT_Blocks) (N := 4) hx hb hts nu_Blocks nY_Blocks nY_Blocks_ok nN_Blocks hown hK hP (hD _) hS 1 xw_Blocks rfl 3 (by decide) hlink (fun _ h9 => h9) rfl (by decide +kernel) rfl rfl (Nat.le_of_ble_eq_true rfl) hdg (fun H1 locs1 hP1 _ hS1 => kk H1 locs1 (va_P_eq (wdG_set (ct' := xct cA ad (xs_dropped h v)) (by first | decide | omega) (by intro j9 hj9 hne; exact xo_dropped hne) (by exact xe_dropped)) hP1) hS1)
theorem xr_Field (hK : va_K D vwCl (xtys cA) s) (hP : va_P D vwCl (xW cA ad h) H) : ∃ cell : Cell, H[(ad 4)]? = some cell ∧ cell.vm.isStatics = false ∧ s.vm.findClass nR_Field = some cell.cls := va_recv (q := (nR_Field, nT_Field, 2)) hK hP rfl xw_Field
theorem xg_Field_signs (hx : p.tables.exec = Jvm.exec) (hb : c.code = cc) (hts : ∀ w ∈ lw_wd, w.before args s = true) (hown : s.vm.findClass own = some m.cls) (hK : va_K D vwCl (xtys cA) s) (hP : va_P D vwCl (xW cA ad h) H) (hlink : (Cond.fieldLink own index "DrawnPaths$Field" "signs" "[C").before args s = true) (hdg : decode cc pc = .ok (.getfield index, 3)) (kk : W p l e R s m args below meth c H locs cells slots Q (F0 m (pc + 3) ls (.ref (ad 5) :: rest))) : W p l e R s m args below meth c H locs cells slots Q (F0 m pc ls (.ref (ad 4) :: rest)) :=
  va_get (ci := 3) (v := .ref (ad 5)) (C := nR_Field) (T := nT_Field) (N := 2) hx hb hts nu_Field hown hK hP 4 xw_Field rfl 0 (by decide) hlink (fun _ h9 => h9) rfl hdg kk
theorem xg_Field_blocks (hx : p.tables.exec = Jvm.exec) (hb : c.code = cc) (hts : ∀ w ∈ lw_wd, w.before args s = true) (hown : s.vm.findClass own = some m.cls) (hK : va_K D vwCl (xtys cA) s) (hP : va_P D vwCl (xW cA ad h) H) (hlink : (Cond.fieldLink own index "DrawnPaths$Field" "blocks" "LDrawnPaths$Blocks;").before args s = true) (hdg : decode cc pc = .ok (.getfield index, 3)) (kk : W p l e R s m args below meth c H locs cells slots Q (F0 m (pc + 3) ls (.ref (ad 1) :: rest))) : W p l e R s m args below meth c H locs cells slots Q (F0 m pc ls (.ref (ad 4) :: rest)) :=
  va_get (ci := 3) (v := .ref (ad 1)) (C := nR_Field) (T := nT_Field) (N := 2) hx hb hts nu_Field hown hK hP 4 xw_Field rfl 1 (by decide) hlink (fun _ h9 => h9) rfl hdg kk
theorem xr_Line (hK : va_K D vwCl (xtys cA) s) (hP : va_P D vwCl (xW cA ad h) H) {k : Nat} (hk : k < 3) : ∃ cell : Cell, H[(ad (k + 13))]? = some cell ∧ cell.vm.isStatics = false ∧ s.vm.findClass nR_Line = some cell.cls := va_recv (q := (nR_Line, nT_Line, 2)) hK hP rfl (xw_Line hk)
theorem xg_Line_characters (hx : p.tables.exec = Jvm.exec) (hb : c.code = cc) (hts : ∀ w ∈ lw_wd, w.before args s = true) (hown : s.vm.findClass own = some m.cls) (hK : va_K D vwCl (xtys cA) s) (hP : va_P D vwCl (xW cA ad h) H) {k : Nat} (hk : k < 3) (hlink : (Cond.fieldLink own index "DrawnPaths$Line" "characters" "[C").before args s = true) (hdg : decode cc pc = .ok (.getfield index, 3)) (kk : W p l e R s m args below meth c H locs cells slots Q (F0 m (pc + 3) ls (.ref (ad (k + 16)) :: rest))) : W p l e R s m args below meth c H locs cells slots Q (F0 m pc ls (.ref (ad (k + 13)) :: rest)) :=
  va_get (ci := 4) (v := .ref (ad (k + 16))) (C := nR_Line) (T := nT_Line) (N := 2) hx hb hts nu_Line hown hK hP (k + 13) (xw_Line hk) rfl 0 (by decide) hlink (fun _ h9 => h9) rfl hdg kk
theorem xg_Line_size (hx : p.tables.exec = Jvm.exec) (hb : c.code = cc) (hts : ∀ w ∈ lw_wd, w.before args s = true) (hown : s.vm.findClass own = some m.cls) (hK : va_K D vwCl (xtys cA) s) (hP : va_P D vwCl (xW cA ad h) H) {k : Nat} (hk : k < 3) (hlink : (Cond.fieldLink own index "DrawnPaths$Line" "size" "I").before args s = true) (hdg : decode cc pc = .ok (.getfield index, 3)) (kk : W p l e R s m args below meth c H locs cells slots Q (F0 m (pc + 3) ls (.int (xh_lsize h k) :: rest))) : W p l e R s m args below meth c H locs cells slots Q (F0 m pc ls (.ref (ad (k + 13)) :: rest)) :=
  va_get (ci := 4) (v := .int (xh_lsize h k)) (C := nR_Line) (T := nT_Line) (N := 2) hx hb hts nu_Line hown hK hP (k + 13) (xw_Line hk) rfl 1 (by decide) hlink (fun _ h9 => h9) rfl hdg kk
theorem xp_Line_size (hx : p.tables.exec = Jvm.exec) (hb : c.code = cc) (hts : ∀ w ∈ lw_wd, w.before args s = true) (hown : s.vm.findClass own = some m.cls) (hK : va_K D vwCl (xtys cA) s) (hD : wdD 61 A ad) (hP : va_P D vwCl (xW cA ad h) H) (hS : va_S A H0 H locs) {k : Nat} (hk : k < 3) (hlink : (Cond.fieldLink own index "DrawnPaths$Line" "size" "I").before args s = true) (hdg : decode cc pc = .ok (.putfield index, 3)) {v : Int32} (kk : ∀ (H1 : Heap) (locs1 : List Loc), va_P D vwCl (xW cA ad (xs_lsize h k v)) H1 → va_S A H0 H1 locs1 → W p l e R s m args below meth c H1 locs1 cells slots Q (F0 m (pc + 3) ls rest)) : W p l e R s m args below meth c H locs cells slots Q (F0 m pc ls (.int v :: .ref (ad (k + 13)) :: rest)) :=
  va_put (ci := 4) (v := .int v) (ty := .int) (C := nR_Line) (T := nT_Line) (N := 2) hx hb hts nu_Line nY_Line nY_Line_ok nN_Line hown hK hP (hD _) hS (k + 13) (xw_Line hk) rfl 1 (by decide) hlink (fun _ h9 => h9) rfl (by decide +kernel) rfl rfl (Nat.le_of_ble_eq_true rfl) hdg (fun H1 locs1 hP1 _ hS1 => kk H1 locs1 (va_P_eq (wdG_set (ct' := xct cA ad (xs_lsize h k v)) (by first | decide | omega) (by intro j9 hj9 hne; exact xo_lsize hne) (by exact xe_lsize hk)) hP1) hS1)
theorem xr_Pointer (hK : va_K D vwCl (xtys cA) s) (hP : va_P D vwCl (xW cA ad h) H) {k : Nat} (hk : k < 4) : ∃ cell : Cell, H[(ad (k + 19))]? = some cell ∧ cell.vm.isStatics = false ∧ s.vm.findClass nR_Ptr = some cell.cls := va_recv (q := (nR_Ptr, nT_Ptr, 5)) hK hP rfl (xw_Pointer hk)
theorem xg_Ptr_numbers (hx : p.tables.exec = Jvm.exec) (hb : c.code = cc) (hts : ∀ w ∈ lw_wd, w.before args s = true) (hown : s.vm.findClass own = some m.cls) (hK : va_K D vwCl (xtys cA) s) (hP : va_P D vwCl (xW cA ad h) H) {k : Nat} (hk : k < 4) (hlink : (Cond.fieldLink own index "DrawnPaths$Pointer" "numbers" "[J").before args s = true) (hdg : decode cc pc = .ok (.getfield index, 3)) (kk : W p l e R s m args below meth c H locs cells slots Q (F0 m (pc + 3) ls (.ref (ad (k + 23)) :: rest))) : W p l e R s m args below meth c H locs cells slots Q (F0 m pc ls (.ref (ad (k + 19)) :: rest)) :=
  va_get (ci := 5) (v := .ref (ad (k + 23))) (C := nR_Ptr) (T := nT_Ptr) (N := 5) hx hb hts nu_Ptr hown hK hP (k + 19) (xw_Pointer hk) rfl 0 (by decide) hlink (fun _ h9 => h9) rfl hdg kk
theorem xg_Ptr_returns (hx : p.tables.exec = Jvm.exec) (hb : c.code = cc) (hts : ∀ w ∈ lw_wd, w.before args s = true) (hown : s.vm.findClass own = some m.cls) (hK : va_K D vwCl (xtys cA) s) (hP : va_P D vwCl (xW cA ad h) H) {k : Nat} (hk : k < 4) (hlink : (Cond.fieldLink own index "DrawnPaths$Pointer" "returns" "[I").before args s = true) (hdg : decode cc pc = .ok (.getfield index, 3)) (kk : W p l e R s m args below meth c H locs cells slots Q (F0 m (pc + 3) ls (.ref (ad (k + 27)) :: rest))) : W p l e R s m args below meth c H locs cells slots Q (F0 m pc ls (.ref (ad (k + 19)) :: rest)) :=
  va_get (ci := 5) (v := .ref (ad (k + 27))) (C := nR_Ptr) (T := nT_Ptr) (N := 5) hx hb hts nu_Ptr hown hK hP (k + 19) (xw_Pointer hk) rfl 1 (by decide) hlink (fun _ h9 => h9) rfl hdg kk
theorem xg_Ptr_way (hx : p.tables.exec = Jvm.exec) (hb : c.code = cc) (hts : ∀ w ∈ lw_wd, w.before args s = true) (hown : s.vm.findClass own = some m.cls) (hK : va_K D vwCl (xtys cA) s) (hP : va_P D vwCl (xW cA ad h) H) {k : Nat} (hk : k < 4) (hlink : (Cond.fieldLink own index "DrawnPaths$Pointer" "way" "I").before args s = true) (hdg : decode cc pc = .ok (.getfield index, 3)) (kk : W p l e R s m args below meth c H locs cells slots Q (F0 m (pc + 3) ls (.int (xh_pway h k) :: rest))) : W p l e R s m args below meth c H locs cells slots Q (F0 m pc ls (.ref (ad (k + 19)) :: rest)) :=
  va_get (ci := 5) (v := .int (xh_pway h k)) (C := nR_Ptr) (T := nT_Ptr) (N := 5) hx hb hts nu_Ptr hown hK hP (k + 19) (xw_Pointer hk) rfl 2 (by decide) hlink (fun _ h9 => h9) rfl hdg kk
theorem xp_Ptr_way (hx : p.tables.exec = Jvm.exec) (hb : c.code = cc) (hts : ∀ w ∈ lw_wd, w.before args s = true) (hown : s.vm.findClass own = some m.cls) (hK : va_K D vwCl (xtys cA) s) (hD : wdD 61 A ad) (hP : va_P D vwCl (xW cA ad h) H) (hS : va_S A H0 H locs) {k : Nat} (hk : k < 4) (hlink : (Cond.fieldLink own index "DrawnPaths$Pointer" "way" "I").before args s = true) (hdg : decode cc pc = .ok (.putfield index, 3)) {v : Int32} (kk : ∀ (H1 : Heap) (locs1 : List Loc), va_P D vwCl (xW cA ad (xs_pway h k v)) H1 → va_S A H0 H1 locs1 → W p l e R s m args below meth c H1 locs1 cells slots Q (F0 m (pc + 3) ls rest)) : W p l e R s m args below meth c H locs cells slots Q (F0 m pc ls (.int v :: .ref (ad (k + 19)) :: rest)) :=
  va_put (ci := 5) (v := .int v) (ty := .int) (C := nR_Ptr) (T := nT_Ptr) (N := 5) hx hb hts nu_Ptr nY_Ptr nY_Ptr_ok nN_Ptr hown hK hP (hD _) hS (k + 19) (xw_Pointer hk) rfl 2 (by decide) hlink (fun _ h9 => h9) rfl (by decide +kernel) rfl rfl (Nat.le_of_ble_eq_true rfl) hdg (fun H1 locs1 hP1 _ hS1 => kk H1 locs1 (va_P_eq (wdG_set (ct' := xct cA ad (xs_pway h k v)) (by first | decide | omega) (by intro j9 hj9 hne; exact xo_pway hne) (by exact xe_pway hk)) hP1) hS1)
theorem xg_Ptr_depth (hx : p.tables.exec = Jvm.exec) (hb : c.code = cc) (hts : ∀ w ∈ lw_wd, w.before args s = true) (hown : s.vm.findClass own = some m.cls) (hK : va_K D vwCl (xtys cA) s) (hP : va_P D vwCl (xW cA ad h) H) {k : Nat} (hk : k < 4) (hlink : (Cond.fieldLink own index "DrawnPaths$Pointer" "depth" "I").before args s = true) (hdg : decode cc pc = .ok (.getfield index, 3)) (kk : W p l e R s m args below meth c H locs cells slots Q (F0 m (pc + 3) ls (.int (xh_pdepth h k) :: rest))) : W p l e R s m args below meth c H locs cells slots Q (F0 m pc ls (.ref (ad (k + 19)) :: rest)) :=
  va_get (ci := 5) (v := .int (xh_pdepth h k)) (C := nR_Ptr) (T := nT_Ptr) (N := 5) hx hb hts nu_Ptr hown hK hP (k + 19) (xw_Pointer hk) rfl 3 (by decide) hlink (fun _ h9 => h9) rfl hdg kk
theorem xp_Ptr_depth (hx : p.tables.exec = Jvm.exec) (hb : c.code = cc) (hts : ∀ w ∈ lw_wd, w.before args s = true) (hown : s.vm.findClass own = some m.cls) (hK : va_K D vwCl (xtys cA) s) (hD : wdD 61 A ad) (hP : va_P D vwCl (xW cA ad h) H) (hS : va_S A H0 H locs) {k : Nat} (hk : k < 4) (hlink : (Cond.fieldLink own index "DrawnPaths$Pointer" "depth" "I").before args s = true) (hdg : decode cc pc = .ok (.putfield index, 3)) {v : Int32} (kk : ∀ (H1 : Heap) (locs1 : List Loc), va_P D vwCl (xW cA ad (xs_pdepth h k v)) H1 → va_S A H0 H1 locs1 → W p l e R s m args below meth c H1 locs1 cells slots Q (F0 m (pc + 3) ls rest)) : W p l e R s m args below meth c H locs cells slots Q (F0 m pc ls (.int v :: .ref (ad (k + 19)) :: rest)) :=
  va_put (ci := 5) (v := .int v) (ty := .int) (C := nR_Ptr) (T := nT_Ptr) (N := 5) hx hb hts nu_Ptr nY_Ptr nY_Ptr_ok nN_Ptr hown hK hP (hD _) hS (k + 19) (xw_Pointer hk) rfl 3 (by decide) hlink (fun _ h9 => h9) rfl (by decide +kernel) rfl rfl (Nat.le_of_ble_eq_true rfl) hdg (fun H1 locs1 hP1 _ hS1 => kk H1 locs1 (va_P_eq (wdG_set (ct' := xct cA ad (xs_pdepth h k v)) (by first | decide | omega) (by intro j9 hj9 hne; exact xo_pdepth hne) (by exact xe_pdepth hk)) hP1) hS1)
theorem xg_Ptr_returning (hx : p.tables.exec = Jvm.exec) (hb : c.code = cc) (hts : ∀ w ∈ lw_wd, w.before args s = true) (hown : s.vm.findClass own = some m.cls) (hK : va_K D vwCl (xtys cA) s) (hP : va_P D vwCl (xW cA ad h) H) {k : Nat} (hk : k < 4) (hlink : (Cond.fieldLink own index "DrawnPaths$Pointer" "returning" "I").before args s = true) (hdg : decode cc pc = .ok (.getfield index, 3)) (kk : W p l e R s m args below meth c H locs cells slots Q (F0 m (pc + 3) ls (.int (xh_pret h k) :: rest))) : W p l e R s m args below meth c H locs cells slots Q (F0 m pc ls (.ref (ad (k + 19)) :: rest)) :=
  va_get (ci := 5) (v := .int (xh_pret h k)) (C := nR_Ptr) (T := nT_Ptr) (N := 5) hx hb hts nu_Ptr hown hK hP (k + 19) (xw_Pointer hk) rfl 4 (by decide) hlink (fun _ h9 => h9) rfl hdg kk
theorem xp_Ptr_returning (hx : p.tables.exec = Jvm.exec) (hb : c.code = cc) (hts : ∀ w ∈ lw_wd, w.before args s = true) (hown : s.vm.findClass own = some m.cls) (hK : va_K D vwCl (xtys cA) s) (hD : wdD 61 A ad) (hP : va_P D vwCl (xW cA ad h) H) (hS : va_S A H0 H locs) {k : Nat} (hk : k < 4) (hlink : (Cond.fieldLink own index "DrawnPaths$Pointer" "returning" "I").before args s = true) (hdg : decode cc pc = .ok (.putfield index, 3)) {v : Int32} (kk : ∀ (H1 : Heap) (locs1 : List Loc), va_P D vwCl (xW cA ad (xs_pret h k v)) H1 → va_S A H0 H1 locs1 → W p l e R s m args below meth c H1 locs1 cells slots Q (F0 m (pc + 3) ls rest)) : W p l e R s m args below meth c H locs cells slots Q (F0 m pc ls (.int v :: .ref (ad (k + 19)) :: rest)) :=
  va_put (ci := 5) (v := .int v) (ty := .int) (C := nR_Ptr) (T := nT_Ptr) (N := 5) hx hb hts nu_Ptr nY_Ptr nY_Ptr_ok nN_Ptr hown hK hP (hD _) hS (k + 19) (xw_Pointer hk) rfl 4 (by decide) hlink (fun _ h9 => h9) rfl (by decide +kernel) rfl rfl (Nat.le_of_ble_eq_true rfl) hdg (fun H1 locs1 hP1 _ hS1 => kk H1 locs1 (va_P_eq (wdG_set (ct' := xct cA ad (xs_pret h k v)) (by first | decide | omega) (by intro j9 hj9 hne; exact xo_pret hne) (by exact xe_pret hk)) hP1) hS1)
theorem xr_Run (hK : va_K D vwCl (xtys cA) s) (hP : va_P D vwCl (xW cA ad h) H) : ∃ cell : Cell, H[(ad 6)]? = some cell ∧ cell.vm.isStatics = false ∧ s.vm.findClass nR_Run = some cell.cls := va_recv (q := (nR_Run, nT_Run, 10)) hK hP rfl xw_Run
theorem xg_Run_field (hx : p.tables.exec = Jvm.exec) (hb : c.code = cc) (hts : ∀ w ∈ lw_wd, w.before args s = true) (hown : s.vm.findClass own = some m.cls) (hK : va_K D vwCl (xtys cA) s) (hP : va_P D vwCl (xW cA ad h) H) (hlink : (Cond.fieldLink own index "DrawnPaths$Run" "field" "LDrawnPaths$Field;").before args s = true) (hdg : decode cc pc = .ok (.getfield index, 3)) (kk : W p l e R s m args below meth c H locs cells slots Q (F0 m (pc + 3) ls (.ref (ad 4) :: rest))) : W p l e R s m args below meth c H locs cells slots Q (F0 m pc ls (.ref (ad 6) :: rest)) :=
  va_get (ci := 6) (v := .ref (ad 4)) (C := nR_Run) (T := nT_Run) (N := 10) hx hb hts nu_Run hown hK hP 6 xw_Run rfl 0 (by decide) hlink (fun _ h9 => h9) rfl hdg kk
theorem xg_Run_pointers (hx : p.tables.exec = Jvm.exec) (hb : c.code = cc) (hts : ∀ w ∈ lw_wd, w.before args s = true) (hown : s.vm.findClass own = some m.cls) (hK : va_K D vwCl (xtys cA) s) (hP : va_P D vwCl (xW cA ad h) H) (hlink : (Cond.fieldLink own index "DrawnPaths$Run" "pointers" "[LDrawnPaths$Pointer;").before args s = true) (hdg : decode cc pc = .ok (.getfield index, 3)) (kk : W p l e R s m args below meth c H locs cells slots Q (F0 m (pc + 3) ls (.ref (ad 7) :: rest))) : W p l e R s m args below meth c H locs cells slots Q (F0 m pc ls (.ref (ad 6) :: rest)) :=
  va_get (ci := 6) (v := .ref (ad 7)) (C := nR_Run) (T := nT_Run) (N := 10) hx hb hts nu_Run hown hK hP 6 xw_Run rfl 1 (by decide) hlink (fun _ h9 => h9) rfl hdg kk
theorem xg_Run_numbers (hx : p.tables.exec = Jvm.exec) (hb : c.code = cc) (hts : ∀ w ∈ lw_wd, w.before args s = true) (hown : s.vm.findClass own = some m.cls) (hK : va_K D vwCl (xtys cA) s) (hP : va_P D vwCl (xW cA ad h) H) (hlink : (Cond.fieldLink own index "DrawnPaths$Run" "numbers" "[J").before args s = true) (hdg : decode cc pc = .ok (.getfield index, 3)) (kk : W p l e R s m args below meth c H locs cells slots Q (F0 m (pc + 3) ls (.ref (ad 8) :: rest))) : W p l e R s m args below meth c H locs cells slots Q (F0 m pc ls (.ref (ad 6) :: rest)) :=
  va_get (ci := 6) (v := .ref (ad 8)) (C := nR_Run) (T := nT_Run) (N := 10) hx hb hts nu_Run hown hK hP 6 xw_Run rfl 2 (by decide) hlink (fun _ h9 => h9) rfl hdg kk
theorem xg_Run_digits (hx : p.tables.exec = Jvm.exec) (hb : c.code = cc) (hts : ∀ w ∈ lw_wd, w.before args s = true) (hown : s.vm.findClass own = some m.cls) (hK : va_K D vwCl (xtys cA) s) (hP : va_P D vwCl (xW cA ad h) H) (hlink : (Cond.fieldLink own index "DrawnPaths$Run" "digits" "[C").before args s = true) (hdg : decode cc pc = .ok (.getfield index, 3)) (kk : W p l e R s m args below meth c H locs cells slots Q (F0 m (pc + 3) ls (.ref (ad 9) :: rest))) : W p l e R s m args below meth c H locs cells slots Q (F0 m pc ls (.ref (ad 6) :: rest)) :=
  va_get (ci := 6) (v := .ref (ad 9)) (C := nR_Run) (T := nT_Run) (N := 10) hx hb hts nu_Run hown hK hP 6 xw_Run rfl 3 (by decide) hlink (fun _ h9 => h9) rfl hdg kk
theorem xg_Run_written (hx : p.tables.exec = Jvm.exec) (hb : c.code = cc) (hts : ∀ w ∈ lw_wd, w.before args s = true) (hown : s.vm.findClass own = some m.cls) (hK : va_K D vwCl (xtys cA) s) (hP : va_P D vwCl (xW cA ad h) H) (hlink : (Cond.fieldLink own index "DrawnPaths$Run" "written" "LDrawnPaths$Line;").before args s = true) (hdg : decode cc pc = .ok (.getfield index, 3)) (kk : W p l e R s m args below meth c H locs cells slots Q (F0 m (pc + 3) ls (.ref (ad (0 + 13)) :: rest))) : W p l e R s m args below meth c H locs cells slots Q (F0 m pc ls (.ref (ad 6) :: rest)) :=
  va_get (ci := 6) (v := .ref (ad (0 + 13))) (C := nR_Run) (T := nT_Run) (N := 10) hx hb hts nu_Run hown hK hP 6 xw_Run rfl 4 (by decide) hlink (fun _ h9 => h9) rfl hdg kk
theorem xg_Run_living (hx : p.tables.exec = Jvm.exec) (hb : c.code = cc) (hts : ∀ w ∈ lw_wd, w.before args s = true) (hown : s.vm.findClass own = some m.cls) (hK : va_K D vwCl (xtys cA) s) (hP : va_P D vwCl (xW cA ad h) H) (hlink : (Cond.fieldLink own index "DrawnPaths$Run" "living" "I").before args s = true) (hdg : decode cc pc = .ok (.getfield index, 3)) (kk : W p l e R s m args below meth c H locs cells slots Q (F0 m (pc + 3) ls (.int (xh_living h) :: rest))) : W p l e R s m args below meth c H locs cells slots Q (F0 m pc ls (.ref (ad 6) :: rest)) :=
  va_get (ci := 6) (v := .int (xh_living h)) (C := nR_Run) (T := nT_Run) (N := 10) hx hb hts nu_Run hown hK hP 6 xw_Run rfl 5 (by decide) hlink (fun _ h9 => h9) rfl hdg kk
theorem xp_Run_living (hx : p.tables.exec = Jvm.exec) (hb : c.code = cc) (hts : ∀ w ∈ lw_wd, w.before args s = true) (hown : s.vm.findClass own = some m.cls) (hK : va_K D vwCl (xtys cA) s) (hD : wdD 61 A ad) (hP : va_P D vwCl (xW cA ad h) H) (hS : va_S A H0 H locs) (hlink : (Cond.fieldLink own index "DrawnPaths$Run" "living" "I").before args s = true) (hdg : decode cc pc = .ok (.putfield index, 3)) {v : Int32} (kk : ∀ (H1 : Heap) (locs1 : List Loc), va_P D vwCl (xW cA ad (xs_living h v)) H1 → va_S A H0 H1 locs1 → W p l e R s m args below meth c H1 locs1 cells slots Q (F0 m (pc + 3) ls rest)) : W p l e R s m args below meth c H locs cells slots Q (F0 m pc ls (.int v :: .ref (ad 6) :: rest)) :=
  va_put (ci := 6) (v := .int v) (ty := .int) (C := nR_Run) (T := nT_Run) (N := 10) hx hb hts nu_Run nY_Run nY_Run_ok nN_Run hown hK hP (hD _) hS 6 xw_Run rfl 5 (by decide) hlink (fun _ h9 => h9) rfl (by decide +kernel) rfl rfl (Nat.le_of_ble_eq_true rfl) hdg (fun H1 locs1 hP1 _ hS1 => kk H1 locs1 (va_P_eq (wdG_set (ct' := xct cA ad (xs_living h v)) (by first | decide | omega) (by intro j9 hj9 hne; exact xo_living hne) (by exact xe_living)) hP1) hS1)
theorem xg_Run_given (hx : p.tables.exec = Jvm.exec) (hb : c.code = cc) (hts : ∀ w ∈ lw_wd, w.before args s = true) (hown : s.vm.findClass own = some m.cls) (hK : va_K D vwCl (xtys cA) s) (hP : va_P D vwCl (xW cA ad h) H) (hlink : (Cond.fieldLink own index "DrawnPaths$Run" "given" "I").before args s = true) (hdg : decode cc pc = .ok (.getfield index, 3)) (kk : W p l e R s m args below meth c H locs cells slots Q (F0 m (pc + 3) ls (.int (xh_given h) :: rest))) : W p l e R s m args below meth c H locs cells slots Q (F0 m pc ls (.ref (ad 6) :: rest)) :=
  va_get (ci := 6) (v := .int (xh_given h)) (C := nR_Run) (T := nT_Run) (N := 10) hx hb hts nu_Run hown hK hP 6 xw_Run rfl 6 (by decide) hlink (fun _ h9 => h9) rfl hdg kk
theorem xp_Run_given (hx : p.tables.exec = Jvm.exec) (hb : c.code = cc) (hts : ∀ w ∈ lw_wd, w.before args s = true) (hown : s.vm.findClass own = some m.cls) (hK : va_K D vwCl (xtys cA) s) (hD : wdD 61 A ad) (hP : va_P D vwCl (xW cA ad h) H) (hS : va_S A H0 H locs) (hlink : (Cond.fieldLink own index "DrawnPaths$Run" "given" "I").before args s = true) (hdg : decode cc pc = .ok (.putfield index, 3)) {v : Int32} (kk : ∀ (H1 : Heap) (locs1 : List Loc), va_P D vwCl (xW cA ad (xs_given h v)) H1 → va_S A H0 H1 locs1 → W p l e R s m args below meth c H1 locs1 cells slots Q (F0 m (pc + 3) ls rest)) : W p l e R s m args below meth c H locs cells slots Q (F0 m pc ls (.int v :: .ref (ad 6) :: rest)) :=
  va_put (ci := 6) (v := .int v) (ty := .int) (C := nR_Run) (T := nT_Run) (N := 10) hx hb hts nu_Run nY_Run nY_Run_ok nN_Run hown hK hP (hD _) hS 6 xw_Run rfl 6 (by decide) hlink (fun _ h9 => h9) rfl (by decide +kernel) rfl rfl (Nat.le_of_ble_eq_true rfl) hdg (fun H1 locs1 hP1 _ hS1 => kk H1 locs1 (va_P_eq (wdG_set (ct' := xct cA ad (xs_given h v)) (by first | decide | omega) (by intro j9 hj9 hne; exact xo_given hne) (by exact xe_given)) hP1) hS1)
theorem xg_Run_read (hx : p.tables.exec = Jvm.exec) (hb : c.code = cc) (hts : ∀ w ∈ lw_wd, w.before args s = true) (hown : s.vm.findClass own = some m.cls) (hK : va_K D vwCl (xtys cA) s) (hP : va_P D vwCl (xW cA ad h) H) (hlink : (Cond.fieldLink own index "DrawnPaths$Run" "read" "I").before args s = true) (hdg : decode cc pc = .ok (.getfield index, 3)) (kk : W p l e R s m args below meth c H locs cells slots Q (F0 m (pc + 3) ls (.int (xh_read h) :: rest))) : W p l e R s m args below meth c H locs cells slots Q (F0 m pc ls (.ref (ad 6) :: rest)) :=
  va_get (ci := 6) (v := .int (xh_read h)) (C := nR_Run) (T := nT_Run) (N := 10) hx hb hts nu_Run hown hK hP 6 xw_Run rfl 7 (by decide) hlink (fun _ h9 => h9) rfl hdg kk
theorem xp_Run_read (hx : p.tables.exec = Jvm.exec) (hb : c.code = cc) (hts : ∀ w ∈ lw_wd, w.before args s = true) (hown : s.vm.findClass own = some m.cls) (hK : va_K D vwCl (xtys cA) s) (hD : wdD 61 A ad) (hP : va_P D vwCl (xW cA ad h) H) (hS : va_S A H0 H locs) (hlink : (Cond.fieldLink own index "DrawnPaths$Run" "read" "I").before args s = true) (hdg : decode cc pc = .ok (.putfield index, 3)) {v : Int32} (kk : ∀ (H1 : Heap) (locs1 : List Loc), va_P D vwCl (xW cA ad (xs_read h v)) H1 → va_S A H0 H1 locs1 → W p l e R s m args below meth c H1 locs1 cells slots Q (F0 m (pc + 3) ls rest)) : W p l e R s m args below meth c H locs cells slots Q (F0 m pc ls (.int v :: .ref (ad 6) :: rest)) :=
  va_put (ci := 6) (v := .int v) (ty := .int) (C := nR_Run) (T := nT_Run) (N := 10) hx hb hts nu_Run nY_Run nY_Run_ok nN_Run hown hK hP (hD _) hS 6 xw_Run rfl 7 (by decide) hlink (fun _ h9 => h9) rfl (by decide +kernel) rfl rfl (Nat.le_of_ble_eq_true rfl) hdg (fun H1 locs1 hP1 _ hS1 => kk H1 locs1 (va_P_eq (wdG_set (ct' := xct cA ad (xs_read h v)) (by first | decide | omega) (by intro j9 hj9 hne; exact xo_read hne) (by exact xe_read)) hP1) hS1)
theorem xg_Run_steps (hx : p.tables.exec = Jvm.exec) (hb : c.code = cc) (hts : ∀ w ∈ lw_wd, w.before args s = true) (hown : s.vm.findClass own = some m.cls) (hK : va_K D vwCl (xtys cA) s) (hP : va_P D vwCl (xW cA ad h) H) (hlink : (Cond.fieldLink own index "DrawnPaths$Run" "steps" "I").before args s = true) (hdg : decode cc pc = .ok (.getfield index, 3)) (kk : W p l e R s m args below meth c H locs cells slots Q (F0 m (pc + 3) ls (.int (xh_steps h) :: rest))) : W p l e R s m args below meth c H locs cells slots Q (F0 m pc ls (.ref (ad 6) :: rest)) :=
  va_get (ci := 6) (v := .int (xh_steps h)) (C := nR_Run) (T := nT_Run) (N := 10) hx hb hts nu_Run hown hK hP 6 xw_Run rfl 8 (by decide) hlink (fun _ h9 => h9) rfl hdg kk
theorem xp_Run_steps (hx : p.tables.exec = Jvm.exec) (hb : c.code = cc) (hts : ∀ w ∈ lw_wd, w.before args s = true) (hown : s.vm.findClass own = some m.cls) (hK : va_K D vwCl (xtys cA) s) (hD : wdD 61 A ad) (hP : va_P D vwCl (xW cA ad h) H) (hS : va_S A H0 H locs) (hlink : (Cond.fieldLink own index "DrawnPaths$Run" "steps" "I").before args s = true) (hdg : decode cc pc = .ok (.putfield index, 3)) {v : Int32} (kk : ∀ (H1 : Heap) (locs1 : List Loc), va_P D vwCl (xW cA ad (xs_steps h v)) H1 → va_S A H0 H1 locs1 → W p l e R s m args below meth c H1 locs1 cells slots Q (F0 m (pc + 3) ls rest)) : W p l e R s m args below meth c H locs cells slots Q (F0 m pc ls (.int v :: .ref (ad 6) :: rest)) :=
  va_put (ci := 6) (v := .int v) (ty := .int) (C := nR_Run) (T := nT_Run) (N := 10) hx hb hts nu_Run nY_Run nY_Run_ok nN_Run hown hK hP (hD _) hS 6 xw_Run rfl 8 (by decide) hlink (fun _ h9 => h9) rfl (by decide +kernel) rfl rfl (Nat.le_of_ble_eq_true rfl) hdg (fun H1 locs1 hP1 _ hS1 => kk H1 locs1 (va_P_eq (wdG_set (ct' := xct cA ad (xs_steps h v)) (by first | decide | omega) (by intro j9 hj9 hne; exact xo_steps hne) (by exact xe_steps)) hP1) hS1)
theorem xg_Run_stopped (hx : p.tables.exec = Jvm.exec) (hb : c.code = cc) (hts : ∀ w ∈ lw_wd, w.before args s = true) (hown : s.vm.findClass own = some m.cls) (hK : va_K D vwCl (xtys cA) s) (hP : va_P D vwCl (xW cA ad h) H) (hlink : (Cond.fieldLink own index "DrawnPaths$Run" "stopped" "I").before args s = true) (hdg : decode cc pc = .ok (.getfield index, 3)) (kk : W p l e R s m args below meth c H locs cells slots Q (F0 m (pc + 3) ls (.int (xh_stopped h) :: rest))) : W p l e R s m args below meth c H locs cells slots Q (F0 m pc ls (.ref (ad 6) :: rest)) :=
  va_get (ci := 6) (v := .int (xh_stopped h)) (C := nR_Run) (T := nT_Run) (N := 10) hx hb hts nu_Run hown hK hP 6 xw_Run rfl 9 (by decide) hlink (fun _ h9 => h9) rfl hdg kk
theorem xp_Run_stopped (hx : p.tables.exec = Jvm.exec) (hb : c.code = cc) (hts : ∀ w ∈ lw_wd, w.before args s = true) (hown : s.vm.findClass own = some m.cls) (hK : va_K D vwCl (xtys cA) s) (hD : wdD 61 A ad) (hP : va_P D vwCl (xW cA ad h) H) (hS : va_S A H0 H locs) (hlink : (Cond.fieldLink own index "DrawnPaths$Run" "stopped" "I").before args s = true) (hdg : decode cc pc = .ok (.putfield index, 3)) {v : Int32} (kk : ∀ (H1 : Heap) (locs1 : List Loc), va_P D vwCl (xW cA ad (xs_stopped h v)) H1 → va_S A H0 H1 locs1 → W p l e R s m args below meth c H1 locs1 cells slots Q (F0 m (pc + 3) ls rest)) : W p l e R s m args below meth c H locs cells slots Q (F0 m pc ls (.int v :: .ref (ad 6) :: rest)) :=
  va_put (ci := 6) (v := .int v) (ty := .int) (C := nR_Run) (T := nT_Run) (N := 10) hx hb hts nu_Run nY_Run nY_Run_ok nN_Run hown hK hP (hD _) hS 6 xw_Run rfl 9 (by decide) hlink (fun _ h9 => h9) rfl (by decide +kernel) rfl rfl (Nat.le_of_ble_eq_true rfl) hdg (fun H1 locs1 hP1 _ hS1 => kk H1 locs1 (va_P_eq (wdG_set (ct' := xct cA ad (xs_stopped h v)) (by first | decide | omega) (by intro j9 hj9 hne; exact xo_stopped hne) (by exact xe_stopped)) hP1) hS1)
theorem xr_Search (hK : va_K D vwCl (xtys cA) s) (hP : va_P D vwCl (xW cA ad h) H) : ∃ cell : Cell, H[(ad 10)]? = some cell ∧ cell.vm.isStatics = false ∧ s.vm.findClass nR_Search = some cell.cls := va_recv (q := (nR_Search, nT_Search, 3)) hK hP rfl xw_Search
theorem xg_Search_marks (hx : p.tables.exec = Jvm.exec) (hb : c.code = cc) (hts : ∀ w ∈ lw_wd, w.before args s = true) (hown : s.vm.findClass own = some m.cls) (hK : va_K D vwCl (xtys cA) s) (hP : va_P D vwCl (xW cA ad h) H) (hlink : (Cond.fieldLink own index "DrawnPaths$Search" "marks" "[I").before args s = true) (hdg : decode cc pc = .ok (.getfield index, 3)) (kk : W p l e R s m args below meth c H locs cells slots Q (F0 m (pc + 3) ls (.ref (ad 11) :: rest))) : W p l e R s m args below meth c H locs cells slots Q (F0 m pc ls (.ref (ad 10) :: rest)) :=
  va_get (ci := 7) (v := .ref (ad 11)) (C := nR_Search) (T := nT_Search) (N := 3) hx hb hts nu_Search hown hK hP 10 xw_Search rfl 0 (by decide) hlink (fun _ h9 => h9) rfl hdg kk
theorem xg_Search_found (hx : p.tables.exec = Jvm.exec) (hb : c.code = cc) (hts : ∀ w ∈ lw_wd, w.before args s = true) (hown : s.vm.findClass own = some m.cls) (hK : va_K D vwCl (xtys cA) s) (hP : va_P D vwCl (xW cA ad h) H) (hlink : (Cond.fieldLink own index "DrawnPaths$Search" "found" "[I").before args s = true) (hdg : decode cc pc = .ok (.getfield index, 3)) (kk : W p l e R s m args below meth c H locs cells slots Q (F0 m (pc + 3) ls (.ref (ad 12) :: rest))) : W p l e R s m args below meth c H locs cells slots Q (F0 m pc ls (.ref (ad 10) :: rest)) :=
  va_get (ci := 7) (v := .ref (ad 12)) (C := nR_Search) (T := nT_Search) (N := 3) hx hb hts nu_Search hown hK hP 10 xw_Search rfl 1 (by decide) hlink (fun _ h9 => h9) rfl hdg kk
theorem xg_Search_size (hx : p.tables.exec = Jvm.exec) (hb : c.code = cc) (hts : ∀ w ∈ lw_wd, w.before args s = true) (hown : s.vm.findClass own = some m.cls) (hK : va_K D vwCl (xtys cA) s) (hP : va_P D vwCl (xW cA ad h) H) (hlink : (Cond.fieldLink own index "DrawnPaths$Search" "size" "I").before args s = true) (hdg : decode cc pc = .ok (.getfield index, 3)) (kk : W p l e R s m args below meth c H locs cells slots Q (F0 m (pc + 3) ls (.int (xh_ssize h) :: rest))) : W p l e R s m args below meth c H locs cells slots Q (F0 m pc ls (.ref (ad 10) :: rest)) :=
  va_get (ci := 7) (v := .int (xh_ssize h)) (C := nR_Search) (T := nT_Search) (N := 3) hx hb hts nu_Search hown hK hP 10 xw_Search rfl 2 (by decide) hlink (fun _ h9 => h9) rfl hdg kk
theorem xp_Search_size (hx : p.tables.exec = Jvm.exec) (hb : c.code = cc) (hts : ∀ w ∈ lw_wd, w.before args s = true) (hown : s.vm.findClass own = some m.cls) (hK : va_K D vwCl (xtys cA) s) (hD : wdD 61 A ad) (hP : va_P D vwCl (xW cA ad h) H) (hS : va_S A H0 H locs) (hlink : (Cond.fieldLink own index "DrawnPaths$Search" "size" "I").before args s = true) (hdg : decode cc pc = .ok (.putfield index, 3)) {v : Int32} (kk : ∀ (H1 : Heap) (locs1 : List Loc), va_P D vwCl (xW cA ad (xs_ssize h v)) H1 → va_S A H0 H1 locs1 → W p l e R s m args below meth c H1 locs1 cells slots Q (F0 m (pc + 3) ls rest)) : W p l e R s m args below meth c H locs cells slots Q (F0 m pc ls (.int v :: .ref (ad 10) :: rest)) :=
  va_put (ci := 7) (v := .int v) (ty := .int) (C := nR_Search) (T := nT_Search) (N := 3) hx hb hts nu_Search nY_Search nY_Search_ok nN_Search hown hK hP (hD _) hS 10 xw_Search rfl 2 (by decide) hlink (fun _ h9 => h9) rfl (by decide +kernel) rfl rfl (Nat.le_of_ble_eq_true rfl) hdg (fun H1 locs1 hP1 _ hS1 => kk H1 locs1 (va_P_eq (wdG_set (ct' := xct cA ad (xs_ssize h v)) (by first | decide | omega) (by intro j9 hj9 hne; exact xo_ssize hne) (by exact xe_ssize)) hP1) hS1)
theorem xal_row (hx : p.tables.exec = Jvm.exec) (hb : c.code = cc) (hK : va_K D vwCl (xtys cA) s) (hP : va_P D vwCl (xW cA ad h) H) {i : Int32} {j z : Nat} (hj : gd 30 i = some j) (hz : xh_row h j = z) (hdg : decode cc pc = .ok (.aaload, 1)) (kk : W p l e R s m args below meth c H locs cells slots Q (F0 m (pc + 1) ls (.ref (ad (z + 31)) :: rest))) : W p l e R s m args below meth c H locs cells slots Q (F0 m pc ls (.int i :: .ref (ad 2) :: rest)) := by
  obtain ⟨h1, h2, -⟩ := gd_eq hj
  exact va_aldq hx hb hK hP 2 3 xw_Row rfl h1 hdg (by rw [h2]; show W p l e R s m args below meth c H locs cells slots Q (F0 m (pc + 1) ls (.ref (ad (xh_row h j + 31)) :: rest)); rw [hz]; exact kk)
theorem xas_row (hx : p.tables.exec = Jvm.exec) (hb : c.code = cc) (hK : va_K D vwCl (xtys cA) s) (hD : wdD 61 A ad) (hP : va_P D vwCl (xW cA ad h) H) (hS : va_S A H0 H locs) {i : Int32} {j : Nat} {v : Nat} (hj : gd 30 i = some j) (hv : v < 30) (hdg : decode cc pc = .ok (.aastore, 1)) (kk : ∀ (H1 : Heap) (locs1 : List Loc), va_P D vwCl (xW cA ad (xs_row h j v)) H1 → va_S A H0 H1 locs1 → W p l e R s m args below meth c H1 locs1 cells slots Q (F0 m (pc + 1) ls rest)) : W p l e R s m args below meth c H locs cells slots Q (F0 m pc ls (.ref (ad (v + 31)) :: .int i :: .ref (ad 2) :: rest)) := by
  obtain ⟨h1, h2, -⟩ := gd_eq hj
  subst h2
  exact va_astq hx hb hK hP (hD _) hS 2 3 (v + 31) 1 xw_Row rfl (xw_Block hv) rfl h1 hdg (fun H1 locs1 hP1 _ hS1 => kk H1 locs1 (va_P_eq (wdG_set (ct' := xct cA ad (xs_row h i.toNatClampNeg v)) (by first | decide | omega) (by intro j9 hj9 hne; exact xo_row hne) (by exact xe_row)) hP1) hS1)
theorem xln_row (hx : p.tables.exec = Jvm.exec) (hb : c.code = cc) (hK : va_K D vwCl (xtys cA) s) (hP : va_P D vwCl (xW cA ad h) H) (hdg : decode cc pc = .ok (.arraylength, 1)) (kk : W p l e R s m args below meth c H locs cells slots Q (F0 m (pc + 1) ls (.int (nI 30) :: rest))) : W p l e R s m args below meth c H locs cells slots Q (F0 m pc ls (.ref (ad 2) :: rest)) := va_alen hx hb hK hP 2 3 xw_Row rfl rfl hdg kk
theorem xal_ptrs (hx : p.tables.exec = Jvm.exec) (hb : c.code = cc) (hK : va_K D vwCl (xtys cA) s) (hP : va_P D vwCl (xW cA ad h) H) {i : Int32} {j z : Nat} (hj : gd 4 i = some j) (hz : xh_ptrs h j = z) (hdg : decode cc pc = .ok (.aaload, 1)) (kk : W p l e R s m args below meth c H locs cells slots Q (F0 m (pc + 1) ls (.ref (ad (z + 19)) :: rest))) : W p l e R s m args below meth c H locs cells slots Q (F0 m pc ls (.int i :: .ref (ad 7) :: rest)) := by
  obtain ⟨h1, h2, -⟩ := gd_eq hj
  exact va_aldq hx hb hK hP 7 4 xw_PArr rfl h1 hdg (by rw [h2]; show W p l e R s m args below meth c H locs cells slots Q (F0 m (pc + 1) ls (.ref (ad (xh_ptrs h j + 19)) :: rest)); rw [hz]; exact kk)
theorem xas_ptrs (hx : p.tables.exec = Jvm.exec) (hb : c.code = cc) (hK : va_K D vwCl (xtys cA) s) (hD : wdD 61 A ad) (hP : va_P D vwCl (xW cA ad h) H) (hS : va_S A H0 H locs) {i : Int32} {j : Nat} {v : Nat} (hj : gd 4 i = some j) (hv : v < 4) (hdg : decode cc pc = .ok (.aastore, 1)) (kk : ∀ (H1 : Heap) (locs1 : List Loc), va_P D vwCl (xW cA ad (xs_ptrs h j v)) H1 → va_S A H0 H1 locs1 → W p l e R s m args below meth c H1 locs1 cells slots Q (F0 m (pc + 1) ls rest)) : W p l e R s m args below meth c H locs cells slots Q (F0 m pc ls (.ref (ad (v + 19)) :: .int i :: .ref (ad 7) :: rest)) := by
  obtain ⟨h1, h2, -⟩ := gd_eq hj
  subst h2
  exact va_astq hx hb hK hP (hD _) hS 7 4 (v + 19) 5 xw_PArr rfl (xw_Pointer hv) rfl h1 hdg (fun H1 locs1 hP1 _ hS1 => kk H1 locs1 (va_P_eq (wdG_set (ct' := xct cA ad (xs_ptrs h i.toNatClampNeg v)) (by first | decide | omega) (by intro j9 hj9 hne; exact xo_ptrs hne) (by exact xe_ptrs)) hP1) hS1)
theorem xln_ptrs (hx : p.tables.exec = Jvm.exec) (hb : c.code = cc) (hK : va_K D vwCl (xtys cA) s) (hP : va_P D vwCl (xW cA ad h) H) (hdg : decode cc pc = .ok (.arraylength, 1)) (kk : W p l e R s m args below meth c H locs cells slots Q (F0 m (pc + 1) ls (.int (nI 4) :: rest))) : W p l e R s m args below meth c H locs cells slots Q (F0 m pc ls (.ref (ad 7) :: rest)) := va_alen hx hb hK hP 7 4 xw_PArr rfl rfl hdg kk
theorem xal_bmarks (hx : p.tables.exec = Jvm.exec) (hb : c.code = cc) (hK : va_K D vwCl (xtys cA) s) (hP : va_P D vwCl (xW cA ad h) H) {i : Int32} {j : Nat} (hj : gd 96 i = some j) (hdg : decode cc pc = .ok (.iaload, 1)) (kk : W p l e R s m args below meth c H locs cells slots Q (F0 m (pc + 1) ls (.int (xh_bmarks h j) :: rest))) : W p l e R s m args below meth c H locs cells slots Q (F0 m pc ls (.int i :: .ref (ad 3) :: rest)) := by
  obtain ⟨h1, h2, -⟩ := gd_eq hj
  exact va_iald hx hb hK hP 3 0 xw_BMarks rfl h1 hdg (by rw [h2]; exact kk)
theorem xas_bmarks (hx : p.tables.exec = Jvm.exec) (hb : c.code = cc) (hK : va_K D vwCl (xtys cA) s) (hD : wdD 61 A ad) (hP : va_P D vwCl (xW cA ad h) H) (hS : va_S A H0 H locs) {i : Int32} {j : Nat} {v : Int32} (hj : gd 96 i = some j) (hdg : decode cc pc = .ok (.iastore, 1)) (kk : ∀ (H1 : Heap) (locs1 : List Loc), va_P D vwCl (xW cA ad (xs_bmarks h j v)) H1 → va_S A H0 H1 locs1 → W p l e R s m args below meth c H1 locs1 cells slots Q (F0 m (pc + 1) ls rest)) : W p l e R s m args below meth c H locs cells slots Q (F0 m pc ls (.int v :: .int i :: .ref (ad 3) :: rest)) := by
  obtain ⟨h1, h2, -⟩ := gd_eq hj
  subst h2
  exact va_iast hx hb hK hP (hD _) hS 3 0 xw_BMarks rfl h1 hdg (fun H1 locs1 hP1 _ hS1 => kk H1 locs1 (va_P_eq (wdG_set (ct' := xct cA ad (xs_bmarks h i.toNatClampNeg v)) (by first | decide | omega) (by intro j9 hj9 hne; exact xo_bmarks hne) (by exact xe_bmarks)) hP1) hS1)
theorem xln_bmarks (hx : p.tables.exec = Jvm.exec) (hb : c.code = cc) (hK : va_K D vwCl (xtys cA) s) (hP : va_P D vwCl (xW cA ad h) H) (hdg : decode cc pc = .ok (.arraylength, 1)) (kk : W p l e R s m args below meth c H locs cells slots Q (F0 m (pc + 1) ls (.int (nI 96) :: rest))) : W p l e R s m args below meth c H locs cells slots Q (F0 m pc ls (.ref (ad 3) :: rest)) := va_alen hx hb hK hP 3 0 xw_BMarks rfl rfl hdg kk
theorem xal_signs (hx : p.tables.exec = Jvm.exec) (hb : c.code = cc) (hK : va_K D vwCl (xtys cA) s) (hP : va_P D vwCl (xW cA ad h) H) {i : Int32} {j : Nat} (hj : gd 96 i = some j) (hdg : decode cc pc = .ok (.caload, 1)) (kk : W p l e R s m args below meth c H locs cells slots Q (F0 m (pc + 1) ls (.int (xh_signs h j) :: rest))) : W p l e R s m args below meth c H locs cells slots Q (F0 m pc ls (.int i :: .ref (ad 5) :: rest)) := by
  obtain ⟨h1, h2, -⟩ := gd_eq hj
  exact va_cald hx hb hK hP 5 1 xw_Signs rfl h1 hdg (by rw [h2]; exact kk)
theorem xas_signs (hx : p.tables.exec = Jvm.exec) (hb : c.code = cc) (hK : va_K D vwCl (xtys cA) s) (hD : wdD 61 A ad) (hP : va_P D vwCl (xW cA ad h) H) (hS : va_S A H0 H locs) {i : Int32} {j : Nat} {v : Int32} (hj : gd 96 i = some j) (hdg : decode cc pc = .ok (.castore, 1)) (kk : ∀ (H1 : Heap) (locs1 : List Loc), va_P D vwCl (xW cA ad (xs_signs h j (vp_nar .char v))) H1 → va_S A H0 H1 locs1 → W p l e R s m args below meth c H1 locs1 cells slots Q (F0 m (pc + 1) ls rest)) : W p l e R s m args below meth c H locs cells slots Q (F0 m pc ls (.int v :: .int i :: .ref (ad 5) :: rest)) := by
  obtain ⟨h1, h2, -⟩ := gd_eq hj
  subst h2
  exact va_cast hx hb hK hP (hD _) hS 5 1 xw_Signs rfl h1 hdg (fun H1 locs1 hP1 _ hS1 => kk H1 locs1 (va_P_eq (wdG_set (ct' := xct cA ad (xs_signs h i.toNatClampNeg (vp_nar .char v))) (by first | decide | omega) (by intro j9 hj9 hne; exact xo_signs hne) (by exact xe_signs)) hP1) hS1)
theorem xln_signs (hx : p.tables.exec = Jvm.exec) (hb : c.code = cc) (hK : va_K D vwCl (xtys cA) s) (hP : va_P D vwCl (xW cA ad h) H) (hdg : decode cc pc = .ok (.arraylength, 1)) (kk : W p l e R s m args below meth c H locs cells slots Q (F0 m (pc + 1) ls (.int (nI 96) :: rest))) : W p l e R s m args below meth c H locs cells slots Q (F0 m pc ls (.ref (ad 5) :: rest)) := va_alen hx hb hK hP 5 1 xw_Signs rfl rfl hdg kk
theorem xal_innums (hx : p.tables.exec = Jvm.exec) (hb : c.code = cc) (hK : va_K D vwCl (xtys cA) s) (hP : va_P D vwCl (xW cA ad h) H) {i : Int32} {j : Nat} (hj : gd 40 i = some j) (hdg : decode cc pc = .ok (.laload, 1)) (kk : W p l e R s m args below meth c H locs cells slots Q (F0 m (pc + 1) ls (.long (xh_innums h j) :: rest))) : W p l e R s m args below meth c H locs cells slots Q (F0 m pc ls (.int i :: .ref (ad 8) :: rest)) := by
  obtain ⟨h1, h2, -⟩ := gd_eq hj
  exact va_lald hx hb hK hP 8 2 xw_InNums rfl h1 hdg (by rw [h2]; exact kk)
theorem xas_innums (hx : p.tables.exec = Jvm.exec) (hb : c.code = cc) (hK : va_K D vwCl (xtys cA) s) (hD : wdD 61 A ad) (hP : va_P D vwCl (xW cA ad h) H) (hS : va_S A H0 H locs) {i : Int32} {j : Nat} {v : Int64} (hj : gd 40 i = some j) (hdg : decode cc pc = .ok (.lastore, 1)) (kk : ∀ (H1 : Heap) (locs1 : List Loc), va_P D vwCl (xW cA ad (xs_innums h j v)) H1 → va_S A H0 H1 locs1 → W p l e R s m args below meth c H1 locs1 cells slots Q (F0 m (pc + 1) ls rest)) : W p l e R s m args below meth c H locs cells slots Q (F0 m pc ls (.long v :: .int i :: .ref (ad 8) :: rest)) := by
  obtain ⟨h1, h2, -⟩ := gd_eq hj
  subst h2
  exact va_last hx hb hK hP (hD _) hS 8 2 xw_InNums rfl h1 hdg (fun H1 locs1 hP1 _ hS1 => kk H1 locs1 (va_P_eq (wdG_set (ct' := xct cA ad (xs_innums h i.toNatClampNeg v)) (by first | decide | omega) (by intro j9 hj9 hne; exact xo_innums hne) (by exact xe_innums)) hP1) hS1)
theorem xln_innums (hx : p.tables.exec = Jvm.exec) (hb : c.code = cc) (hK : va_K D vwCl (xtys cA) s) (hP : va_P D vwCl (xW cA ad h) H) (hdg : decode cc pc = .ok (.arraylength, 1)) (kk : W p l e R s m args below meth c H locs cells slots Q (F0 m (pc + 1) ls (.int (nI 40) :: rest))) : W p l e R s m args below meth c H locs cells slots Q (F0 m pc ls (.ref (ad 8) :: rest)) := va_alen hx hb hK hP 8 2 xw_InNums rfl rfl hdg kk
theorem xal_digits (hx : p.tables.exec = Jvm.exec) (hb : c.code = cc) (hK : va_K D vwCl (xtys cA) s) (hP : va_P D vwCl (xW cA ad h) H) {i : Int32} {j : Nat} (hj : gd 20 i = some j) (hdg : decode cc pc = .ok (.caload, 1)) (kk : W p l e R s m args below meth c H locs cells slots Q (F0 m (pc + 1) ls (.int (xh_digits h j) :: rest))) : W p l e R s m args below meth c H locs cells slots Q (F0 m pc ls (.int i :: .ref (ad 9) :: rest)) := by
  obtain ⟨h1, h2, -⟩ := gd_eq hj
  exact va_cald hx hb hK hP 9 1 xw_Digits rfl h1 hdg (by rw [h2]; exact kk)
theorem xas_digits (hx : p.tables.exec = Jvm.exec) (hb : c.code = cc) (hK : va_K D vwCl (xtys cA) s) (hD : wdD 61 A ad) (hP : va_P D vwCl (xW cA ad h) H) (hS : va_S A H0 H locs) {i : Int32} {j : Nat} {v : Int32} (hj : gd 20 i = some j) (hdg : decode cc pc = .ok (.castore, 1)) (kk : ∀ (H1 : Heap) (locs1 : List Loc), va_P D vwCl (xW cA ad (xs_digits h j (vp_nar .char v))) H1 → va_S A H0 H1 locs1 → W p l e R s m args below meth c H1 locs1 cells slots Q (F0 m (pc + 1) ls rest)) : W p l e R s m args below meth c H locs cells slots Q (F0 m pc ls (.int v :: .int i :: .ref (ad 9) :: rest)) := by
  obtain ⟨h1, h2, -⟩ := gd_eq hj
  subst h2
  exact va_cast hx hb hK hP (hD _) hS 9 1 xw_Digits rfl h1 hdg (fun H1 locs1 hP1 _ hS1 => kk H1 locs1 (va_P_eq (wdG_set (ct' := xct cA ad (xs_digits h i.toNatClampNeg (vp_nar .char v))) (by first | decide | omega) (by intro j9 hj9 hne; exact xo_digits hne) (by exact xe_digits)) hP1) hS1)
theorem xln_digits (hx : p.tables.exec = Jvm.exec) (hb : c.code = cc) (hK : va_K D vwCl (xtys cA) s) (hP : va_P D vwCl (xW cA ad h) H) (hdg : decode cc pc = .ok (.arraylength, 1)) (kk : W p l e R s m args below meth c H locs cells slots Q (F0 m (pc + 1) ls (.int (nI 20) :: rest))) : W p l e R s m args below meth c H locs cells slots Q (F0 m pc ls (.ref (ad 9) :: rest)) := va_alen hx hb hK hP 9 1 xw_Digits rfl rfl hdg kk
theorem xal_smarks (hx : p.tables.exec = Jvm.exec) (hb : c.code = cc) (hK : va_K D vwCl (xtys cA) s) (hP : va_P D vwCl (xW cA ad h) H) {i : Int32} {j : Nat} (hj : gd 96 i = some j) (hdg : decode cc pc = .ok (.iaload, 1)) (kk : W p l e R s m args below meth c H locs cells slots Q (F0 m (pc + 1) ls (.int (xh_smarks h j) :: rest))) : W p l e R s m args below meth c H locs cells slots Q (F0 m pc ls (.int i :: .ref (ad 11) :: rest)) := by
  obtain ⟨h1, h2, -⟩ := gd_eq hj
  exact va_iald hx hb hK hP 11 0 xw_SMarks rfl h1 hdg (by rw [h2]; exact kk)
theorem xas_smarks (hx : p.tables.exec = Jvm.exec) (hb : c.code = cc) (hK : va_K D vwCl (xtys cA) s) (hD : wdD 61 A ad) (hP : va_P D vwCl (xW cA ad h) H) (hS : va_S A H0 H locs) {i : Int32} {j : Nat} {v : Int32} (hj : gd 96 i = some j) (hdg : decode cc pc = .ok (.iastore, 1)) (kk : ∀ (H1 : Heap) (locs1 : List Loc), va_P D vwCl (xW cA ad (xs_smarks h j v)) H1 → va_S A H0 H1 locs1 → W p l e R s m args below meth c H1 locs1 cells slots Q (F0 m (pc + 1) ls rest)) : W p l e R s m args below meth c H locs cells slots Q (F0 m pc ls (.int v :: .int i :: .ref (ad 11) :: rest)) := by
  obtain ⟨h1, h2, -⟩ := gd_eq hj
  subst h2
  exact va_iast hx hb hK hP (hD _) hS 11 0 xw_SMarks rfl h1 hdg (fun H1 locs1 hP1 _ hS1 => kk H1 locs1 (va_P_eq (wdG_set (ct' := xct cA ad (xs_smarks h i.toNatClampNeg v)) (by first | decide | omega) (by intro j9 hj9 hne; exact xo_smarks hne) (by exact xe_smarks)) hP1) hS1)
theorem xln_smarks (hx : p.tables.exec = Jvm.exec) (hb : c.code = cc) (hK : va_K D vwCl (xtys cA) s) (hP : va_P D vwCl (xW cA ad h) H) (hdg : decode cc pc = .ok (.arraylength, 1)) (kk : W p l e R s m args below meth c H locs cells slots Q (F0 m (pc + 1) ls (.int (nI 96) :: rest))) : W p l e R s m args below meth c H locs cells slots Q (F0 m pc ls (.ref (ad 11) :: rest)) := va_alen hx hb hK hP 11 0 xw_SMarks rfl rfl hdg kk
theorem xal_sfound (hx : p.tables.exec = Jvm.exec) (hb : c.code = cc) (hK : va_K D vwCl (xtys cA) s) (hP : va_P D vwCl (xW cA ad h) H) {i : Int32} {j : Nat} (hj : gd 768 i = some j) (hdg : decode cc pc = .ok (.iaload, 1)) (kk : W p l e R s m args below meth c H locs cells slots Q (F0 m (pc + 1) ls (.int (xh_sfound h j) :: rest))) : W p l e R s m args below meth c H locs cells slots Q (F0 m pc ls (.int i :: .ref (ad 12) :: rest)) := by
  obtain ⟨h1, h2, -⟩ := gd_eq hj
  exact va_iald hx hb hK hP 12 0 xw_SFound rfl h1 hdg (by rw [h2]; exact kk)
theorem xas_sfound (hx : p.tables.exec = Jvm.exec) (hb : c.code = cc) (hK : va_K D vwCl (xtys cA) s) (hD : wdD 61 A ad) (hP : va_P D vwCl (xW cA ad h) H) (hS : va_S A H0 H locs) {i : Int32} {j : Nat} {v : Int32} (hj : gd 768 i = some j) (hdg : decode cc pc = .ok (.iastore, 1)) (kk : ∀ (H1 : Heap) (locs1 : List Loc), va_P D vwCl (xW cA ad (xs_sfound h j v)) H1 → va_S A H0 H1 locs1 → W p l e R s m args below meth c H1 locs1 cells slots Q (F0 m (pc + 1) ls rest)) : W p l e R s m args below meth c H locs cells slots Q (F0 m pc ls (.int v :: .int i :: .ref (ad 12) :: rest)) := by
  obtain ⟨h1, h2, -⟩ := gd_eq hj
  subst h2
  exact va_iast hx hb hK hP (hD _) hS 12 0 xw_SFound rfl h1 hdg (fun H1 locs1 hP1 _ hS1 => kk H1 locs1 (va_P_eq (wdG_set (ct' := xct cA ad (xs_sfound h i.toNatClampNeg v)) (by first | decide | omega) (by intro j9 hj9 hne; exact xo_sfound hne) (by exact xe_sfound)) hP1) hS1)
theorem xln_sfound (hx : p.tables.exec = Jvm.exec) (hb : c.code = cc) (hK : va_K D vwCl (xtys cA) s) (hP : va_P D vwCl (xW cA ad h) H) (hdg : decode cc pc = .ok (.arraylength, 1)) (kk : W p l e R s m args below meth c H locs cells slots Q (F0 m (pc + 1) ls (.int (nI 768) :: rest))) : W p l e R s m args below meth c H locs cells slots Q (F0 m pc ls (.ref (ad 12) :: rest)) := va_alen hx hb hK hP 12 0 xw_SFound rfl rfl hdg kk
theorem xal_lchars (hx : p.tables.exec = Jvm.exec) (hb : c.code = cc) (hK : va_K D vwCl (xtys cA) s) (hP : va_P D vwCl (xW cA ad h) H) {k : Nat} (hk : k < 3) {i : Int32} {j : Nat} (hj : gd (xh_cap k) i = some j) (hdg : decode cc pc = .ok (.caload, 1)) (kk : W p l e R s m args below meth c H locs cells slots Q (F0 m (pc + 1) ls (.int (xh_lchars h k j) :: rest))) : W p l e R s m args below meth c H locs cells slots Q (F0 m pc ls (.int i :: .ref (ad (k + 16)) :: rest)) := by
  obtain ⟨h1, h2, -⟩ := gd_eq hj
  exact va_cald hx hb hK hP (k + 16) 1 (xw_LineCh hk) rfl h1 hdg (by rw [h2]; exact kk)
theorem xas_lchars (hx : p.tables.exec = Jvm.exec) (hb : c.code = cc) (hK : va_K D vwCl (xtys cA) s) (hD : wdD 61 A ad) (hP : va_P D vwCl (xW cA ad h) H) (hS : va_S A H0 H locs) {k : Nat} (hk : k < 3) {i : Int32} {j : Nat} {v : Int32} (hj : gd (xh_cap k) i = some j) (hdg : decode cc pc = .ok (.castore, 1)) (kk : ∀ (H1 : Heap) (locs1 : List Loc), va_P D vwCl (xW cA ad (xs_lchars h k j (vp_nar .char v))) H1 → va_S A H0 H1 locs1 → W p l e R s m args below meth c H1 locs1 cells slots Q (F0 m (pc + 1) ls rest)) : W p l e R s m args below meth c H locs cells slots Q (F0 m pc ls (.int v :: .int i :: .ref (ad (k + 16)) :: rest)) := by
  obtain ⟨h1, h2, -⟩ := gd_eq hj
  subst h2
  exact va_cast hx hb hK hP (hD _) hS (k + 16) 1 (xw_LineCh hk) rfl h1 hdg (fun H1 locs1 hP1 _ hS1 => kk H1 locs1 (va_P_eq (wdG_set (ct' := xct cA ad (xs_lchars h k i.toNatClampNeg (vp_nar .char v))) (by first | decide | omega) (by intro j9 hj9 hne; exact xo_lchars hne) (by exact xe_lchars hk)) hP1) hS1)
theorem xcp_lchars {nL : Nat} (hx : p.tables.exec = Jvm.exec) (hb : c.code = cc) (hml : c.maxLocals = nL) (hz : ls.size = nL) (hown : s.vm.findClass own = some m.cls) (hts : ∀ w ∈ lw_wd, w.before args s = true) (hlink : (Cond.methodLink own index arraycopyName).before args s = true) (hK : va_K D vwCl (xtys cA) s) (hD : wdD 61 A ad) (hP : va_P D vwCl (xW cA ad h) H) (hS : va_S A H0 H locs) {k1 k : Nat} (hk1 : k1 < 3) (hk : k < 3) {sp dp n : Int32} {j : Nat × Nat × Nat} (hj : gc (xh_cap k1) (xh_cap k) (xh_lchars h k1) sp dp n = some j) (hR : 1 ≤ R.frames ∧ 60 ≤ R.locals) (hro : (rest.map fun v => v.category).sum ≤ 8) (hdg : decode cc pc = .ok (.invokestatic index, 3)) (kk : ∀ (H1 : Heap) (locs1 : List Loc), va_P D vwCl (xW cA ad (xc_lchars h k (va_cpy (xh_lchars h k1) (xh_lchars h k) j.1 j.2.1 j.2.2))) H1 → va_S A H0 H1 locs1 → W p l e R s m args below meth c H1 locs1 cells slots Q (F0 m (pc + 3) ls rest)) : W p l e R s m args below meth c H locs cells slots Q (F0 m pc ls (.int n :: .int dp :: .ref (ad (k + 16)) :: .int sp :: .ref (ad (k1 + 16)) :: rest)) := by
  obtain ⟨h1, h2, h3, h4, h5, h6, rfl⟩ := gc_eq hj
  have hw : nativeFrameWords "java/lang/System" "arraycopy" 5 = 7 := by decide
  exact va_copyi hx hb (hml.trans hz.symm) hown hlink (hts _ nw_338) (hts _ nw_337) (hts _ nw_18) hK hP (hD _) hS (k1 + 16) (k + 16) 1 1 (xw_LineCh hk1) (xw_LineCh hk) rfl rfl rfl h1 h2 h3 h4 h5 h6 hR.1 (by rw [hw]; omega) hdg (fun H1 locs1 hP1 _ hS1 => kk H1 locs1 (va_P_eq (wdG_set (ct' := xct cA ad (xc_lchars h k (va_cpy (xh_lchars h k1) (xh_lchars h k) sp.toNatClampNeg dp.toNatClampNeg n.toNatClampNeg))) (by omega) (by intro j9 hj9 hne; exact xoc_lchars hne) (by exact xec_lchars hk)) hP1) hS1)
theorem xln_lchars (hx : p.tables.exec = Jvm.exec) (hb : c.code = cc) (hK : va_K D vwCl (xtys cA) s) (hP : va_P D vwCl (xW cA ad h) H) {k : Nat} (hk : k < 3) (hdg : decode cc pc = .ok (.arraylength, 1)) (kk : W p l e R s m args below meth c H locs cells slots Q (F0 m (pc + 1) ls (.int (nI (xh_cap k)) :: rest))) : W p l e R s m args below meth c H locs cells slots Q (F0 m pc ls (.ref (ad (k + 16)) :: rest)) := va_alen hx hb hK hP (k + 16) 1 (xw_LineCh hk) rfl rfl hdg kk
theorem xal_pnums (hx : p.tables.exec = Jvm.exec) (hb : c.code = cc) (hK : va_K D vwCl (xtys cA) s) (hP : va_P D vwCl (xW cA ad h) H) {k : Nat} (hk : k < 4) {i : Int32} {j : Nat} (hj : gd 24 i = some j) (hdg : decode cc pc = .ok (.laload, 1)) (kk : W p l e R s m args below meth c H locs cells slots Q (F0 m (pc + 1) ls (.long (xh_pnums h k j) :: rest))) : W p l e R s m args below meth c H locs cells slots Q (F0 m pc ls (.int i :: .ref (ad (k + 23)) :: rest)) := by
  obtain ⟨h1, h2, -⟩ := gd_eq hj
  exact va_lald hx hb hK hP (k + 23) 2 (xw_PNums hk) rfl h1 hdg (by rw [h2]; exact kk)
theorem xas_pnums (hx : p.tables.exec = Jvm.exec) (hb : c.code = cc) (hK : va_K D vwCl (xtys cA) s) (hD : wdD 61 A ad) (hP : va_P D vwCl (xW cA ad h) H) (hS : va_S A H0 H locs) {k : Nat} (hk : k < 4) {i : Int32} {j : Nat} {v : Int64} (hj : gd 24 i = some j) (hdg : decode cc pc = .ok (.lastore, 1)) (kk : ∀ (H1 : Heap) (locs1 : List Loc), va_P D vwCl (xW cA ad (xs_pnums h k j v)) H1 → va_S A H0 H1 locs1 → W p l e R s m args below meth c H1 locs1 cells slots Q (F0 m (pc + 1) ls rest)) : W p l e R s m args below meth c H locs cells slots Q (F0 m pc ls (.long v :: .int i :: .ref (ad (k + 23)) :: rest)) := by
  obtain ⟨h1, h2, -⟩ := gd_eq hj
  subst h2
  exact va_last hx hb hK hP (hD _) hS (k + 23) 2 (xw_PNums hk) rfl h1 hdg (fun H1 locs1 hP1 _ hS1 => kk H1 locs1 (va_P_eq (wdG_set (ct' := xct cA ad (xs_pnums h k i.toNatClampNeg v)) (by first | decide | omega) (by intro j9 hj9 hne; exact xo_pnums hne) (by exact xe_pnums hk)) hP1) hS1)
theorem xln_pnums (hx : p.tables.exec = Jvm.exec) (hb : c.code = cc) (hK : va_K D vwCl (xtys cA) s) (hP : va_P D vwCl (xW cA ad h) H) {k : Nat} (hk : k < 4) (hdg : decode cc pc = .ok (.arraylength, 1)) (kk : W p l e R s m args below meth c H locs cells slots Q (F0 m (pc + 1) ls (.int (nI 24) :: rest))) : W p l e R s m args below meth c H locs cells slots Q (F0 m pc ls (.ref (ad (k + 23)) :: rest)) := va_alen hx hb hK hP (k + 23) 2 (xw_PNums hk) rfl rfl hdg kk
theorem xal_prets (hx : p.tables.exec = Jvm.exec) (hb : c.code = cc) (hK : va_K D vwCl (xtys cA) s) (hP : va_P D vwCl (xW cA ad h) H) {k : Nat} (hk : k < 4) {i : Int32} {j : Nat} (hj : gd 8 i = some j) (hdg : decode cc pc = .ok (.iaload, 1)) (kk : W p l e R s m args below meth c H locs cells slots Q (F0 m (pc + 1) ls (.int (xh_prets h k j) :: rest))) : W p l e R s m args below meth c H locs cells slots Q (F0 m pc ls (.int i :: .ref (ad (k + 27)) :: rest)) := by
  obtain ⟨h1, h2, -⟩ := gd_eq hj
  exact va_iald hx hb hK hP (k + 27) 0 (xw_PRets hk) rfl h1 hdg (by rw [h2]; exact kk)
theorem xas_prets (hx : p.tables.exec = Jvm.exec) (hb : c.code = cc) (hK : va_K D vwCl (xtys cA) s) (hD : wdD 61 A ad) (hP : va_P D vwCl (xW cA ad h) H) (hS : va_S A H0 H locs) {k : Nat} (hk : k < 4) {i : Int32} {j : Nat} {v : Int32} (hj : gd 8 i = some j) (hdg : decode cc pc = .ok (.iastore, 1)) (kk : ∀ (H1 : Heap) (locs1 : List Loc), va_P D vwCl (xW cA ad (xs_prets h k j v)) H1 → va_S A H0 H1 locs1 → W p l e R s m args below meth c H1 locs1 cells slots Q (F0 m (pc + 1) ls rest)) : W p l e R s m args below meth c H locs cells slots Q (F0 m pc ls (.int v :: .int i :: .ref (ad (k + 27)) :: rest)) := by
  obtain ⟨h1, h2, -⟩ := gd_eq hj
  subst h2
  exact va_iast hx hb hK hP (hD _) hS (k + 27) 0 (xw_PRets hk) rfl h1 hdg (fun H1 locs1 hP1 _ hS1 => kk H1 locs1 (va_P_eq (wdG_set (ct' := xct cA ad (xs_prets h k i.toNatClampNeg v)) (by first | decide | omega) (by intro j9 hj9 hne; exact xo_prets hne) (by exact xe_prets hk)) hP1) hS1)
theorem xln_prets (hx : p.tables.exec = Jvm.exec) (hb : c.code = cc) (hK : va_K D vwCl (xtys cA) s) (hP : va_P D vwCl (xW cA ad h) H) {k : Nat} (hk : k < 4) (hdg : decode cc pc = .ok (.arraylength, 1)) (kk : W p l e R s m args below meth c H locs cells slots Q (F0 m (pc + 1) ls (.int (nI 8) :: rest))) : W p l e R s m args below meth c H locs cells slots Q (F0 m pc ls (.ref (ad (k + 27)) :: rest)) := va_alen hx hb hK hP (k + 27) 0 (xw_PRets hk) rfl rfl hdg kk
end XR
