def mtys (cA : Nat → ClassId) : List (ClassId × FieldType) := [(cA 0, .int), (cA 1, .long), (cA 2, .boolean)]
def mct (cA : Nat → ClassId) (ad : Nat → Nat) (h : MH) (i : Nat) : va_E :=
  if i = 0 then .inr (0, [.int (mh_vfault h), .ref (ad 1), .int (mh_vtyped h), .ref (ad 2), .int (mh_vinputs h), .int (mh_vread h), .ref (ad 3), .int (mh_vshown h), .ref (ad 4), .int (mh_vwritten h), .ref (ad 5), .ref (ad 6), .int (mh_vpointers h), .ref (ad 7), .ref (ad 8), .ref (ad 9), .ref (ad 10), .ref (ad 11), .ref (ad 12), .ref (ad 13), .ref (ad 14), .int (mh_vstopped h), .int (mh_vsteps h), .int (mh_vblocks h), .int (mh_vdrops h), .ref (ad 15), .ref (ad 16), .ref (ad 17), .ref (ad 18), .ref (ad 19), .ref (ad 20)]) else
  if i = 1 then .inl (cA 0, 96, .inl (mh_field h)) else
  if i = 2 then .inl (cA 0, 12, .inl (mh_text h)) else
  if i = 3 then .inl (cA 1, 40, .inr (.inl (mh_input h))) else
  if i = 4 then .inl (cA 0, 80, .inl (mh_output h)) else
  if i = 5 then .inl (cA 0, 80, .inl (mh_page h)) else
  if i = 6 then .inl (cA 0, 20, .inl (mh_digits h)) else
  if i = 7 then .inl (cA 2, 8, .inl (mh_lives h)) else
  if i = 8 then .inl (cA 0, 8, .inl (mh_place h)) else
  if i = 9 then .inl (cA 0, 8, .inl (mh_direction h)) else
  if i = 10 then .inl (cA 2, 8, .inl (mh_quoted h)) else
  if i = 11 then .inl (cA 0, 8, .inl (mh_sizes h)) else
  if i = 12 then .inl (cA 1, 192, .inr (.inl (mh_stacks h))) else
  if i = 13 then .inl (cA 0, 8, .inl (mh_returns h)) else
  if i = 14 then .inl (cA 0, 64, .inl (mh_back h)) else
  if i = 15 then .inl (cA 0, 30, .inl (mh_begins h)) else
  if i = 16 then .inl (cA 0, 30, .inl (mh_lengths h)) else
  if i = 17 then .inl (cA 0, 30, .inl (mh_behind h)) else
  if i = 18 then .inl (cA 2, 2880, .inl (mh_covered h)) else
  if i = 19 then .inl (cA 2, 768, .inl (mh_met h)) else
  if i = 20 then .inl (cA 2, 768, .inl (mh_come h)) else .inr (0, [])
def mW (cA : Nat → ClassId) (ad : Nat → Nat) (h : MH) : va_W := wdG 21 ad (mct cA ad h)
theorem mw_M {cA : Nat → ClassId} {ad : Nat → Nat} {h : MH} : (mW cA ad h)[0]? = some (ad 0, .inr (0, [.int (mh_vfault h), .ref (ad 1), .int (mh_vtyped h), .ref (ad 2), .int (mh_vinputs h), .int (mh_vread h), .ref (ad 3), .int (mh_vshown h), .ref (ad 4), .int (mh_vwritten h), .ref (ad 5), .ref (ad 6), .int (mh_vpointers h), .ref (ad 7), .ref (ad 8), .ref (ad 9), .ref (ad 10), .ref (ad 11), .ref (ad 12), .ref (ad 13), .ref (ad 14), .int (mh_vstopped h), .int (mh_vsteps h), .int (mh_vblocks h), .int (mh_vdrops h), .ref (ad 15), .ref (ad 16), .ref (ad 17), .ref (ad 18), .ref (ad 19), .ref (ad 20)])) := wdG_at (by decide) (by simp [mct])
theorem mw_Afield {cA : Nat → ClassId} {ad : Nat → Nat} {h : MH} : (mW cA ad h)[1]? = some (ad 1, .inl (cA 0, 96, .inl (mh_field h))) := wdG_at (by decide) (by simp [mct])
theorem mw_Atext {cA : Nat → ClassId} {ad : Nat → Nat} {h : MH} : (mW cA ad h)[2]? = some (ad 2, .inl (cA 0, 12, .inl (mh_text h))) := wdG_at (by decide) (by simp [mct])
theorem mw_Ainput {cA : Nat → ClassId} {ad : Nat → Nat} {h : MH} : (mW cA ad h)[3]? = some (ad 3, .inl (cA 1, 40, .inr (.inl (mh_input h)))) := wdG_at (by decide) (by simp [mct])
theorem mw_Aoutput {cA : Nat → ClassId} {ad : Nat → Nat} {h : MH} : (mW cA ad h)[4]? = some (ad 4, .inl (cA 0, 80, .inl (mh_output h))) := wdG_at (by decide) (by simp [mct])
theorem mw_Apage {cA : Nat → ClassId} {ad : Nat → Nat} {h : MH} : (mW cA ad h)[5]? = some (ad 5, .inl (cA 0, 80, .inl (mh_page h))) := wdG_at (by decide) (by simp [mct])
theorem mw_Adigits {cA : Nat → ClassId} {ad : Nat → Nat} {h : MH} : (mW cA ad h)[6]? = some (ad 6, .inl (cA 0, 20, .inl (mh_digits h))) := wdG_at (by decide) (by simp [mct])
theorem mw_Alives {cA : Nat → ClassId} {ad : Nat → Nat} {h : MH} : (mW cA ad h)[7]? = some (ad 7, .inl (cA 2, 8, .inl (mh_lives h))) := wdG_at (by decide) (by simp [mct])
theorem mw_Aplace {cA : Nat → ClassId} {ad : Nat → Nat} {h : MH} : (mW cA ad h)[8]? = some (ad 8, .inl (cA 0, 8, .inl (mh_place h))) := wdG_at (by decide) (by simp [mct])
theorem mw_Adirection {cA : Nat → ClassId} {ad : Nat → Nat} {h : MH} : (mW cA ad h)[9]? = some (ad 9, .inl (cA 0, 8, .inl (mh_direction h))) := wdG_at (by decide) (by simp [mct])
theorem mw_Aquoted {cA : Nat → ClassId} {ad : Nat → Nat} {h : MH} : (mW cA ad h)[10]? = some (ad 10, .inl (cA 2, 8, .inl (mh_quoted h))) := wdG_at (by decide) (by simp [mct])
theorem mw_Asizes {cA : Nat → ClassId} {ad : Nat → Nat} {h : MH} : (mW cA ad h)[11]? = some (ad 11, .inl (cA 0, 8, .inl (mh_sizes h))) := wdG_at (by decide) (by simp [mct])
theorem mw_Astacks {cA : Nat → ClassId} {ad : Nat → Nat} {h : MH} : (mW cA ad h)[12]? = some (ad 12, .inl (cA 1, 192, .inr (.inl (mh_stacks h)))) := wdG_at (by decide) (by simp [mct])
theorem mw_Areturns {cA : Nat → ClassId} {ad : Nat → Nat} {h : MH} : (mW cA ad h)[13]? = some (ad 13, .inl (cA 0, 8, .inl (mh_returns h))) := wdG_at (by decide) (by simp [mct])
theorem mw_Aback {cA : Nat → ClassId} {ad : Nat → Nat} {h : MH} : (mW cA ad h)[14]? = some (ad 14, .inl (cA 0, 64, .inl (mh_back h))) := wdG_at (by decide) (by simp [mct])
theorem mw_Abegins {cA : Nat → ClassId} {ad : Nat → Nat} {h : MH} : (mW cA ad h)[15]? = some (ad 15, .inl (cA 0, 30, .inl (mh_begins h))) := wdG_at (by decide) (by simp [mct])
theorem mw_Alengths {cA : Nat → ClassId} {ad : Nat → Nat} {h : MH} : (mW cA ad h)[16]? = some (ad 16, .inl (cA 0, 30, .inl (mh_lengths h))) := wdG_at (by decide) (by simp [mct])
theorem mw_Abehind {cA : Nat → ClassId} {ad : Nat → Nat} {h : MH} : (mW cA ad h)[17]? = some (ad 17, .inl (cA 0, 30, .inl (mh_behind h))) := wdG_at (by decide) (by simp [mct])
theorem mw_Acovered {cA : Nat → ClassId} {ad : Nat → Nat} {h : MH} : (mW cA ad h)[18]? = some (ad 18, .inl (cA 2, 2880, .inl (mh_covered h))) := wdG_at (by decide) (by simp [mct])
theorem mw_Amet {cA : Nat → ClassId} {ad : Nat → Nat} {h : MH} : (mW cA ad h)[19]? = some (ad 19, .inl (cA 2, 768, .inl (mh_met h))) := wdG_at (by decide) (by simp [mct])
theorem mw_Acome {cA : Nat → ClassId} {ad : Nat → Nat} {h : MH} : (mW cA ad h)[20]? = some (ad 20, .inl (cA 2, 768, .inl (mh_come h))) := wdG_at (by decide) (by simp [mct])
theorem mo_vfault {cA : Nat → ClassId} {ad : Nat → Nat} {h : MH} {v : Int32} {j : Nat} (hne : j ≠ 0) : mct cA ad (ms_vfault h v) j = mct cA ad h j := ic (fun hc => absurd hc hne) (fun _ => rfl)
theorem me_vfault {cA : Nat → ClassId} {ad : Nat → Nat} {h : MH} {v : Int32} : mct cA ad (ms_vfault h v) (0) = .inr (0, [.int v, .ref (ad 1), .int (mh_vtyped h), .ref (ad 2), .int (mh_vinputs h), .int (mh_vread h), .ref (ad 3), .int (mh_vshown h), .ref (ad 4), .int (mh_vwritten h), .ref (ad 5), .ref (ad 6), .int (mh_vpointers h), .ref (ad 7), .ref (ad 8), .ref (ad 9), .ref (ad 10), .ref (ad 11), .ref (ad 12), .ref (ad 13), .ref (ad 14), .int (mh_vstopped h), .int (mh_vsteps h), .int (mh_vblocks h), .int (mh_vdrops h), .ref (ad 15), .ref (ad 16), .ref (ad 17), .ref (ad 18), .ref (ad 19), .ref (ad 20)]) := by
  unfold mct
  rw [if_pos (by omega)]
  try rfl
theorem mo_vtyped {cA : Nat → ClassId} {ad : Nat → Nat} {h : MH} {v : Int32} {j : Nat} (hne : j ≠ 0) : mct cA ad (ms_vtyped h v) j = mct cA ad h j := ic (fun hc => absurd hc hne) (fun _ => rfl)
theorem me_vtyped {cA : Nat → ClassId} {ad : Nat → Nat} {h : MH} {v : Int32} : mct cA ad (ms_vtyped h v) (0) = .inr (0, [.int (mh_vfault h), .ref (ad 1), .int v, .ref (ad 2), .int (mh_vinputs h), .int (mh_vread h), .ref (ad 3), .int (mh_vshown h), .ref (ad 4), .int (mh_vwritten h), .ref (ad 5), .ref (ad 6), .int (mh_vpointers h), .ref (ad 7), .ref (ad 8), .ref (ad 9), .ref (ad 10), .ref (ad 11), .ref (ad 12), .ref (ad 13), .ref (ad 14), .int (mh_vstopped h), .int (mh_vsteps h), .int (mh_vblocks h), .int (mh_vdrops h), .ref (ad 15), .ref (ad 16), .ref (ad 17), .ref (ad 18), .ref (ad 19), .ref (ad 20)]) := by
  unfold mct
  rw [if_pos (by omega)]
  try rfl
theorem mo_vinputs {cA : Nat → ClassId} {ad : Nat → Nat} {h : MH} {v : Int32} {j : Nat} (hne : j ≠ 0) : mct cA ad (ms_vinputs h v) j = mct cA ad h j := ic (fun hc => absurd hc hne) (fun _ => rfl)
theorem me_vinputs {cA : Nat → ClassId} {ad : Nat → Nat} {h : MH} {v : Int32} : mct cA ad (ms_vinputs h v) (0) = .inr (0, [.int (mh_vfault h), .ref (ad 1), .int (mh_vtyped h), .ref (ad 2), .int v, .int (mh_vread h), .ref (ad 3), .int (mh_vshown h), .ref (ad 4), .int (mh_vwritten h), .ref (ad 5), .ref (ad 6), .int (mh_vpointers h), .ref (ad 7), .ref (ad 8), .ref (ad 9), .ref (ad 10), .ref (ad 11), .ref (ad 12), .ref (ad 13), .ref (ad 14), .int (mh_vstopped h), .int (mh_vsteps h), .int (mh_vblocks h), .int (mh_vdrops h), .ref (ad 15), .ref (ad 16), .ref (ad 17), .ref (ad 18), .ref (ad 19), .ref (ad 20)]) := by
  unfold mct
  rw [if_pos (by omega)]
  try rfl
theorem mo_vread {cA : Nat → ClassId} {ad : Nat → Nat} {h : MH} {v : Int32} {j : Nat} (hne : j ≠ 0) : mct cA ad (ms_vread h v) j = mct cA ad h j := ic (fun hc => absurd hc hne) (fun _ => rfl)
theorem me_vread {cA : Nat → ClassId} {ad : Nat → Nat} {h : MH} {v : Int32} : mct cA ad (ms_vread h v) (0) = .inr (0, [.int (mh_vfault h), .ref (ad 1), .int (mh_vtyped h), .ref (ad 2), .int (mh_vinputs h), .int v, .ref (ad 3), .int (mh_vshown h), .ref (ad 4), .int (mh_vwritten h), .ref (ad 5), .ref (ad 6), .int (mh_vpointers h), .ref (ad 7), .ref (ad 8), .ref (ad 9), .ref (ad 10), .ref (ad 11), .ref (ad 12), .ref (ad 13), .ref (ad 14), .int (mh_vstopped h), .int (mh_vsteps h), .int (mh_vblocks h), .int (mh_vdrops h), .ref (ad 15), .ref (ad 16), .ref (ad 17), .ref (ad 18), .ref (ad 19), .ref (ad 20)]) := by
  unfold mct
  rw [if_pos (by omega)]
  try rfl
theorem mo_vshown {cA : Nat → ClassId} {ad : Nat → Nat} {h : MH} {v : Int32} {j : Nat} (hne : j ≠ 0) : mct cA ad (ms_vshown h v) j = mct cA ad h j := ic (fun hc => absurd hc hne) (fun _ => rfl)
theorem me_vshown {cA : Nat → ClassId} {ad : Nat → Nat} {h : MH} {v : Int32} : mct cA ad (ms_vshown h v) (0) = .inr (0, [.int (mh_vfault h), .ref (ad 1), .int (mh_vtyped h), .ref (ad 2), .int (mh_vinputs h), .int (mh_vread h), .ref (ad 3), .int v, .ref (ad 4), .int (mh_vwritten h), .ref (ad 5), .ref (ad 6), .int (mh_vpointers h), .ref (ad 7), .ref (ad 8), .ref (ad 9), .ref (ad 10), .ref (ad 11), .ref (ad 12), .ref (ad 13), .ref (ad 14), .int (mh_vstopped h), .int (mh_vsteps h), .int (mh_vblocks h), .int (mh_vdrops h), .ref (ad 15), .ref (ad 16), .ref (ad 17), .ref (ad 18), .ref (ad 19), .ref (ad 20)]) := by
  unfold mct
  rw [if_pos (by omega)]
  try rfl
theorem mo_vwritten {cA : Nat → ClassId} {ad : Nat → Nat} {h : MH} {v : Int32} {j : Nat} (hne : j ≠ 0) : mct cA ad (ms_vwritten h v) j = mct cA ad h j := ic (fun hc => absurd hc hne) (fun _ => rfl)
theorem me_vwritten {cA : Nat → ClassId} {ad : Nat → Nat} {h : MH} {v : Int32} : mct cA ad (ms_vwritten h v) (0) = .inr (0, [.int (mh_vfault h), .ref (ad 1), .int (mh_vtyped h), .ref (ad 2), .int (mh_vinputs h), .int (mh_vread h), .ref (ad 3), .int (mh_vshown h), .ref (ad 4), .int v, .ref (ad 5), .ref (ad 6), .int (mh_vpointers h), .ref (ad 7), .ref (ad 8), .ref (ad 9), .ref (ad 10), .ref (ad 11), .ref (ad 12), .ref (ad 13), .ref (ad 14), .int (mh_vstopped h), .int (mh_vsteps h), .int (mh_vblocks h), .int (mh_vdrops h), .ref (ad 15), .ref (ad 16), .ref (ad 17), .ref (ad 18), .ref (ad 19), .ref (ad 20)]) := by
  unfold mct
  rw [if_pos (by omega)]
  try rfl
theorem mo_vpointers {cA : Nat → ClassId} {ad : Nat → Nat} {h : MH} {v : Int32} {j : Nat} (hne : j ≠ 0) : mct cA ad (ms_vpointers h v) j = mct cA ad h j := ic (fun hc => absurd hc hne) (fun _ => rfl)
theorem me_vpointers {cA : Nat → ClassId} {ad : Nat → Nat} {h : MH} {v : Int32} : mct cA ad (ms_vpointers h v) (0) = .inr (0, [.int (mh_vfault h), .ref (ad 1), .int (mh_vtyped h), .ref (ad 2), .int (mh_vinputs h), .int (mh_vread h), .ref (ad 3), .int (mh_vshown h), .ref (ad 4), .int (mh_vwritten h), .ref (ad 5), .ref (ad 6), .int v, .ref (ad 7), .ref (ad 8), .ref (ad 9), .ref (ad 10), .ref (ad 11), .ref (ad 12), .ref (ad 13), .ref (ad 14), .int (mh_vstopped h), .int (mh_vsteps h), .int (mh_vblocks h), .int (mh_vdrops h), .ref (ad 15), .ref (ad 16), .ref (ad 17), .ref (ad 18), .ref (ad 19), .ref (ad 20)]) := by
  unfold mct
  rw [if_pos (by omega)]
  try rfl
theorem mo_vstopped {cA : Nat → ClassId} {ad : Nat → Nat} {h : MH} {v : Int32} {j : Nat} (hne : j ≠ 0) : mct cA ad (ms_vstopped h v) j = mct cA ad h j := ic (fun hc => absurd hc hne) (fun _ => rfl)
theorem me_vstopped {cA : Nat → ClassId} {ad : Nat → Nat} {h : MH} {v : Int32} : mct cA ad (ms_vstopped h v) (0) = .inr (0, [.int (mh_vfault h), .ref (ad 1), .int (mh_vtyped h), .ref (ad 2), .int (mh_vinputs h), .int (mh_vread h), .ref (ad 3), .int (mh_vshown h), .ref (ad 4), .int (mh_vwritten h), .ref (ad 5), .ref (ad 6), .int (mh_vpointers h), .ref (ad 7), .ref (ad 8), .ref (ad 9), .ref (ad 10), .ref (ad 11), .ref (ad 12), .ref (ad 13), .ref (ad 14), .int v, .int (mh_vsteps h), .int (mh_vblocks h), .int (mh_vdrops h), .ref (ad 15), .ref (ad 16), .ref (ad 17), .ref (ad 18), .ref (ad 19), .ref (ad 20)]) := by
  unfold mct
  rw [if_pos (by omega)]
  try rfl
theorem mo_vsteps {cA : Nat → ClassId} {ad : Nat → Nat} {h : MH} {v : Int32} {j : Nat} (hne : j ≠ 0) : mct cA ad (ms_vsteps h v) j = mct cA ad h j := ic (fun hc => absurd hc hne) (fun _ => rfl)
theorem me_vsteps {cA : Nat → ClassId} {ad : Nat → Nat} {h : MH} {v : Int32} : mct cA ad (ms_vsteps h v) (0) = .inr (0, [.int (mh_vfault h), .ref (ad 1), .int (mh_vtyped h), .ref (ad 2), .int (mh_vinputs h), .int (mh_vread h), .ref (ad 3), .int (mh_vshown h), .ref (ad 4), .int (mh_vwritten h), .ref (ad 5), .ref (ad 6), .int (mh_vpointers h), .ref (ad 7), .ref (ad 8), .ref (ad 9), .ref (ad 10), .ref (ad 11), .ref (ad 12), .ref (ad 13), .ref (ad 14), .int (mh_vstopped h), .int v, .int (mh_vblocks h), .int (mh_vdrops h), .ref (ad 15), .ref (ad 16), .ref (ad 17), .ref (ad 18), .ref (ad 19), .ref (ad 20)]) := by
  unfold mct
  rw [if_pos (by omega)]
  try rfl
theorem mo_vblocks {cA : Nat → ClassId} {ad : Nat → Nat} {h : MH} {v : Int32} {j : Nat} (hne : j ≠ 0) : mct cA ad (ms_vblocks h v) j = mct cA ad h j := ic (fun hc => absurd hc hne) (fun _ => rfl)
theorem me_vblocks {cA : Nat → ClassId} {ad : Nat → Nat} {h : MH} {v : Int32} : mct cA ad (ms_vblocks h v) (0) = .inr (0, [.int (mh_vfault h), .ref (ad 1), .int (mh_vtyped h), .ref (ad 2), .int (mh_vinputs h), .int (mh_vread h), .ref (ad 3), .int (mh_vshown h), .ref (ad 4), .int (mh_vwritten h), .ref (ad 5), .ref (ad 6), .int (mh_vpointers h), .ref (ad 7), .ref (ad 8), .ref (ad 9), .ref (ad 10), .ref (ad 11), .ref (ad 12), .ref (ad 13), .ref (ad 14), .int (mh_vstopped h), .int (mh_vsteps h), .int v, .int (mh_vdrops h), .ref (ad 15), .ref (ad 16), .ref (ad 17), .ref (ad 18), .ref (ad 19), .ref (ad 20)]) := by
  unfold mct
  rw [if_pos (by omega)]
  try rfl
theorem mo_vdrops {cA : Nat → ClassId} {ad : Nat → Nat} {h : MH} {v : Int32} {j : Nat} (hne : j ≠ 0) : mct cA ad (ms_vdrops h v) j = mct cA ad h j := ic (fun hc => absurd hc hne) (fun _ => rfl)
theorem me_vdrops {cA : Nat → ClassId} {ad : Nat → Nat} {h : MH} {v : Int32} : mct cA ad (ms_vdrops h v) (0) = .inr (0, [.int (mh_vfault h), .ref (ad 1), .int (mh_vtyped h), .ref (ad 2), .int (mh_vinputs h), .int (mh_vread h), .ref (ad 3), .int (mh_vshown h), .ref (ad 4), .int (mh_vwritten h), .ref (ad 5), .ref (ad 6), .int (mh_vpointers h), .ref (ad 7), .ref (ad 8), .ref (ad 9), .ref (ad 10), .ref (ad 11), .ref (ad 12), .ref (ad 13), .ref (ad 14), .int (mh_vstopped h), .int (mh_vsteps h), .int (mh_vblocks h), .int v, .ref (ad 15), .ref (ad 16), .ref (ad 17), .ref (ad 18), .ref (ad 19), .ref (ad 20)]) := by
  unfold mct
  rw [if_pos (by omega)]
  try rfl
theorem mo_field {cA : Nat → ClassId} {ad : Nat → Nat} {h : MH} {j0 : Nat} {v : Int32} {j : Nat} (hne : j ≠ 1) : mct cA ad (ms_field h j0 v) j = mct cA ad h j := ic (fun _ => rfl) (fun h0_ => ic (fun hc => absurd hc hne) (fun _ => rfl))
theorem me_field {cA : Nat → ClassId} {ad : Nat → Nat} {h : MH} {j0 : Nat} {v : Int32} : mct cA ad (ms_field h j0 v) (1) = .inl (cA 0, 96, .inl (va_up (mh_field h) j0 v)) := by
  unfold mct
  rw [if_neg (by omega)]
  rw [if_pos (by omega)]
  try rfl
theorem mo_text {cA : Nat → ClassId} {ad : Nat → Nat} {h : MH} {j0 : Nat} {v : Int32} {j : Nat} (hne : j ≠ 2) : mct cA ad (ms_text h j0 v) j = mct cA ad h j := ic (fun _ => rfl) (fun h0_ => ic (fun _ => rfl) (fun h1_ => ic (fun hc => absurd hc hne) (fun _ => rfl)))
theorem me_text {cA : Nat → ClassId} {ad : Nat → Nat} {h : MH} {j0 : Nat} {v : Int32} : mct cA ad (ms_text h j0 v) (2) = .inl (cA 0, 12, .inl (va_up (mh_text h) j0 v)) := by
  unfold mct
  rw [if_neg (by omega)]
  rw [if_neg (by omega)]
  rw [if_pos (by omega)]
  try rfl
theorem mo_input {cA : Nat → ClassId} {ad : Nat → Nat} {h : MH} {j0 : Nat} {v : Int64} {j : Nat} (hne : j ≠ 3) : mct cA ad (ms_input h j0 v) j = mct cA ad h j := ic (fun _ => rfl) (fun h0_ => ic (fun _ => rfl) (fun h1_ => ic (fun _ => rfl) (fun h2_ => ic (fun hc => absurd hc hne) (fun _ => rfl))))
theorem me_input {cA : Nat → ClassId} {ad : Nat → Nat} {h : MH} {j0 : Nat} {v : Int64} : mct cA ad (ms_input h j0 v) (3) = .inl (cA 1, 40, .inr (.inl (va_up (mh_input h) j0 v))) := by
  unfold mct
  rw [if_neg (by omega)]
  rw [if_neg (by omega)]
  rw [if_neg (by omega)]
  rw [if_pos (by omega)]
  try rfl
theorem mo_output {cA : Nat → ClassId} {ad : Nat → Nat} {h : MH} {j0 : Nat} {v : Int32} {j : Nat} (hne : j ≠ 4) : mct cA ad (ms_output h j0 v) j = mct cA ad h j := ic (fun _ => rfl) (fun h0_ => ic (fun _ => rfl) (fun h1_ => ic (fun _ => rfl) (fun h2_ => ic (fun _ => rfl) (fun h3_ => ic (fun hc => absurd hc hne) (fun _ => rfl)))))
theorem me_output {cA : Nat → ClassId} {ad : Nat → Nat} {h : MH} {j0 : Nat} {v : Int32} : mct cA ad (ms_output h j0 v) (4) = .inl (cA 0, 80, .inl (va_up (mh_output h) j0 v)) := by
  unfold mct
  rw [if_neg (by omega)]
  rw [if_neg (by omega)]
  rw [if_neg (by omega)]
  rw [if_neg (by omega)]
  rw [if_pos (by omega)]
  try rfl
theorem mo_page {cA : Nat → ClassId} {ad : Nat → Nat} {h : MH} {j0 : Nat} {v : Int32} {j : Nat} (hne : j ≠ 5) : mct cA ad (ms_page h j0 v) j = mct cA ad h j := ic (fun _ => rfl) (fun h0_ => ic (fun _ => rfl) (fun h1_ => ic (fun _ => rfl) (fun h2_ => ic (fun _ => rfl) (fun h3_ => ic (fun _ => rfl) (fun h4_ => ic (fun hc => absurd hc hne) (fun _ => rfl))))))
theorem me_page {cA : Nat → ClassId} {ad : Nat → Nat} {h : MH} {j0 : Nat} {v : Int32} : mct cA ad (ms_page h j0 v) (5) = .inl (cA 0, 80, .inl (va_up (mh_page h) j0 v)) := by
  unfold mct
  rw [if_neg (by omega)]
  rw [if_neg (by omega)]
  rw [if_neg (by omega)]
  rw [if_neg (by omega)]
  rw [if_neg (by omega)]
  rw [if_pos (by omega)]
  try rfl
theorem mo_digits {cA : Nat → ClassId} {ad : Nat → Nat} {h : MH} {j0 : Nat} {v : Int32} {j : Nat} (hne : j ≠ 6) : mct cA ad (ms_digits h j0 v) j = mct cA ad h j := ic (fun _ => rfl) (fun h0_ => ic (fun _ => rfl) (fun h1_ => ic (fun _ => rfl) (fun h2_ => ic (fun _ => rfl) (fun h3_ => ic (fun _ => rfl) (fun h4_ => ic (fun _ => rfl) (fun h5_ => ic (fun hc => absurd hc hne) (fun _ => rfl)))))))
theorem me_digits {cA : Nat → ClassId} {ad : Nat → Nat} {h : MH} {j0 : Nat} {v : Int32} : mct cA ad (ms_digits h j0 v) (6) = .inl (cA 0, 20, .inl (va_up (mh_digits h) j0 v)) := by
  unfold mct
  rw [if_neg (by omega)]
  rw [if_neg (by omega)]
  rw [if_neg (by omega)]
  rw [if_neg (by omega)]
  rw [if_neg (by omega)]
  rw [if_neg (by omega)]
  rw [if_pos (by omega)]
  try rfl
theorem mo_lives {cA : Nat → ClassId} {ad : Nat → Nat} {h : MH} {j0 : Nat} {v : Int32} {j : Nat} (hne : j ≠ 7) : mct cA ad (ms_lives h j0 v) j = mct cA ad h j := ic (fun _ => rfl) (fun h0_ => ic (fun _ => rfl) (fun h1_ => ic (fun _ => rfl) (fun h2_ => ic (fun _ => rfl) (fun h3_ => ic (fun _ => rfl) (fun h4_ => ic (fun _ => rfl) (fun h5_ => ic (fun _ => rfl) (fun h6_ => ic (fun hc => absurd hc hne) (fun _ => rfl))))))))
theorem me_lives {cA : Nat → ClassId} {ad : Nat → Nat} {h : MH} {j0 : Nat} {v : Int32} : mct cA ad (ms_lives h j0 v) (7) = .inl (cA 2, 8, .inl (va_up (mh_lives h) j0 v)) := by
  unfold mct
  rw [if_neg (by omega)]
  rw [if_neg (by omega)]
  rw [if_neg (by omega)]
  rw [if_neg (by omega)]
  rw [if_neg (by omega)]
  rw [if_neg (by omega)]
  rw [if_neg (by omega)]
  rw [if_pos (by omega)]
  try rfl
theorem mo_place {cA : Nat → ClassId} {ad : Nat → Nat} {h : MH} {j0 : Nat} {v : Int32} {j : Nat} (hne : j ≠ 8) : mct cA ad (ms_place h j0 v) j = mct cA ad h j := ic (fun _ => rfl) (fun h0_ => ic (fun _ => rfl) (fun h1_ => ic (fun _ => rfl) (fun h2_ => ic (fun _ => rfl) (fun h3_ => ic (fun _ => rfl) (fun h4_ => ic (fun _ => rfl) (fun h5_ => ic (fun _ => rfl) (fun h6_ => ic (fun _ => rfl) (fun h7_ => ic (fun hc => absurd hc hne) (fun _ => rfl)))))))))
theorem me_place {cA : Nat → ClassId} {ad : Nat → Nat} {h : MH} {j0 : Nat} {v : Int32} : mct cA ad (ms_place h j0 v) (8) = .inl (cA 0, 8, .inl (va_up (mh_place h) j0 v)) := by
  unfold mct
  rw [if_neg (by omega)]
  rw [if_neg (by omega)]
  rw [if_neg (by omega)]
  rw [if_neg (by omega)]
  rw [if_neg (by omega)]
  rw [if_neg (by omega)]
  rw [if_neg (by omega)]
  rw [if_neg (by omega)]
  rw [if_pos (by omega)]
  try rfl
theorem mo_direction {cA : Nat → ClassId} {ad : Nat → Nat} {h : MH} {j0 : Nat} {v : Int32} {j : Nat} (hne : j ≠ 9) : mct cA ad (ms_direction h j0 v) j = mct cA ad h j := ic (fun _ => rfl) (fun h0_ => ic (fun _ => rfl) (fun h1_ => ic (fun _ => rfl) (fun h2_ => ic (fun _ => rfl) (fun h3_ => ic (fun _ => rfl) (fun h4_ => ic (fun _ => rfl) (fun h5_ => ic (fun _ => rfl) (fun h6_ => ic (fun _ => rfl) (fun h7_ => ic (fun _ => rfl) (fun h8_ => ic (fun hc => absurd hc hne) (fun _ => rfl))))))))))
theorem me_direction {cA : Nat → ClassId} {ad : Nat → Nat} {h : MH} {j0 : Nat} {v : Int32} : mct cA ad (ms_direction h j0 v) (9) = .inl (cA 0, 8, .inl (va_up (mh_direction h) j0 v)) := by
  unfold mct
  rw [if_neg (by omega)]
  rw [if_neg (by omega)]
  rw [if_neg (by omega)]
  rw [if_neg (by omega)]
  rw [if_neg (by omega)]
  rw [if_neg (by omega)]
  rw [if_neg (by omega)]
  rw [if_neg (by omega)]
  rw [if_neg (by omega)]
  rw [if_pos (by omega)]
  try rfl
theorem mo_quoted {cA : Nat → ClassId} {ad : Nat → Nat} {h : MH} {j0 : Nat} {v : Int32} {j : Nat} (hne : j ≠ 10) : mct cA ad (ms_quoted h j0 v) j = mct cA ad h j := ic (fun _ => rfl) (fun h0_ => ic (fun _ => rfl) (fun h1_ => ic (fun _ => rfl) (fun h2_ => ic (fun _ => rfl) (fun h3_ => ic (fun _ => rfl) (fun h4_ => ic (fun _ => rfl) (fun h5_ => ic (fun _ => rfl) (fun h6_ => ic (fun _ => rfl) (fun h7_ => ic (fun _ => rfl) (fun h8_ => ic (fun _ => rfl) (fun h9_ => ic (fun hc => absurd hc hne) (fun _ => rfl)))))))))))
theorem me_quoted {cA : Nat → ClassId} {ad : Nat → Nat} {h : MH} {j0 : Nat} {v : Int32} : mct cA ad (ms_quoted h j0 v) (10) = .inl (cA 2, 8, .inl (va_up (mh_quoted h) j0 v)) := by
  unfold mct
  rw [if_neg (by omega)]
  rw [if_neg (by omega)]
  rw [if_neg (by omega)]
  rw [if_neg (by omega)]
  rw [if_neg (by omega)]
  rw [if_neg (by omega)]
  rw [if_neg (by omega)]
  rw [if_neg (by omega)]
  rw [if_neg (by omega)]
  rw [if_neg (by omega)]
  rw [if_pos (by omega)]
  try rfl
theorem mo_sizes {cA : Nat → ClassId} {ad : Nat → Nat} {h : MH} {j0 : Nat} {v : Int32} {j : Nat} (hne : j ≠ 11) : mct cA ad (ms_sizes h j0 v) j = mct cA ad h j := ic (fun _ => rfl) (fun h0_ => ic (fun _ => rfl) (fun h1_ => ic (fun _ => rfl) (fun h2_ => ic (fun _ => rfl) (fun h3_ => ic (fun _ => rfl) (fun h4_ => ic (fun _ => rfl) (fun h5_ => ic (fun _ => rfl) (fun h6_ => ic (fun _ => rfl) (fun h7_ => ic (fun _ => rfl) (fun h8_ => ic (fun _ => rfl) (fun h9_ => ic (fun _ => rfl) (fun h10_ => ic (fun hc => absurd hc hne) (fun _ => rfl))))))))))))
theorem me_sizes {cA : Nat → ClassId} {ad : Nat → Nat} {h : MH} {j0 : Nat} {v : Int32} : mct cA ad (ms_sizes h j0 v) (11) = .inl (cA 0, 8, .inl (va_up (mh_sizes h) j0 v)) := by
  unfold mct
  rw [if_neg (by omega)]
  rw [if_neg (by omega)]
  rw [if_neg (by omega)]
  rw [if_neg (by omega)]
  rw [if_neg (by omega)]
  rw [if_neg (by omega)]
  rw [if_neg (by omega)]
  rw [if_neg (by omega)]
  rw [if_neg (by omega)]
  rw [if_neg (by omega)]
  rw [if_neg (by omega)]
  rw [if_pos (by omega)]
  try rfl
theorem mo_stacks {cA : Nat → ClassId} {ad : Nat → Nat} {h : MH} {j0 : Nat} {v : Int64} {j : Nat} (hne : j ≠ 12) : mct cA ad (ms_stacks h j0 v) j = mct cA ad h j := ic (fun _ => rfl) (fun h0_ => ic (fun _ => rfl) (fun h1_ => ic (fun _ => rfl) (fun h2_ => ic (fun _ => rfl) (fun h3_ => ic (fun _ => rfl) (fun h4_ => ic (fun _ => rfl) (fun h5_ => ic (fun _ => rfl) (fun h6_ => ic (fun _ => rfl) (fun h7_ => ic (fun _ => rfl) (fun h8_ => ic (fun _ => rfl) (fun h9_ => ic (fun _ => rfl) (fun h10_ => ic (fun _ => rfl) (fun h11_ => ic (fun hc => absurd hc hne) (fun _ => rfl)))))))))))))
theorem me_stacks {cA : Nat → ClassId} {ad : Nat → Nat} {h : MH} {j0 : Nat} {v : Int64} : mct cA ad (ms_stacks h j0 v) (12) = .inl (cA 1, 192, .inr (.inl (va_up (mh_stacks h) j0 v))) := by
  unfold mct
  rw [if_neg (by omega)]
  rw [if_neg (by omega)]
  rw [if_neg (by omega)]
  rw [if_neg (by omega)]
  rw [if_neg (by omega)]
  rw [if_neg (by omega)]
  rw [if_neg (by omega)]
  rw [if_neg (by omega)]
  rw [if_neg (by omega)]
  rw [if_neg (by omega)]
  rw [if_neg (by omega)]
  rw [if_neg (by omega)]
  rw [if_pos (by omega)]
  try rfl
theorem mo_returns {cA : Nat → ClassId} {ad : Nat → Nat} {h : MH} {j0 : Nat} {v : Int32} {j : Nat} (hne : j ≠ 13) : mct cA ad (ms_returns h j0 v) j = mct cA ad h j := ic (fun _ => rfl) (fun h0_ => ic (fun _ => rfl) (fun h1_ => ic (fun _ => rfl) (fun h2_ => ic (fun _ => rfl) (fun h3_ => ic (fun _ => rfl) (fun h4_ => ic (fun _ => rfl) (fun h5_ => ic (fun _ => rfl) (fun h6_ => ic (fun _ => rfl) (fun h7_ => ic (fun _ => rfl) (fun h8_ => ic (fun _ => rfl) (fun h9_ => ic (fun _ => rfl) (fun h10_ => ic (fun _ => rfl) (fun h11_ => ic (fun _ => rfl) (fun h12_ => ic (fun hc => absurd hc hne) (fun _ => rfl))))))))))))))
theorem me_returns {cA : Nat → ClassId} {ad : Nat → Nat} {h : MH} {j0 : Nat} {v : Int32} : mct cA ad (ms_returns h j0 v) (13) = .inl (cA 0, 8, .inl (va_up (mh_returns h) j0 v)) := by
  unfold mct
  rw [if_neg (by omega)]
  rw [if_neg (by omega)]
  rw [if_neg (by omega)]
  rw [if_neg (by omega)]
  rw [if_neg (by omega)]
  rw [if_neg (by omega)]
  rw [if_neg (by omega)]
  rw [if_neg (by omega)]
  rw [if_neg (by omega)]
  rw [if_neg (by omega)]
  rw [if_neg (by omega)]
  rw [if_neg (by omega)]
  rw [if_neg (by omega)]
  rw [if_pos (by omega)]
  try rfl
theorem mo_back {cA : Nat → ClassId} {ad : Nat → Nat} {h : MH} {j0 : Nat} {v : Int32} {j : Nat} (hne : j ≠ 14) : mct cA ad (ms_back h j0 v) j = mct cA ad h j := ic (fun _ => rfl) (fun h0_ => ic (fun _ => rfl) (fun h1_ => ic (fun _ => rfl) (fun h2_ => ic (fun _ => rfl) (fun h3_ => ic (fun _ => rfl) (fun h4_ => ic (fun _ => rfl) (fun h5_ => ic (fun _ => rfl) (fun h6_ => ic (fun _ => rfl) (fun h7_ => ic (fun _ => rfl) (fun h8_ => ic (fun _ => rfl) (fun h9_ => ic (fun _ => rfl) (fun h10_ => ic (fun _ => rfl) (fun h11_ => ic (fun _ => rfl) (fun h12_ => ic (fun _ => rfl) (fun h13_ => ic (fun hc => absurd hc hne) (fun _ => rfl)))))))))))))))
theorem me_back {cA : Nat → ClassId} {ad : Nat → Nat} {h : MH} {j0 : Nat} {v : Int32} : mct cA ad (ms_back h j0 v) (14) = .inl (cA 0, 64, .inl (va_up (mh_back h) j0 v)) := by
  unfold mct
  rw [if_neg (by omega)]
  rw [if_neg (by omega)]
  rw [if_neg (by omega)]
  rw [if_neg (by omega)]
  rw [if_neg (by omega)]
  rw [if_neg (by omega)]
  rw [if_neg (by omega)]
  rw [if_neg (by omega)]
  rw [if_neg (by omega)]
  rw [if_neg (by omega)]
  rw [if_neg (by omega)]
  rw [if_neg (by omega)]
  rw [if_neg (by omega)]
  rw [if_neg (by omega)]
  rw [if_pos (by omega)]
  try rfl
theorem mo_begins {cA : Nat → ClassId} {ad : Nat → Nat} {h : MH} {j0 : Nat} {v : Int32} {j : Nat} (hne : j ≠ 15) : mct cA ad (ms_begins h j0 v) j = mct cA ad h j := ic (fun _ => rfl) (fun h0_ => ic (fun _ => rfl) (fun h1_ => ic (fun _ => rfl) (fun h2_ => ic (fun _ => rfl) (fun h3_ => ic (fun _ => rfl) (fun h4_ => ic (fun _ => rfl) (fun h5_ => ic (fun _ => rfl) (fun h6_ => ic (fun _ => rfl) (fun h7_ => ic (fun _ => rfl) (fun h8_ => ic (fun _ => rfl) (fun h9_ => ic (fun _ => rfl) (fun h10_ => ic (fun _ => rfl) (fun h11_ => ic (fun _ => rfl) (fun h12_ => ic (fun _ => rfl) (fun h13_ => ic (fun _ => rfl) (fun h14_ => ic (fun hc => absurd hc hne) (fun _ => rfl))))))))))))))))
theorem me_begins {cA : Nat → ClassId} {ad : Nat → Nat} {h : MH} {j0 : Nat} {v : Int32} : mct cA ad (ms_begins h j0 v) (15) = .inl (cA 0, 30, .inl (va_up (mh_begins h) j0 v)) := by
  unfold mct
  rw [if_neg (by omega)]
  rw [if_neg (by omega)]
  rw [if_neg (by omega)]
  rw [if_neg (by omega)]
  rw [if_neg (by omega)]
  rw [if_neg (by omega)]
  rw [if_neg (by omega)]
  rw [if_neg (by omega)]
  rw [if_neg (by omega)]
  rw [if_neg (by omega)]
  rw [if_neg (by omega)]
  rw [if_neg (by omega)]
  rw [if_neg (by omega)]
  rw [if_neg (by omega)]
  rw [if_neg (by omega)]
  rw [if_pos (by omega)]
  try rfl
theorem mo_lengths {cA : Nat → ClassId} {ad : Nat → Nat} {h : MH} {j0 : Nat} {v : Int32} {j : Nat} (hne : j ≠ 16) : mct cA ad (ms_lengths h j0 v) j = mct cA ad h j := ic (fun _ => rfl) (fun h0_ => ic (fun _ => rfl) (fun h1_ => ic (fun _ => rfl) (fun h2_ => ic (fun _ => rfl) (fun h3_ => ic (fun _ => rfl) (fun h4_ => ic (fun _ => rfl) (fun h5_ => ic (fun _ => rfl) (fun h6_ => ic (fun _ => rfl) (fun h7_ => ic (fun _ => rfl) (fun h8_ => ic (fun _ => rfl) (fun h9_ => ic (fun _ => rfl) (fun h10_ => ic (fun _ => rfl) (fun h11_ => ic (fun _ => rfl) (fun h12_ => ic (fun _ => rfl) (fun h13_ => ic (fun _ => rfl) (fun h14_ => ic (fun _ => rfl) (fun h15_ => ic (fun hc => absurd hc hne) (fun _ => rfl)))))))))))))))))
theorem me_lengths {cA : Nat → ClassId} {ad : Nat → Nat} {h : MH} {j0 : Nat} {v : Int32} : mct cA ad (ms_lengths h j0 v) (16) = .inl (cA 0, 30, .inl (va_up (mh_lengths h) j0 v)) := by
  unfold mct
  rw [if_neg (by omega)]
  rw [if_neg (by omega)]
  rw [if_neg (by omega)]
  rw [if_neg (by omega)]
  rw [if_neg (by omega)]
  rw [if_neg (by omega)]
  rw [if_neg (by omega)]
  rw [if_neg (by omega)]
  rw [if_neg (by omega)]
  rw [if_neg (by omega)]
  rw [if_neg (by omega)]
  rw [if_neg (by omega)]
  rw [if_neg (by omega)]
  rw [if_neg (by omega)]
  rw [if_neg (by omega)]
  rw [if_neg (by omega)]
  rw [if_pos (by omega)]
  try rfl
theorem mo_behind {cA : Nat → ClassId} {ad : Nat → Nat} {h : MH} {j0 : Nat} {v : Int32} {j : Nat} (hne : j ≠ 17) : mct cA ad (ms_behind h j0 v) j = mct cA ad h j := ic (fun _ => rfl) (fun h0_ => ic (fun _ => rfl) (fun h1_ => ic (fun _ => rfl) (fun h2_ => ic (fun _ => rfl) (fun h3_ => ic (fun _ => rfl) (fun h4_ => ic (fun _ => rfl) (fun h5_ => ic (fun _ => rfl) (fun h6_ => ic (fun _ => rfl) (fun h7_ => ic (fun _ => rfl) (fun h8_ => ic (fun _ => rfl) (fun h9_ => ic (fun _ => rfl) (fun h10_ => ic (fun _ => rfl) (fun h11_ => ic (fun _ => rfl) (fun h12_ => ic (fun _ => rfl) (fun h13_ => ic (fun _ => rfl) (fun h14_ => ic (fun _ => rfl) (fun h15_ => ic (fun _ => rfl) (fun h16_ => ic (fun hc => absurd hc hne) (fun _ => rfl))))))))))))))))))
theorem me_behind {cA : Nat → ClassId} {ad : Nat → Nat} {h : MH} {j0 : Nat} {v : Int32} : mct cA ad (ms_behind h j0 v) (17) = .inl (cA 0, 30, .inl (va_up (mh_behind h) j0 v)) := by
  unfold mct
  rw [if_neg (by omega)]
  rw [if_neg (by omega)]
  rw [if_neg (by omega)]
  rw [if_neg (by omega)]
  rw [if_neg (by omega)]
  rw [if_neg (by omega)]
  rw [if_neg (by omega)]
  rw [if_neg (by omega)]
  rw [if_neg (by omega)]
  rw [if_neg (by omega)]
  rw [if_neg (by omega)]
  rw [if_neg (by omega)]
  rw [if_neg (by omega)]
  rw [if_neg (by omega)]
  rw [if_neg (by omega)]
  rw [if_neg (by omega)]
  rw [if_neg (by omega)]
  rw [if_pos (by omega)]
  try rfl
theorem mo_covered {cA : Nat → ClassId} {ad : Nat → Nat} {h : MH} {j0 : Nat} {v : Int32} {j : Nat} (hne : j ≠ 18) : mct cA ad (ms_covered h j0 v) j = mct cA ad h j := ic (fun _ => rfl) (fun h0_ => ic (fun _ => rfl) (fun h1_ => ic (fun _ => rfl) (fun h2_ => ic (fun _ => rfl) (fun h3_ => ic (fun _ => rfl) (fun h4_ => ic (fun _ => rfl) (fun h5_ => ic (fun _ => rfl) (fun h6_ => ic (fun _ => rfl) (fun h7_ => ic (fun _ => rfl) (fun h8_ => ic (fun _ => rfl) (fun h9_ => ic (fun _ => rfl) (fun h10_ => ic (fun _ => rfl) (fun h11_ => ic (fun _ => rfl) (fun h12_ => ic (fun _ => rfl) (fun h13_ => ic (fun _ => rfl) (fun h14_ => ic (fun _ => rfl) (fun h15_ => ic (fun _ => rfl) (fun h16_ => ic (fun _ => rfl) (fun h17_ => ic (fun hc => absurd hc hne) (fun _ => rfl)))))))))))))))))))
theorem me_covered {cA : Nat → ClassId} {ad : Nat → Nat} {h : MH} {j0 : Nat} {v : Int32} : mct cA ad (ms_covered h j0 v) (18) = .inl (cA 2, 2880, .inl (va_up (mh_covered h) j0 v)) := by
  unfold mct
  rw [if_neg (by omega)]
  rw [if_neg (by omega)]
  rw [if_neg (by omega)]
  rw [if_neg (by omega)]
  rw [if_neg (by omega)]
  rw [if_neg (by omega)]
  rw [if_neg (by omega)]
  rw [if_neg (by omega)]
  rw [if_neg (by omega)]
  rw [if_neg (by omega)]
  rw [if_neg (by omega)]
  rw [if_neg (by omega)]
  rw [if_neg (by omega)]
  rw [if_neg (by omega)]
  rw [if_neg (by omega)]
  rw [if_neg (by omega)]
  rw [if_neg (by omega)]
  rw [if_neg (by omega)]
  rw [if_pos (by omega)]
  try rfl
theorem mo_met {cA : Nat → ClassId} {ad : Nat → Nat} {h : MH} {j0 : Nat} {v : Int32} {j : Nat} (hne : j ≠ 19) : mct cA ad (ms_met h j0 v) j = mct cA ad h j := ic (fun _ => rfl) (fun h0_ => ic (fun _ => rfl) (fun h1_ => ic (fun _ => rfl) (fun h2_ => ic (fun _ => rfl) (fun h3_ => ic (fun _ => rfl) (fun h4_ => ic (fun _ => rfl) (fun h5_ => ic (fun _ => rfl) (fun h6_ => ic (fun _ => rfl) (fun h7_ => ic (fun _ => rfl) (fun h8_ => ic (fun _ => rfl) (fun h9_ => ic (fun _ => rfl) (fun h10_ => ic (fun _ => rfl) (fun h11_ => ic (fun _ => rfl) (fun h12_ => ic (fun _ => rfl) (fun h13_ => ic (fun _ => rfl) (fun h14_ => ic (fun _ => rfl) (fun h15_ => ic (fun _ => rfl) (fun h16_ => ic (fun _ => rfl) (fun h17_ => ic (fun _ => rfl) (fun h18_ => ic (fun hc => absurd hc hne) (fun _ => rfl))))))))))))))))))))
theorem me_met {cA : Nat → ClassId} {ad : Nat → Nat} {h : MH} {j0 : Nat} {v : Int32} : mct cA ad (ms_met h j0 v) (19) = .inl (cA 2, 768, .inl (va_up (mh_met h) j0 v)) := by
  unfold mct
  rw [if_neg (by omega)]
  rw [if_neg (by omega)]
  rw [if_neg (by omega)]
  rw [if_neg (by omega)]
  rw [if_neg (by omega)]
  rw [if_neg (by omega)]
  rw [if_neg (by omega)]
  rw [if_neg (by omega)]
  rw [if_neg (by omega)]
  rw [if_neg (by omega)]
  rw [if_neg (by omega)]
  rw [if_neg (by omega)]
  rw [if_neg (by omega)]
  rw [if_neg (by omega)]
  rw [if_neg (by omega)]
  rw [if_neg (by omega)]
  rw [if_neg (by omega)]
  rw [if_neg (by omega)]
  rw [if_neg (by omega)]
  rw [if_pos (by omega)]
  try rfl
theorem mo_come {cA : Nat → ClassId} {ad : Nat → Nat} {h : MH} {j0 : Nat} {v : Int32} {j : Nat} (hne : j ≠ 20) : mct cA ad (ms_come h j0 v) j = mct cA ad h j := ic (fun _ => rfl) (fun h0_ => ic (fun _ => rfl) (fun h1_ => ic (fun _ => rfl) (fun h2_ => ic (fun _ => rfl) (fun h3_ => ic (fun _ => rfl) (fun h4_ => ic (fun _ => rfl) (fun h5_ => ic (fun _ => rfl) (fun h6_ => ic (fun _ => rfl) (fun h7_ => ic (fun _ => rfl) (fun h8_ => ic (fun _ => rfl) (fun h9_ => ic (fun _ => rfl) (fun h10_ => ic (fun _ => rfl) (fun h11_ => ic (fun _ => rfl) (fun h12_ => ic (fun _ => rfl) (fun h13_ => ic (fun _ => rfl) (fun h14_ => ic (fun _ => rfl) (fun h15_ => ic (fun _ => rfl) (fun h16_ => ic (fun _ => rfl) (fun h17_ => ic (fun _ => rfl) (fun h18_ => ic (fun _ => rfl) (fun h19_ => ic (fun hc => absurd hc hne) (fun _ => rfl)))))))))))))))))))))
theorem me_come {cA : Nat → ClassId} {ad : Nat → Nat} {h : MH} {j0 : Nat} {v : Int32} : mct cA ad (ms_come h j0 v) (20) = .inl (cA 2, 768, .inl (va_up (mh_come h) j0 v)) := by
  unfold mct
  rw [if_neg (by omega)]
  rw [if_neg (by omega)]
  rw [if_neg (by omega)]
  rw [if_neg (by omega)]
  rw [if_neg (by omega)]
  rw [if_neg (by omega)]
  rw [if_neg (by omega)]
  rw [if_neg (by omega)]
  rw [if_neg (by omega)]
  rw [if_neg (by omega)]
  rw [if_neg (by omega)]
  rw [if_neg (by omega)]
  rw [if_neg (by omega)]
  rw [if_neg (by omega)]
  rw [if_neg (by omega)]
  rw [if_neg (by omega)]
  rw [if_neg (by omega)]
  rw [if_neg (by omega)]
  rw [if_neg (by omega)]
  rw [if_neg (by omega)]
  rw [if_pos (by omega)]
  try rfl
section MR
variable {p : Program} {l : Launch} {e : Env} {R : Room} {s : State} {m : MethodId} {args : Array Value} {below : List Frame} {meth : Method} {c : Code} {H : Heap} {locs : List Loc} {cells slots : Nat} {Q : State → Prop}
variable {cc : ByteArray} {pc : Nat} {ls : Array Slot} {rest : List Value} {D : va_G} {A : Nat → Prop} {H0 : Heap} {cA : Nat → ClassId} {ad : Nat → Nat} {h : MH} {own : String} {index : Nat}
theorem mr_M (hK : va_K D mvCl (mtys cA) s) (hP : va_P D mvCl (mW cA ad h) H) : ∃ cell : Cell, H[(ad 0)]? = some cell ∧ cell.vm.isStatics = false ∧ s.vm.findClass nR_M = some cell.cls := va_recv (q := (nR_M, nT_M, 31)) hK hP rfl mw_M
theorem mg_M_fault (hx : p.tables.exec = Jvm.exec) (hb : c.code = cc) (hts : ∀ w ∈ lw_wd, w.before args s = true) (hown : s.vm.findClass own = some m.cls) (hK : va_K D mvCl (mtys cA) s) (hP : va_P D mvCl (mW cA ad h) H) (hlink : (Cond.fieldLink own index "DrawnPathsModel" "fault" "I").before args s = true) (hdg : decode cc pc = .ok (.getfield index, 3)) (kk : W p l e R s m args below meth c H locs cells slots Q (F0 m (pc + 3) ls (.int (mh_vfault h) :: rest))) : W p l e R s m args below meth c H locs cells slots Q (F0 m pc ls (.ref (ad 0) :: rest)) :=
  va_get (ci := 0) (v := .int (mh_vfault h)) (C := nR_M) (T := nT_M) (N := 31) hx hb hts nu_M hown hK hP 0 mw_M rfl 0 (by decide) hlink (fun _ h9 => h9) rfl hdg kk
theorem mp_M_fault (hx : p.tables.exec = Jvm.exec) (hb : c.code = cc) (hts : ∀ w ∈ lw_wd, w.before args s = true) (hown : s.vm.findClass own = some m.cls) (hK : va_K D mvCl (mtys cA) s) (hD : wdD 21 A ad) (hP : va_P D mvCl (mW cA ad h) H) (hS : va_S A H0 H locs) (hlink : (Cond.fieldLink own index "DrawnPathsModel" "fault" "I").before args s = true) (hdg : decode cc pc = .ok (.putfield index, 3)) {v : Int32} (kk : ∀ (H1 : Heap) (locs1 : List Loc), va_P D mvCl (mW cA ad (ms_vfault h v)) H1 → va_S A H0 H1 locs1 → W p l e R s m args below meth c H1 locs1 cells slots Q (F0 m (pc + 3) ls rest)) : W p l e R s m args below meth c H locs cells slots Q (F0 m pc ls (.int v :: .ref (ad 0) :: rest)) :=
  va_put (ci := 0) (v := .int v) (ty := .int) (C := nR_M) (T := nT_M) (N := 31) hx hb hts nu_M nY_M nY_M_ok nN_M hown hK hP (hD _) hS 0 mw_M rfl 0 (by decide) hlink (fun _ h9 => h9) rfl (by decide +kernel) rfl rfl (Nat.le_of_ble_eq_true rfl) hdg (fun H1 locs1 hP1 _ hS1 => kk H1 locs1 (va_P_eq (wdG_set (ct' := mct cA ad (ms_vfault h v)) (by first | decide | omega) (by intro j9 hj9 hne; exact mo_vfault hne) (by exact me_vfault)) hP1) hS1)
theorem mg_M_field (hx : p.tables.exec = Jvm.exec) (hb : c.code = cc) (hts : ∀ w ∈ lw_wd, w.before args s = true) (hown : s.vm.findClass own = some m.cls) (hK : va_K D mvCl (mtys cA) s) (hP : va_P D mvCl (mW cA ad h) H) (hlink : (Cond.fieldLink own index "DrawnPathsModel" "field" "[I").before args s = true) (hdg : decode cc pc = .ok (.getfield index, 3)) (kk : W p l e R s m args below meth c H locs cells slots Q (F0 m (pc + 3) ls (.ref (ad 1) :: rest))) : W p l e R s m args below meth c H locs cells slots Q (F0 m pc ls (.ref (ad 0) :: rest)) :=
  va_get (ci := 0) (v := .ref (ad 1)) (C := nR_M) (T := nT_M) (N := 31) hx hb hts nu_M hown hK hP 0 mw_M rfl 1 (by decide) hlink (fun _ h9 => h9) rfl hdg kk
theorem mg_M_typed (hx : p.tables.exec = Jvm.exec) (hb : c.code = cc) (hts : ∀ w ∈ lw_wd, w.before args s = true) (hown : s.vm.findClass own = some m.cls) (hK : va_K D mvCl (mtys cA) s) (hP : va_P D mvCl (mW cA ad h) H) (hlink : (Cond.fieldLink own index "DrawnPathsModel" "typed" "I").before args s = true) (hdg : decode cc pc = .ok (.getfield index, 3)) (kk : W p l e R s m args below meth c H locs cells slots Q (F0 m (pc + 3) ls (.int (mh_vtyped h) :: rest))) : W p l e R s m args below meth c H locs cells slots Q (F0 m pc ls (.ref (ad 0) :: rest)) :=
  va_get (ci := 0) (v := .int (mh_vtyped h)) (C := nR_M) (T := nT_M) (N := 31) hx hb hts nu_M hown hK hP 0 mw_M rfl 2 (by decide) hlink (fun _ h9 => h9) rfl hdg kk
theorem mp_M_typed (hx : p.tables.exec = Jvm.exec) (hb : c.code = cc) (hts : ∀ w ∈ lw_wd, w.before args s = true) (hown : s.vm.findClass own = some m.cls) (hK : va_K D mvCl (mtys cA) s) (hD : wdD 21 A ad) (hP : va_P D mvCl (mW cA ad h) H) (hS : va_S A H0 H locs) (hlink : (Cond.fieldLink own index "DrawnPathsModel" "typed" "I").before args s = true) (hdg : decode cc pc = .ok (.putfield index, 3)) {v : Int32} (kk : ∀ (H1 : Heap) (locs1 : List Loc), va_P D mvCl (mW cA ad (ms_vtyped h v)) H1 → va_S A H0 H1 locs1 → W p l e R s m args below meth c H1 locs1 cells slots Q (F0 m (pc + 3) ls rest)) : W p l e R s m args below meth c H locs cells slots Q (F0 m pc ls (.int v :: .ref (ad 0) :: rest)) :=
  va_put (ci := 0) (v := .int v) (ty := .int) (C := nR_M) (T := nT_M) (N := 31) hx hb hts nu_M nY_M nY_M_ok nN_M hown hK hP (hD _) hS 0 mw_M rfl 2 (by decide) hlink (fun _ h9 => h9) rfl (by decide +kernel) rfl rfl (Nat.le_of_ble_eq_true rfl) hdg (fun H1 locs1 hP1 _ hS1 => kk H1 locs1 (va_P_eq (wdG_set (ct' := mct cA ad (ms_vtyped h v)) (by first | decide | omega) (by intro j9 hj9 hne; exact mo_vtyped hne) (by exact me_vtyped)) hP1) hS1)
theorem mg_M_text (hx : p.tables.exec = Jvm.exec) (hb : c.code = cc) (hts : ∀ w ∈ lw_wd, w.before args s = true) (hown : s.vm.findClass own = some m.cls) (hK : va_K D mvCl (mtys cA) s) (hP : va_P D mvCl (mW cA ad h) H) (hlink : (Cond.fieldLink own index "DrawnPathsModel" "text" "[I").before args s = true) (hdg : decode cc pc = .ok (.getfield index, 3)) (kk : W p l e R s m args below meth c H locs cells slots Q (F0 m (pc + 3) ls (.ref (ad 2) :: rest))) : W p l e R s m args below meth c H locs cells slots Q (F0 m pc ls (.ref (ad 0) :: rest)) :=
  va_get (ci := 0) (v := .ref (ad 2)) (C := nR_M) (T := nT_M) (N := 31) hx hb hts nu_M hown hK hP 0 mw_M rfl 3 (by decide) hlink (fun _ h9 => h9) rfl hdg kk
theorem mg_M_inputs (hx : p.tables.exec = Jvm.exec) (hb : c.code = cc) (hts : ∀ w ∈ lw_wd, w.before args s = true) (hown : s.vm.findClass own = some m.cls) (hK : va_K D mvCl (mtys cA) s) (hP : va_P D mvCl (mW cA ad h) H) (hlink : (Cond.fieldLink own index "DrawnPathsModel" "inputs" "I").before args s = true) (hdg : decode cc pc = .ok (.getfield index, 3)) (kk : W p l e R s m args below meth c H locs cells slots Q (F0 m (pc + 3) ls (.int (mh_vinputs h) :: rest))) : W p l e R s m args below meth c H locs cells slots Q (F0 m pc ls (.ref (ad 0) :: rest)) :=
  va_get (ci := 0) (v := .int (mh_vinputs h)) (C := nR_M) (T := nT_M) (N := 31) hx hb hts nu_M hown hK hP 0 mw_M rfl 4 (by decide) hlink (fun _ h9 => h9) rfl hdg kk
theorem mp_M_inputs (hx : p.tables.exec = Jvm.exec) (hb : c.code = cc) (hts : ∀ w ∈ lw_wd, w.before args s = true) (hown : s.vm.findClass own = some m.cls) (hK : va_K D mvCl (mtys cA) s) (hD : wdD 21 A ad) (hP : va_P D mvCl (mW cA ad h) H) (hS : va_S A H0 H locs) (hlink : (Cond.fieldLink own index "DrawnPathsModel" "inputs" "I").before args s = true) (hdg : decode cc pc = .ok (.putfield index, 3)) {v : Int32} (kk : ∀ (H1 : Heap) (locs1 : List Loc), va_P D mvCl (mW cA ad (ms_vinputs h v)) H1 → va_S A H0 H1 locs1 → W p l e R s m args below meth c H1 locs1 cells slots Q (F0 m (pc + 3) ls rest)) : W p l e R s m args below meth c H locs cells slots Q (F0 m pc ls (.int v :: .ref (ad 0) :: rest)) :=
  va_put (ci := 0) (v := .int v) (ty := .int) (C := nR_M) (T := nT_M) (N := 31) hx hb hts nu_M nY_M nY_M_ok nN_M hown hK hP (hD _) hS 0 mw_M rfl 4 (by decide) hlink (fun _ h9 => h9) rfl (by decide +kernel) rfl rfl (Nat.le_of_ble_eq_true rfl) hdg (fun H1 locs1 hP1 _ hS1 => kk H1 locs1 (va_P_eq (wdG_set (ct' := mct cA ad (ms_vinputs h v)) (by first | decide | omega) (by intro j9 hj9 hne; exact mo_vinputs hne) (by exact me_vinputs)) hP1) hS1)
theorem mg_M_read (hx : p.tables.exec = Jvm.exec) (hb : c.code = cc) (hts : ∀ w ∈ lw_wd, w.before args s = true) (hown : s.vm.findClass own = some m.cls) (hK : va_K D mvCl (mtys cA) s) (hP : va_P D mvCl (mW cA ad h) H) (hlink : (Cond.fieldLink own index "DrawnPathsModel" "read" "I").before args s = true) (hdg : decode cc pc = .ok (.getfield index, 3)) (kk : W p l e R s m args below meth c H locs cells slots Q (F0 m (pc + 3) ls (.int (mh_vread h) :: rest))) : W p l e R s m args below meth c H locs cells slots Q (F0 m pc ls (.ref (ad 0) :: rest)) :=
  va_get (ci := 0) (v := .int (mh_vread h)) (C := nR_M) (T := nT_M) (N := 31) hx hb hts nu_M hown hK hP 0 mw_M rfl 5 (by decide) hlink (fun _ h9 => h9) rfl hdg kk
theorem mp_M_read (hx : p.tables.exec = Jvm.exec) (hb : c.code = cc) (hts : ∀ w ∈ lw_wd, w.before args s = true) (hown : s.vm.findClass own = some m.cls) (hK : va_K D mvCl (mtys cA) s) (hD : wdD 21 A ad) (hP : va_P D mvCl (mW cA ad h) H) (hS : va_S A H0 H locs) (hlink : (Cond.fieldLink own index "DrawnPathsModel" "read" "I").before args s = true) (hdg : decode cc pc = .ok (.putfield index, 3)) {v : Int32} (kk : ∀ (H1 : Heap) (locs1 : List Loc), va_P D mvCl (mW cA ad (ms_vread h v)) H1 → va_S A H0 H1 locs1 → W p l e R s m args below meth c H1 locs1 cells slots Q (F0 m (pc + 3) ls rest)) : W p l e R s m args below meth c H locs cells slots Q (F0 m pc ls (.int v :: .ref (ad 0) :: rest)) :=
  va_put (ci := 0) (v := .int v) (ty := .int) (C := nR_M) (T := nT_M) (N := 31) hx hb hts nu_M nY_M nY_M_ok nN_M hown hK hP (hD _) hS 0 mw_M rfl 5 (by decide) hlink (fun _ h9 => h9) rfl (by decide +kernel) rfl rfl (Nat.le_of_ble_eq_true rfl) hdg (fun H1 locs1 hP1 _ hS1 => kk H1 locs1 (va_P_eq (wdG_set (ct' := mct cA ad (ms_vread h v)) (by first | decide | omega) (by intro j9 hj9 hne; exact mo_vread hne) (by exact me_vread)) hP1) hS1)
theorem mg_M_input (hx : p.tables.exec = Jvm.exec) (hb : c.code = cc) (hts : ∀ w ∈ lw_wd, w.before args s = true) (hown : s.vm.findClass own = some m.cls) (hK : va_K D mvCl (mtys cA) s) (hP : va_P D mvCl (mW cA ad h) H) (hlink : (Cond.fieldLink own index "DrawnPathsModel" "input" "[J").before args s = true) (hdg : decode cc pc = .ok (.getfield index, 3)) (kk : W p l e R s m args below meth c H locs cells slots Q (F0 m (pc + 3) ls (.ref (ad 3) :: rest))) : W p l e R s m args below meth c H locs cells slots Q (F0 m pc ls (.ref (ad 0) :: rest)) :=
  va_get (ci := 0) (v := .ref (ad 3)) (C := nR_M) (T := nT_M) (N := 31) hx hb hts nu_M hown hK hP 0 mw_M rfl 6 (by decide) hlink (fun _ h9 => h9) rfl hdg kk
theorem mg_M_shown (hx : p.tables.exec = Jvm.exec) (hb : c.code = cc) (hts : ∀ w ∈ lw_wd, w.before args s = true) (hown : s.vm.findClass own = some m.cls) (hK : va_K D mvCl (mtys cA) s) (hP : va_P D mvCl (mW cA ad h) H) (hlink : (Cond.fieldLink own index "DrawnPathsModel" "shown" "I").before args s = true) (hdg : decode cc pc = .ok (.getfield index, 3)) (kk : W p l e R s m args below meth c H locs cells slots Q (F0 m (pc + 3) ls (.int (mh_vshown h) :: rest))) : W p l e R s m args below meth c H locs cells slots Q (F0 m pc ls (.ref (ad 0) :: rest)) :=
  va_get (ci := 0) (v := .int (mh_vshown h)) (C := nR_M) (T := nT_M) (N := 31) hx hb hts nu_M hown hK hP 0 mw_M rfl 7 (by decide) hlink (fun _ h9 => h9) rfl hdg kk
theorem mp_M_shown (hx : p.tables.exec = Jvm.exec) (hb : c.code = cc) (hts : ∀ w ∈ lw_wd, w.before args s = true) (hown : s.vm.findClass own = some m.cls) (hK : va_K D mvCl (mtys cA) s) (hD : wdD 21 A ad) (hP : va_P D mvCl (mW cA ad h) H) (hS : va_S A H0 H locs) (hlink : (Cond.fieldLink own index "DrawnPathsModel" "shown" "I").before args s = true) (hdg : decode cc pc = .ok (.putfield index, 3)) {v : Int32} (kk : ∀ (H1 : Heap) (locs1 : List Loc), va_P D mvCl (mW cA ad (ms_vshown h v)) H1 → va_S A H0 H1 locs1 → W p l e R s m args below meth c H1 locs1 cells slots Q (F0 m (pc + 3) ls rest)) : W p l e R s m args below meth c H locs cells slots Q (F0 m pc ls (.int v :: .ref (ad 0) :: rest)) :=
  va_put (ci := 0) (v := .int v) (ty := .int) (C := nR_M) (T := nT_M) (N := 31) hx hb hts nu_M nY_M nY_M_ok nN_M hown hK hP (hD _) hS 0 mw_M rfl 7 (by decide) hlink (fun _ h9 => h9) rfl (by decide +kernel) rfl rfl (Nat.le_of_ble_eq_true rfl) hdg (fun H1 locs1 hP1 _ hS1 => kk H1 locs1 (va_P_eq (wdG_set (ct' := mct cA ad (ms_vshown h v)) (by first | decide | omega) (by intro j9 hj9 hne; exact mo_vshown hne) (by exact me_vshown)) hP1) hS1)
theorem mg_M_output (hx : p.tables.exec = Jvm.exec) (hb : c.code = cc) (hts : ∀ w ∈ lw_wd, w.before args s = true) (hown : s.vm.findClass own = some m.cls) (hK : va_K D mvCl (mtys cA) s) (hP : va_P D mvCl (mW cA ad h) H) (hlink : (Cond.fieldLink own index "DrawnPathsModel" "output" "[I").before args s = true) (hdg : decode cc pc = .ok (.getfield index, 3)) (kk : W p l e R s m args below meth c H locs cells slots Q (F0 m (pc + 3) ls (.ref (ad 4) :: rest))) : W p l e R s m args below meth c H locs cells slots Q (F0 m pc ls (.ref (ad 0) :: rest)) :=
  va_get (ci := 0) (v := .ref (ad 4)) (C := nR_M) (T := nT_M) (N := 31) hx hb hts nu_M hown hK hP 0 mw_M rfl 8 (by decide) hlink (fun _ h9 => h9) rfl hdg kk
theorem mg_M_written (hx : p.tables.exec = Jvm.exec) (hb : c.code = cc) (hts : ∀ w ∈ lw_wd, w.before args s = true) (hown : s.vm.findClass own = some m.cls) (hK : va_K D mvCl (mtys cA) s) (hP : va_P D mvCl (mW cA ad h) H) (hlink : (Cond.fieldLink own index "DrawnPathsModel" "written" "I").before args s = true) (hdg : decode cc pc = .ok (.getfield index, 3)) (kk : W p l e R s m args below meth c H locs cells slots Q (F0 m (pc + 3) ls (.int (mh_vwritten h) :: rest))) : W p l e R s m args below meth c H locs cells slots Q (F0 m pc ls (.ref (ad 0) :: rest)) :=
  va_get (ci := 0) (v := .int (mh_vwritten h)) (C := nR_M) (T := nT_M) (N := 31) hx hb hts nu_M hown hK hP 0 mw_M rfl 9 (by decide) hlink (fun _ h9 => h9) rfl hdg kk
theorem mp_M_written (hx : p.tables.exec = Jvm.exec) (hb : c.code = cc) (hts : ∀ w ∈ lw_wd, w.before args s = true) (hown : s.vm.findClass own = some m.cls) (hK : va_K D mvCl (mtys cA) s) (hD : wdD 21 A ad) (hP : va_P D mvCl (mW cA ad h) H) (hS : va_S A H0 H locs) (hlink : (Cond.fieldLink own index "DrawnPathsModel" "written" "I").before args s = true) (hdg : decode cc pc = .ok (.putfield index, 3)) {v : Int32} (kk : ∀ (H1 : Heap) (locs1 : List Loc), va_P D mvCl (mW cA ad (ms_vwritten h v)) H1 → va_S A H0 H1 locs1 → W p l e R s m args below meth c H1 locs1 cells slots Q (F0 m (pc + 3) ls rest)) : W p l e R s m args below meth c H locs cells slots Q (F0 m pc ls (.int v :: .ref (ad 0) :: rest)) :=
  va_put (ci := 0) (v := .int v) (ty := .int) (C := nR_M) (T := nT_M) (N := 31) hx hb hts nu_M nY_M nY_M_ok nN_M hown hK hP (hD _) hS 0 mw_M rfl 9 (by decide) hlink (fun _ h9 => h9) rfl (by decide +kernel) rfl rfl (Nat.le_of_ble_eq_true rfl) hdg (fun H1 locs1 hP1 _ hS1 => kk H1 locs1 (va_P_eq (wdG_set (ct' := mct cA ad (ms_vwritten h v)) (by first | decide | omega) (by intro j9 hj9 hne; exact mo_vwritten hne) (by exact me_vwritten)) hP1) hS1)
theorem mg_M_page (hx : p.tables.exec = Jvm.exec) (hb : c.code = cc) (hts : ∀ w ∈ lw_wd, w.before args s = true) (hown : s.vm.findClass own = some m.cls) (hK : va_K D mvCl (mtys cA) s) (hP : va_P D mvCl (mW cA ad h) H) (hlink : (Cond.fieldLink own index "DrawnPathsModel" "page" "[I").before args s = true) (hdg : decode cc pc = .ok (.getfield index, 3)) (kk : W p l e R s m args below meth c H locs cells slots Q (F0 m (pc + 3) ls (.ref (ad 5) :: rest))) : W p l e R s m args below meth c H locs cells slots Q (F0 m pc ls (.ref (ad 0) :: rest)) :=
  va_get (ci := 0) (v := .ref (ad 5)) (C := nR_M) (T := nT_M) (N := 31) hx hb hts nu_M hown hK hP 0 mw_M rfl 10 (by decide) hlink (fun _ h9 => h9) rfl hdg kk
theorem mg_M_digits (hx : p.tables.exec = Jvm.exec) (hb : c.code = cc) (hts : ∀ w ∈ lw_wd, w.before args s = true) (hown : s.vm.findClass own = some m.cls) (hK : va_K D mvCl (mtys cA) s) (hP : va_P D mvCl (mW cA ad h) H) (hlink : (Cond.fieldLink own index "DrawnPathsModel" "digits" "[I").before args s = true) (hdg : decode cc pc = .ok (.getfield index, 3)) (kk : W p l e R s m args below meth c H locs cells slots Q (F0 m (pc + 3) ls (.ref (ad 6) :: rest))) : W p l e R s m args below meth c H locs cells slots Q (F0 m pc ls (.ref (ad 0) :: rest)) :=
  va_get (ci := 0) (v := .ref (ad 6)) (C := nR_M) (T := nT_M) (N := 31) hx hb hts nu_M hown hK hP 0 mw_M rfl 11 (by decide) hlink (fun _ h9 => h9) rfl hdg kk
theorem mg_M_pointers (hx : p.tables.exec = Jvm.exec) (hb : c.code = cc) (hts : ∀ w ∈ lw_wd, w.before args s = true) (hown : s.vm.findClass own = some m.cls) (hK : va_K D mvCl (mtys cA) s) (hP : va_P D mvCl (mW cA ad h) H) (hlink : (Cond.fieldLink own index "DrawnPathsModel" "pointers" "I").before args s = true) (hdg : decode cc pc = .ok (.getfield index, 3)) (kk : W p l e R s m args below meth c H locs cells slots Q (F0 m (pc + 3) ls (.int (mh_vpointers h) :: rest))) : W p l e R s m args below meth c H locs cells slots Q (F0 m pc ls (.ref (ad 0) :: rest)) :=
  va_get (ci := 0) (v := .int (mh_vpointers h)) (C := nR_M) (T := nT_M) (N := 31) hx hb hts nu_M hown hK hP 0 mw_M rfl 12 (by decide) hlink (fun _ h9 => h9) rfl hdg kk
theorem mp_M_pointers (hx : p.tables.exec = Jvm.exec) (hb : c.code = cc) (hts : ∀ w ∈ lw_wd, w.before args s = true) (hown : s.vm.findClass own = some m.cls) (hK : va_K D mvCl (mtys cA) s) (hD : wdD 21 A ad) (hP : va_P D mvCl (mW cA ad h) H) (hS : va_S A H0 H locs) (hlink : (Cond.fieldLink own index "DrawnPathsModel" "pointers" "I").before args s = true) (hdg : decode cc pc = .ok (.putfield index, 3)) {v : Int32} (kk : ∀ (H1 : Heap) (locs1 : List Loc), va_P D mvCl (mW cA ad (ms_vpointers h v)) H1 → va_S A H0 H1 locs1 → W p l e R s m args below meth c H1 locs1 cells slots Q (F0 m (pc + 3) ls rest)) : W p l e R s m args below meth c H locs cells slots Q (F0 m pc ls (.int v :: .ref (ad 0) :: rest)) :=
  va_put (ci := 0) (v := .int v) (ty := .int) (C := nR_M) (T := nT_M) (N := 31) hx hb hts nu_M nY_M nY_M_ok nN_M hown hK hP (hD _) hS 0 mw_M rfl 12 (by decide) hlink (fun _ h9 => h9) rfl (by decide +kernel) rfl rfl (Nat.le_of_ble_eq_true rfl) hdg (fun H1 locs1 hP1 _ hS1 => kk H1 locs1 (va_P_eq (wdG_set (ct' := mct cA ad (ms_vpointers h v)) (by first | decide | omega) (by intro j9 hj9 hne; exact mo_vpointers hne) (by exact me_vpointers)) hP1) hS1)
theorem mg_M_lives (hx : p.tables.exec = Jvm.exec) (hb : c.code = cc) (hts : ∀ w ∈ lw_wd, w.before args s = true) (hown : s.vm.findClass own = some m.cls) (hK : va_K D mvCl (mtys cA) s) (hP : va_P D mvCl (mW cA ad h) H) (hlink : (Cond.fieldLink own index "DrawnPathsModel" "lives" "[Z").before args s = true) (hdg : decode cc pc = .ok (.getfield index, 3)) (kk : W p l e R s m args below meth c H locs cells slots Q (F0 m (pc + 3) ls (.ref (ad 7) :: rest))) : W p l e R s m args below meth c H locs cells slots Q (F0 m pc ls (.ref (ad 0) :: rest)) :=
  va_get (ci := 0) (v := .ref (ad 7)) (C := nR_M) (T := nT_M) (N := 31) hx hb hts nu_M hown hK hP 0 mw_M rfl 13 (by decide) hlink (fun _ h9 => h9) rfl hdg kk
theorem mg_M_place (hx : p.tables.exec = Jvm.exec) (hb : c.code = cc) (hts : ∀ w ∈ lw_wd, w.before args s = true) (hown : s.vm.findClass own = some m.cls) (hK : va_K D mvCl (mtys cA) s) (hP : va_P D mvCl (mW cA ad h) H) (hlink : (Cond.fieldLink own index "DrawnPathsModel" "place" "[I").before args s = true) (hdg : decode cc pc = .ok (.getfield index, 3)) (kk : W p l e R s m args below meth c H locs cells slots Q (F0 m (pc + 3) ls (.ref (ad 8) :: rest))) : W p l e R s m args below meth c H locs cells slots Q (F0 m pc ls (.ref (ad 0) :: rest)) :=
  va_get (ci := 0) (v := .ref (ad 8)) (C := nR_M) (T := nT_M) (N := 31) hx hb hts nu_M hown hK hP 0 mw_M rfl 14 (by decide) hlink (fun _ h9 => h9) rfl hdg kk
theorem mg_M_direction (hx : p.tables.exec = Jvm.exec) (hb : c.code = cc) (hts : ∀ w ∈ lw_wd, w.before args s = true) (hown : s.vm.findClass own = some m.cls) (hK : va_K D mvCl (mtys cA) s) (hP : va_P D mvCl (mW cA ad h) H) (hlink : (Cond.fieldLink own index "DrawnPathsModel" "direction" "[I").before args s = true) (hdg : decode cc pc = .ok (.getfield index, 3)) (kk : W p l e R s m args below meth c H locs cells slots Q (F0 m (pc + 3) ls (.ref (ad 9) :: rest))) : W p l e R s m args below meth c H locs cells slots Q (F0 m pc ls (.ref (ad 0) :: rest)) :=
  va_get (ci := 0) (v := .ref (ad 9)) (C := nR_M) (T := nT_M) (N := 31) hx hb hts nu_M hown hK hP 0 mw_M rfl 15 (by decide) hlink (fun _ h9 => h9) rfl hdg kk
theorem mg_M_quoted (hx : p.tables.exec = Jvm.exec) (hb : c.code = cc) (hts : ∀ w ∈ lw_wd, w.before args s = true) (hown : s.vm.findClass own = some m.cls) (hK : va_K D mvCl (mtys cA) s) (hP : va_P D mvCl (mW cA ad h) H) (hlink : (Cond.fieldLink own index "DrawnPathsModel" "quoted" "[Z").before args s = true) (hdg : decode cc pc = .ok (.getfield index, 3)) (kk : W p l e R s m args below meth c H locs cells slots Q (F0 m (pc + 3) ls (.ref (ad 10) :: rest))) : W p l e R s m args below meth c H locs cells slots Q (F0 m pc ls (.ref (ad 0) :: rest)) :=
  va_get (ci := 0) (v := .ref (ad 10)) (C := nR_M) (T := nT_M) (N := 31) hx hb hts nu_M hown hK hP 0 mw_M rfl 16 (by decide) hlink (fun _ h9 => h9) rfl hdg kk
theorem mg_M_sizes (hx : p.tables.exec = Jvm.exec) (hb : c.code = cc) (hts : ∀ w ∈ lw_wd, w.before args s = true) (hown : s.vm.findClass own = some m.cls) (hK : va_K D mvCl (mtys cA) s) (hP : va_P D mvCl (mW cA ad h) H) (hlink : (Cond.fieldLink own index "DrawnPathsModel" "sizes" "[I").before args s = true) (hdg : decode cc pc = .ok (.getfield index, 3)) (kk : W p l e R s m args below meth c H locs cells slots Q (F0 m (pc + 3) ls (.ref (ad 11) :: rest))) : W p l e R s m args below meth c H locs cells slots Q (F0 m pc ls (.ref (ad 0) :: rest)) :=
  va_get (ci := 0) (v := .ref (ad 11)) (C := nR_M) (T := nT_M) (N := 31) hx hb hts nu_M hown hK hP 0 mw_M rfl 17 (by decide) hlink (fun _ h9 => h9) rfl hdg kk
theorem mg_M_stacks (hx : p.tables.exec = Jvm.exec) (hb : c.code = cc) (hts : ∀ w ∈ lw_wd, w.before args s = true) (hown : s.vm.findClass own = some m.cls) (hK : va_K D mvCl (mtys cA) s) (hP : va_P D mvCl (mW cA ad h) H) (hlink : (Cond.fieldLink own index "DrawnPathsModel" "stacks" "[J").before args s = true) (hdg : decode cc pc = .ok (.getfield index, 3)) (kk : W p l e R s m args below meth c H locs cells slots Q (F0 m (pc + 3) ls (.ref (ad 12) :: rest))) : W p l e R s m args below meth c H locs cells slots Q (F0 m pc ls (.ref (ad 0) :: rest)) :=
  va_get (ci := 0) (v := .ref (ad 12)) (C := nR_M) (T := nT_M) (N := 31) hx hb hts nu_M hown hK hP 0 mw_M rfl 18 (by decide) hlink (fun _ h9 => h9) rfl hdg kk
theorem mg_M_returns (hx : p.tables.exec = Jvm.exec) (hb : c.code = cc) (hts : ∀ w ∈ lw_wd, w.before args s = true) (hown : s.vm.findClass own = some m.cls) (hK : va_K D mvCl (mtys cA) s) (hP : va_P D mvCl (mW cA ad h) H) (hlink : (Cond.fieldLink own index "DrawnPathsModel" "returns" "[I").before args s = true) (hdg : decode cc pc = .ok (.getfield index, 3)) (kk : W p l e R s m args below meth c H locs cells slots Q (F0 m (pc + 3) ls (.ref (ad 13) :: rest))) : W p l e R s m args below meth c H locs cells slots Q (F0 m pc ls (.ref (ad 0) :: rest)) :=
  va_get (ci := 0) (v := .ref (ad 13)) (C := nR_M) (T := nT_M) (N := 31) hx hb hts nu_M hown hK hP 0 mw_M rfl 19 (by decide) hlink (fun _ h9 => h9) rfl hdg kk
theorem mg_M_back (hx : p.tables.exec = Jvm.exec) (hb : c.code = cc) (hts : ∀ w ∈ lw_wd, w.before args s = true) (hown : s.vm.findClass own = some m.cls) (hK : va_K D mvCl (mtys cA) s) (hP : va_P D mvCl (mW cA ad h) H) (hlink : (Cond.fieldLink own index "DrawnPathsModel" "back" "[I").before args s = true) (hdg : decode cc pc = .ok (.getfield index, 3)) (kk : W p l e R s m args below meth c H locs cells slots Q (F0 m (pc + 3) ls (.ref (ad 14) :: rest))) : W p l e R s m args below meth c H locs cells slots Q (F0 m pc ls (.ref (ad 0) :: rest)) :=
  va_get (ci := 0) (v := .ref (ad 14)) (C := nR_M) (T := nT_M) (N := 31) hx hb hts nu_M hown hK hP 0 mw_M rfl 20 (by decide) hlink (fun _ h9 => h9) rfl hdg kk
theorem mg_M_stopped (hx : p.tables.exec = Jvm.exec) (hb : c.code = cc) (hts : ∀ w ∈ lw_wd, w.before args s = true) (hown : s.vm.findClass own = some m.cls) (hK : va_K D mvCl (mtys cA) s) (hP : va_P D mvCl (mW cA ad h) H) (hlink : (Cond.fieldLink own index "DrawnPathsModel" "stopped" "I").before args s = true) (hdg : decode cc pc = .ok (.getfield index, 3)) (kk : W p l e R s m args below meth c H locs cells slots Q (F0 m (pc + 3) ls (.int (mh_vstopped h) :: rest))) : W p l e R s m args below meth c H locs cells slots Q (F0 m pc ls (.ref (ad 0) :: rest)) :=
  va_get (ci := 0) (v := .int (mh_vstopped h)) (C := nR_M) (T := nT_M) (N := 31) hx hb hts nu_M hown hK hP 0 mw_M rfl 21 (by decide) hlink (fun _ h9 => h9) rfl hdg kk
theorem mp_M_stopped (hx : p.tables.exec = Jvm.exec) (hb : c.code = cc) (hts : ∀ w ∈ lw_wd, w.before args s = true) (hown : s.vm.findClass own = some m.cls) (hK : va_K D mvCl (mtys cA) s) (hD : wdD 21 A ad) (hP : va_P D mvCl (mW cA ad h) H) (hS : va_S A H0 H locs) (hlink : (Cond.fieldLink own index "DrawnPathsModel" "stopped" "I").before args s = true) (hdg : decode cc pc = .ok (.putfield index, 3)) {v : Int32} (kk : ∀ (H1 : Heap) (locs1 : List Loc), va_P D mvCl (mW cA ad (ms_vstopped h v)) H1 → va_S A H0 H1 locs1 → W p l e R s m args below meth c H1 locs1 cells slots Q (F0 m (pc + 3) ls rest)) : W p l e R s m args below meth c H locs cells slots Q (F0 m pc ls (.int v :: .ref (ad 0) :: rest)) :=
  va_put (ci := 0) (v := .int v) (ty := .int) (C := nR_M) (T := nT_M) (N := 31) hx hb hts nu_M nY_M nY_M_ok nN_M hown hK hP (hD _) hS 0 mw_M rfl 21 (by decide) hlink (fun _ h9 => h9) rfl (by decide +kernel) rfl rfl (Nat.le_of_ble_eq_true rfl) hdg (fun H1 locs1 hP1 _ hS1 => kk H1 locs1 (va_P_eq (wdG_set (ct' := mct cA ad (ms_vstopped h v)) (by first | decide | omega) (by intro j9 hj9 hne; exact mo_vstopped hne) (by exact me_vstopped)) hP1) hS1)
theorem mg_M_steps (hx : p.tables.exec = Jvm.exec) (hb : c.code = cc) (hts : ∀ w ∈ lw_wd, w.before args s = true) (hown : s.vm.findClass own = some m.cls) (hK : va_K D mvCl (mtys cA) s) (hP : va_P D mvCl (mW cA ad h) H) (hlink : (Cond.fieldLink own index "DrawnPathsModel" "steps" "I").before args s = true) (hdg : decode cc pc = .ok (.getfield index, 3)) (kk : W p l e R s m args below meth c H locs cells slots Q (F0 m (pc + 3) ls (.int (mh_vsteps h) :: rest))) : W p l e R s m args below meth c H locs cells slots Q (F0 m pc ls (.ref (ad 0) :: rest)) :=
  va_get (ci := 0) (v := .int (mh_vsteps h)) (C := nR_M) (T := nT_M) (N := 31) hx hb hts nu_M hown hK hP 0 mw_M rfl 22 (by decide) hlink (fun _ h9 => h9) rfl hdg kk
theorem mp_M_steps (hx : p.tables.exec = Jvm.exec) (hb : c.code = cc) (hts : ∀ w ∈ lw_wd, w.before args s = true) (hown : s.vm.findClass own = some m.cls) (hK : va_K D mvCl (mtys cA) s) (hD : wdD 21 A ad) (hP : va_P D mvCl (mW cA ad h) H) (hS : va_S A H0 H locs) (hlink : (Cond.fieldLink own index "DrawnPathsModel" "steps" "I").before args s = true) (hdg : decode cc pc = .ok (.putfield index, 3)) {v : Int32} (kk : ∀ (H1 : Heap) (locs1 : List Loc), va_P D mvCl (mW cA ad (ms_vsteps h v)) H1 → va_S A H0 H1 locs1 → W p l e R s m args below meth c H1 locs1 cells slots Q (F0 m (pc + 3) ls rest)) : W p l e R s m args below meth c H locs cells slots Q (F0 m pc ls (.int v :: .ref (ad 0) :: rest)) :=
  va_put (ci := 0) (v := .int v) (ty := .int) (C := nR_M) (T := nT_M) (N := 31) hx hb hts nu_M nY_M nY_M_ok nN_M hown hK hP (hD _) hS 0 mw_M rfl 22 (by decide) hlink (fun _ h9 => h9) rfl (by decide +kernel) rfl rfl (Nat.le_of_ble_eq_true rfl) hdg (fun H1 locs1 hP1 _ hS1 => kk H1 locs1 (va_P_eq (wdG_set (ct' := mct cA ad (ms_vsteps h v)) (by first | decide | omega) (by intro j9 hj9 hne; exact mo_vsteps hne) (by exact me_vsteps)) hP1) hS1)
theorem mg_M_blocks (hx : p.tables.exec = Jvm.exec) (hb : c.code = cc) (hts : ∀ w ∈ lw_wd, w.before args s = true) (hown : s.vm.findClass own = some m.cls) (hK : va_K D mvCl (mtys cA) s) (hP : va_P D mvCl (mW cA ad h) H) (hlink : (Cond.fieldLink own index "DrawnPathsModel" "blocks" "I").before args s = true) (hdg : decode cc pc = .ok (.getfield index, 3)) (kk : W p l e R s m args below meth c H locs cells slots Q (F0 m (pc + 3) ls (.int (mh_vblocks h) :: rest))) : W p l e R s m args below meth c H locs cells slots Q (F0 m pc ls (.ref (ad 0) :: rest)) :=
  va_get (ci := 0) (v := .int (mh_vblocks h)) (C := nR_M) (T := nT_M) (N := 31) hx hb hts nu_M hown hK hP 0 mw_M rfl 23 (by decide) hlink (fun _ h9 => h9) rfl hdg kk
theorem mp_M_blocks (hx : p.tables.exec = Jvm.exec) (hb : c.code = cc) (hts : ∀ w ∈ lw_wd, w.before args s = true) (hown : s.vm.findClass own = some m.cls) (hK : va_K D mvCl (mtys cA) s) (hD : wdD 21 A ad) (hP : va_P D mvCl (mW cA ad h) H) (hS : va_S A H0 H locs) (hlink : (Cond.fieldLink own index "DrawnPathsModel" "blocks" "I").before args s = true) (hdg : decode cc pc = .ok (.putfield index, 3)) {v : Int32} (kk : ∀ (H1 : Heap) (locs1 : List Loc), va_P D mvCl (mW cA ad (ms_vblocks h v)) H1 → va_S A H0 H1 locs1 → W p l e R s m args below meth c H1 locs1 cells slots Q (F0 m (pc + 3) ls rest)) : W p l e R s m args below meth c H locs cells slots Q (F0 m pc ls (.int v :: .ref (ad 0) :: rest)) :=
  va_put (ci := 0) (v := .int v) (ty := .int) (C := nR_M) (T := nT_M) (N := 31) hx hb hts nu_M nY_M nY_M_ok nN_M hown hK hP (hD _) hS 0 mw_M rfl 23 (by decide) hlink (fun _ h9 => h9) rfl (by decide +kernel) rfl rfl (Nat.le_of_ble_eq_true rfl) hdg (fun H1 locs1 hP1 _ hS1 => kk H1 locs1 (va_P_eq (wdG_set (ct' := mct cA ad (ms_vblocks h v)) (by first | decide | omega) (by intro j9 hj9 hne; exact mo_vblocks hne) (by exact me_vblocks)) hP1) hS1)
theorem mg_M_drops (hx : p.tables.exec = Jvm.exec) (hb : c.code = cc) (hts : ∀ w ∈ lw_wd, w.before args s = true) (hown : s.vm.findClass own = some m.cls) (hK : va_K D mvCl (mtys cA) s) (hP : va_P D mvCl (mW cA ad h) H) (hlink : (Cond.fieldLink own index "DrawnPathsModel" "drops" "I").before args s = true) (hdg : decode cc pc = .ok (.getfield index, 3)) (kk : W p l e R s m args below meth c H locs cells slots Q (F0 m (pc + 3) ls (.int (mh_vdrops h) :: rest))) : W p l e R s m args below meth c H locs cells slots Q (F0 m pc ls (.ref (ad 0) :: rest)) :=
  va_get (ci := 0) (v := .int (mh_vdrops h)) (C := nR_M) (T := nT_M) (N := 31) hx hb hts nu_M hown hK hP 0 mw_M rfl 24 (by decide) hlink (fun _ h9 => h9) rfl hdg kk
theorem mp_M_drops (hx : p.tables.exec = Jvm.exec) (hb : c.code = cc) (hts : ∀ w ∈ lw_wd, w.before args s = true) (hown : s.vm.findClass own = some m.cls) (hK : va_K D mvCl (mtys cA) s) (hD : wdD 21 A ad) (hP : va_P D mvCl (mW cA ad h) H) (hS : va_S A H0 H locs) (hlink : (Cond.fieldLink own index "DrawnPathsModel" "drops" "I").before args s = true) (hdg : decode cc pc = .ok (.putfield index, 3)) {v : Int32} (kk : ∀ (H1 : Heap) (locs1 : List Loc), va_P D mvCl (mW cA ad (ms_vdrops h v)) H1 → va_S A H0 H1 locs1 → W p l e R s m args below meth c H1 locs1 cells slots Q (F0 m (pc + 3) ls rest)) : W p l e R s m args below meth c H locs cells slots Q (F0 m pc ls (.int v :: .ref (ad 0) :: rest)) :=
  va_put (ci := 0) (v := .int v) (ty := .int) (C := nR_M) (T := nT_M) (N := 31) hx hb hts nu_M nY_M nY_M_ok nN_M hown hK hP (hD _) hS 0 mw_M rfl 24 (by decide) hlink (fun _ h9 => h9) rfl (by decide +kernel) rfl rfl (Nat.le_of_ble_eq_true rfl) hdg (fun H1 locs1 hP1 _ hS1 => kk H1 locs1 (va_P_eq (wdG_set (ct' := mct cA ad (ms_vdrops h v)) (by first | decide | omega) (by intro j9 hj9 hne; exact mo_vdrops hne) (by exact me_vdrops)) hP1) hS1)
theorem mg_M_begins (hx : p.tables.exec = Jvm.exec) (hb : c.code = cc) (hts : ∀ w ∈ lw_wd, w.before args s = true) (hown : s.vm.findClass own = some m.cls) (hK : va_K D mvCl (mtys cA) s) (hP : va_P D mvCl (mW cA ad h) H) (hlink : (Cond.fieldLink own index "DrawnPathsModel" "begins" "[I").before args s = true) (hdg : decode cc pc = .ok (.getfield index, 3)) (kk : W p l e R s m args below meth c H locs cells slots Q (F0 m (pc + 3) ls (.ref (ad 15) :: rest))) : W p l e R s m args below meth c H locs cells slots Q (F0 m pc ls (.ref (ad 0) :: rest)) :=
  va_get (ci := 0) (v := .ref (ad 15)) (C := nR_M) (T := nT_M) (N := 31) hx hb hts nu_M hown hK hP 0 mw_M rfl 25 (by decide) hlink (fun _ h9 => h9) rfl hdg kk
theorem mg_M_lengths (hx : p.tables.exec = Jvm.exec) (hb : c.code = cc) (hts : ∀ w ∈ lw_wd, w.before args s = true) (hown : s.vm.findClass own = some m.cls) (hK : va_K D mvCl (mtys cA) s) (hP : va_P D mvCl (mW cA ad h) H) (hlink : (Cond.fieldLink own index "DrawnPathsModel" "lengths" "[I").before args s = true) (hdg : decode cc pc = .ok (.getfield index, 3)) (kk : W p l e R s m args below meth c H locs cells slots Q (F0 m (pc + 3) ls (.ref (ad 16) :: rest))) : W p l e R s m args below meth c H locs cells slots Q (F0 m pc ls (.ref (ad 0) :: rest)) :=
  va_get (ci := 0) (v := .ref (ad 16)) (C := nR_M) (T := nT_M) (N := 31) hx hb hts nu_M hown hK hP 0 mw_M rfl 26 (by decide) hlink (fun _ h9 => h9) rfl hdg kk
theorem mg_M_behind (hx : p.tables.exec = Jvm.exec) (hb : c.code = cc) (hts : ∀ w ∈ lw_wd, w.before args s = true) (hown : s.vm.findClass own = some m.cls) (hK : va_K D mvCl (mtys cA) s) (hP : va_P D mvCl (mW cA ad h) H) (hlink : (Cond.fieldLink own index "DrawnPathsModel" "behind" "[I").before args s = true) (hdg : decode cc pc = .ok (.getfield index, 3)) (kk : W p l e R s m args below meth c H locs cells slots Q (F0 m (pc + 3) ls (.ref (ad 17) :: rest))) : W p l e R s m args below meth c H locs cells slots Q (F0 m pc ls (.ref (ad 0) :: rest)) :=
  va_get (ci := 0) (v := .ref (ad 17)) (C := nR_M) (T := nT_M) (N := 31) hx hb hts nu_M hown hK hP 0 mw_M rfl 27 (by decide) hlink (fun _ h9 => h9) rfl hdg kk
theorem mg_M_covered (hx : p.tables.exec = Jvm.exec) (hb : c.code = cc) (hts : ∀ w ∈ lw_wd, w.before args s = true) (hown : s.vm.findClass own = some m.cls) (hK : va_K D mvCl (mtys cA) s) (hP : va_P D mvCl (mW cA ad h) H) (hlink : (Cond.fieldLink own index "DrawnPathsModel" "covered" "[Z").before args s = true) (hdg : decode cc pc = .ok (.getfield index, 3)) (kk : W p l e R s m args below meth c H locs cells slots Q (F0 m (pc + 3) ls (.ref (ad 18) :: rest))) : W p l e R s m args below meth c H locs cells slots Q (F0 m pc ls (.ref (ad 0) :: rest)) :=
  va_get (ci := 0) (v := .ref (ad 18)) (C := nR_M) (T := nT_M) (N := 31) hx hb hts nu_M hown hK hP 0 mw_M rfl 28 (by decide) hlink (fun _ h9 => h9) rfl hdg kk
theorem mg_M_met (hx : p.tables.exec = Jvm.exec) (hb : c.code = cc) (hts : ∀ w ∈ lw_wd, w.before args s = true) (hown : s.vm.findClass own = some m.cls) (hK : va_K D mvCl (mtys cA) s) (hP : va_P D mvCl (mW cA ad h) H) (hlink : (Cond.fieldLink own index "DrawnPathsModel" "met" "[Z").before args s = true) (hdg : decode cc pc = .ok (.getfield index, 3)) (kk : W p l e R s m args below meth c H locs cells slots Q (F0 m (pc + 3) ls (.ref (ad 19) :: rest))) : W p l e R s m args below meth c H locs cells slots Q (F0 m pc ls (.ref (ad 0) :: rest)) :=
  va_get (ci := 0) (v := .ref (ad 19)) (C := nR_M) (T := nT_M) (N := 31) hx hb hts nu_M hown hK hP 0 mw_M rfl 29 (by decide) hlink (fun _ h9 => h9) rfl hdg kk
theorem mg_M_come (hx : p.tables.exec = Jvm.exec) (hb : c.code = cc) (hts : ∀ w ∈ lw_wd, w.before args s = true) (hown : s.vm.findClass own = some m.cls) (hK : va_K D mvCl (mtys cA) s) (hP : va_P D mvCl (mW cA ad h) H) (hlink : (Cond.fieldLink own index "DrawnPathsModel" "come" "[Z").before args s = true) (hdg : decode cc pc = .ok (.getfield index, 3)) (kk : W p l e R s m args below meth c H locs cells slots Q (F0 m (pc + 3) ls (.ref (ad 20) :: rest))) : W p l e R s m args below meth c H locs cells slots Q (F0 m pc ls (.ref (ad 0) :: rest)) :=
  va_get (ci := 0) (v := .ref (ad 20)) (C := nR_M) (T := nT_M) (N := 31) hx hb hts nu_M hown hK hP 0 mw_M rfl 30 (by decide) hlink (fun _ h9 => h9) rfl hdg kk
theorem mal_field (hx : p.tables.exec = Jvm.exec) (hb : c.code = cc) (hK : va_K D mvCl (mtys cA) s) (hP : va_P D mvCl (mW cA ad h) H) {i : Int32} {j : Nat} (hj : gd 96 i = some j) (hdg : decode cc pc = .ok (.iaload, 1)) (kk : W p l e R s m args below meth c H locs cells slots Q (F0 m (pc + 1) ls (.int (mh_field h j) :: rest))) : W p l e R s m args below meth c H locs cells slots Q (F0 m pc ls (.int i :: .ref (ad 1) :: rest)) := by
  obtain ⟨h1, h2, -⟩ := gd_eq hj
  exact va_iald hx hb hK hP 1 0 mw_Afield rfl h1 hdg (by rw [h2]; exact kk)
theorem mas_field (hx : p.tables.exec = Jvm.exec) (hb : c.code = cc) (hK : va_K D mvCl (mtys cA) s) (hD : wdD 21 A ad) (hP : va_P D mvCl (mW cA ad h) H) (hS : va_S A H0 H locs) {i : Int32} {j : Nat} {v : Int32} (hj : gd 96 i = some j) (hdg : decode cc pc = .ok (.iastore, 1)) (kk : ∀ (H1 : Heap) (locs1 : List Loc), va_P D mvCl (mW cA ad (ms_field h j v)) H1 → va_S A H0 H1 locs1 → W p l e R s m args below meth c H1 locs1 cells slots Q (F0 m (pc + 1) ls rest)) : W p l e R s m args below meth c H locs cells slots Q (F0 m pc ls (.int v :: .int i :: .ref (ad 1) :: rest)) := by
  obtain ⟨h1, h2, -⟩ := gd_eq hj
  subst h2
  exact va_iast hx hb hK hP (hD _) hS 1 0 mw_Afield rfl h1 hdg (fun H1 locs1 hP1 _ hS1 => kk H1 locs1 (va_P_eq (wdG_set (ct' := mct cA ad (ms_field h i.toNatClampNeg v)) (by first | decide | omega) (by intro j9 hj9 hne; exact mo_field hne) (by exact me_field)) hP1) hS1)
theorem mln_field (hx : p.tables.exec = Jvm.exec) (hb : c.code = cc) (hK : va_K D mvCl (mtys cA) s) (hP : va_P D mvCl (mW cA ad h) H) (hdg : decode cc pc = .ok (.arraylength, 1)) (kk : W p l e R s m args below meth c H locs cells slots Q (F0 m (pc + 1) ls (.int (nI 96) :: rest))) : W p l e R s m args below meth c H locs cells slots Q (F0 m pc ls (.ref (ad 1) :: rest)) := va_alen hx hb hK hP 1 0 mw_Afield rfl rfl hdg kk
theorem mal_text (hx : p.tables.exec = Jvm.exec) (hb : c.code = cc) (hK : va_K D mvCl (mtys cA) s) (hP : va_P D mvCl (mW cA ad h) H) {i : Int32} {j : Nat} (hj : gd 12 i = some j) (hdg : decode cc pc = .ok (.iaload, 1)) (kk : W p l e R s m args below meth c H locs cells slots Q (F0 m (pc + 1) ls (.int (mh_text h j) :: rest))) : W p l e R s m args below meth c H locs cells slots Q (F0 m pc ls (.int i :: .ref (ad 2) :: rest)) := by
  obtain ⟨h1, h2, -⟩ := gd_eq hj
  exact va_iald hx hb hK hP 2 0 mw_Atext rfl h1 hdg (by rw [h2]; exact kk)
theorem mas_text (hx : p.tables.exec = Jvm.exec) (hb : c.code = cc) (hK : va_K D mvCl (mtys cA) s) (hD : wdD 21 A ad) (hP : va_P D mvCl (mW cA ad h) H) (hS : va_S A H0 H locs) {i : Int32} {j : Nat} {v : Int32} (hj : gd 12 i = some j) (hdg : decode cc pc = .ok (.iastore, 1)) (kk : ∀ (H1 : Heap) (locs1 : List Loc), va_P D mvCl (mW cA ad (ms_text h j v)) H1 → va_S A H0 H1 locs1 → W p l e R s m args below meth c H1 locs1 cells slots Q (F0 m (pc + 1) ls rest)) : W p l e R s m args below meth c H locs cells slots Q (F0 m pc ls (.int v :: .int i :: .ref (ad 2) :: rest)) := by
  obtain ⟨h1, h2, -⟩ := gd_eq hj
  subst h2
  exact va_iast hx hb hK hP (hD _) hS 2 0 mw_Atext rfl h1 hdg (fun H1 locs1 hP1 _ hS1 => kk H1 locs1 (va_P_eq (wdG_set (ct' := mct cA ad (ms_text h i.toNatClampNeg v)) (by first | decide | omega) (by intro j9 hj9 hne; exact mo_text hne) (by exact me_text)) hP1) hS1)
theorem mln_text (hx : p.tables.exec = Jvm.exec) (hb : c.code = cc) (hK : va_K D mvCl (mtys cA) s) (hP : va_P D mvCl (mW cA ad h) H) (hdg : decode cc pc = .ok (.arraylength, 1)) (kk : W p l e R s m args below meth c H locs cells slots Q (F0 m (pc + 1) ls (.int (nI 12) :: rest))) : W p l e R s m args below meth c H locs cells slots Q (F0 m pc ls (.ref (ad 2) :: rest)) := va_alen hx hb hK hP 2 0 mw_Atext rfl rfl hdg kk
theorem mal_input (hx : p.tables.exec = Jvm.exec) (hb : c.code = cc) (hK : va_K D mvCl (mtys cA) s) (hP : va_P D mvCl (mW cA ad h) H) {i : Int32} {j : Nat} (hj : gd 40 i = some j) (hdg : decode cc pc = .ok (.laload, 1)) (kk : W p l e R s m args below meth c H locs cells slots Q (F0 m (pc + 1) ls (.long (mh_input h j) :: rest))) : W p l e R s m args below meth c H locs cells slots Q (F0 m pc ls (.int i :: .ref (ad 3) :: rest)) := by
  obtain ⟨h1, h2, -⟩ := gd_eq hj
  exact va_lald hx hb hK hP 3 1 mw_Ainput rfl h1 hdg (by rw [h2]; exact kk)
theorem mas_input (hx : p.tables.exec = Jvm.exec) (hb : c.code = cc) (hK : va_K D mvCl (mtys cA) s) (hD : wdD 21 A ad) (hP : va_P D mvCl (mW cA ad h) H) (hS : va_S A H0 H locs) {i : Int32} {j : Nat} {v : Int64} (hj : gd 40 i = some j) (hdg : decode cc pc = .ok (.lastore, 1)) (kk : ∀ (H1 : Heap) (locs1 : List Loc), va_P D mvCl (mW cA ad (ms_input h j v)) H1 → va_S A H0 H1 locs1 → W p l e R s m args below meth c H1 locs1 cells slots Q (F0 m (pc + 1) ls rest)) : W p l e R s m args below meth c H locs cells slots Q (F0 m pc ls (.long v :: .int i :: .ref (ad 3) :: rest)) := by
  obtain ⟨h1, h2, -⟩ := gd_eq hj
  subst h2
  exact va_last hx hb hK hP (hD _) hS 3 1 mw_Ainput rfl h1 hdg (fun H1 locs1 hP1 _ hS1 => kk H1 locs1 (va_P_eq (wdG_set (ct' := mct cA ad (ms_input h i.toNatClampNeg v)) (by first | decide | omega) (by intro j9 hj9 hne; exact mo_input hne) (by exact me_input)) hP1) hS1)
theorem mln_input (hx : p.tables.exec = Jvm.exec) (hb : c.code = cc) (hK : va_K D mvCl (mtys cA) s) (hP : va_P D mvCl (mW cA ad h) H) (hdg : decode cc pc = .ok (.arraylength, 1)) (kk : W p l e R s m args below meth c H locs cells slots Q (F0 m (pc + 1) ls (.int (nI 40) :: rest))) : W p l e R s m args below meth c H locs cells slots Q (F0 m pc ls (.ref (ad 3) :: rest)) := va_alen hx hb hK hP 3 1 mw_Ainput rfl rfl hdg kk
theorem mal_output (hx : p.tables.exec = Jvm.exec) (hb : c.code = cc) (hK : va_K D mvCl (mtys cA) s) (hP : va_P D mvCl (mW cA ad h) H) {i : Int32} {j : Nat} (hj : gd 80 i = some j) (hdg : decode cc pc = .ok (.iaload, 1)) (kk : W p l e R s m args below meth c H locs cells slots Q (F0 m (pc + 1) ls (.int (mh_output h j) :: rest))) : W p l e R s m args below meth c H locs cells slots Q (F0 m pc ls (.int i :: .ref (ad 4) :: rest)) := by
  obtain ⟨h1, h2, -⟩ := gd_eq hj
  exact va_iald hx hb hK hP 4 0 mw_Aoutput rfl h1 hdg (by rw [h2]; exact kk)
theorem mas_output (hx : p.tables.exec = Jvm.exec) (hb : c.code = cc) (hK : va_K D mvCl (mtys cA) s) (hD : wdD 21 A ad) (hP : va_P D mvCl (mW cA ad h) H) (hS : va_S A H0 H locs) {i : Int32} {j : Nat} {v : Int32} (hj : gd 80 i = some j) (hdg : decode cc pc = .ok (.iastore, 1)) (kk : ∀ (H1 : Heap) (locs1 : List Loc), va_P D mvCl (mW cA ad (ms_output h j v)) H1 → va_S A H0 H1 locs1 → W p l e R s m args below meth c H1 locs1 cells slots Q (F0 m (pc + 1) ls rest)) : W p l e R s m args below meth c H locs cells slots Q (F0 m pc ls (.int v :: .int i :: .ref (ad 4) :: rest)) := by
  obtain ⟨h1, h2, -⟩ := gd_eq hj
  subst h2
  exact va_iast hx hb hK hP (hD _) hS 4 0 mw_Aoutput rfl h1 hdg (fun H1 locs1 hP1 _ hS1 => kk H1 locs1 (va_P_eq (wdG_set (ct' := mct cA ad (ms_output h i.toNatClampNeg v)) (by first | decide | omega) (by intro j9 hj9 hne; exact mo_output hne) (by exact me_output)) hP1) hS1)
theorem mln_output (hx : p.tables.exec = Jvm.exec) (hb : c.code = cc) (hK : va_K D mvCl (mtys cA) s) (hP : va_P D mvCl (mW cA ad h) H) (hdg : decode cc pc = .ok (.arraylength, 1)) (kk : W p l e R s m args below meth c H locs cells slots Q (F0 m (pc + 1) ls (.int (nI 80) :: rest))) : W p l e R s m args below meth c H locs cells slots Q (F0 m pc ls (.ref (ad 4) :: rest)) := va_alen hx hb hK hP 4 0 mw_Aoutput rfl rfl hdg kk
theorem mal_page (hx : p.tables.exec = Jvm.exec) (hb : c.code = cc) (hK : va_K D mvCl (mtys cA) s) (hP : va_P D mvCl (mW cA ad h) H) {i : Int32} {j : Nat} (hj : gd 80 i = some j) (hdg : decode cc pc = .ok (.iaload, 1)) (kk : W p l e R s m args below meth c H locs cells slots Q (F0 m (pc + 1) ls (.int (mh_page h j) :: rest))) : W p l e R s m args below meth c H locs cells slots Q (F0 m pc ls (.int i :: .ref (ad 5) :: rest)) := by
  obtain ⟨h1, h2, -⟩ := gd_eq hj
  exact va_iald hx hb hK hP 5 0 mw_Apage rfl h1 hdg (by rw [h2]; exact kk)
theorem mas_page (hx : p.tables.exec = Jvm.exec) (hb : c.code = cc) (hK : va_K D mvCl (mtys cA) s) (hD : wdD 21 A ad) (hP : va_P D mvCl (mW cA ad h) H) (hS : va_S A H0 H locs) {i : Int32} {j : Nat} {v : Int32} (hj : gd 80 i = some j) (hdg : decode cc pc = .ok (.iastore, 1)) (kk : ∀ (H1 : Heap) (locs1 : List Loc), va_P D mvCl (mW cA ad (ms_page h j v)) H1 → va_S A H0 H1 locs1 → W p l e R s m args below meth c H1 locs1 cells slots Q (F0 m (pc + 1) ls rest)) : W p l e R s m args below meth c H locs cells slots Q (F0 m pc ls (.int v :: .int i :: .ref (ad 5) :: rest)) := by
  obtain ⟨h1, h2, -⟩ := gd_eq hj
  subst h2
  exact va_iast hx hb hK hP (hD _) hS 5 0 mw_Apage rfl h1 hdg (fun H1 locs1 hP1 _ hS1 => kk H1 locs1 (va_P_eq (wdG_set (ct' := mct cA ad (ms_page h i.toNatClampNeg v)) (by first | decide | omega) (by intro j9 hj9 hne; exact mo_page hne) (by exact me_page)) hP1) hS1)
theorem mln_page (hx : p.tables.exec = Jvm.exec) (hb : c.code = cc) (hK : va_K D mvCl (mtys cA) s) (hP : va_P D mvCl (mW cA ad h) H) (hdg : decode cc pc = .ok (.arraylength, 1)) (kk : W p l e R s m args below meth c H locs cells slots Q (F0 m (pc + 1) ls (.int (nI 80) :: rest))) : W p l e R s m args below meth c H locs cells slots Q (F0 m pc ls (.ref (ad 5) :: rest)) := va_alen hx hb hK hP 5 0 mw_Apage rfl rfl hdg kk
theorem mal_digits (hx : p.tables.exec = Jvm.exec) (hb : c.code = cc) (hK : va_K D mvCl (mtys cA) s) (hP : va_P D mvCl (mW cA ad h) H) {i : Int32} {j : Nat} (hj : gd 20 i = some j) (hdg : decode cc pc = .ok (.iaload, 1)) (kk : W p l e R s m args below meth c H locs cells slots Q (F0 m (pc + 1) ls (.int (mh_digits h j) :: rest))) : W p l e R s m args below meth c H locs cells slots Q (F0 m pc ls (.int i :: .ref (ad 6) :: rest)) := by
  obtain ⟨h1, h2, -⟩ := gd_eq hj
  exact va_iald hx hb hK hP 6 0 mw_Adigits rfl h1 hdg (by rw [h2]; exact kk)
theorem mas_digits (hx : p.tables.exec = Jvm.exec) (hb : c.code = cc) (hK : va_K D mvCl (mtys cA) s) (hD : wdD 21 A ad) (hP : va_P D mvCl (mW cA ad h) H) (hS : va_S A H0 H locs) {i : Int32} {j : Nat} {v : Int32} (hj : gd 20 i = some j) (hdg : decode cc pc = .ok (.iastore, 1)) (kk : ∀ (H1 : Heap) (locs1 : List Loc), va_P D mvCl (mW cA ad (ms_digits h j v)) H1 → va_S A H0 H1 locs1 → W p l e R s m args below meth c H1 locs1 cells slots Q (F0 m (pc + 1) ls rest)) : W p l e R s m args below meth c H locs cells slots Q (F0 m pc ls (.int v :: .int i :: .ref (ad 6) :: rest)) := by
  obtain ⟨h1, h2, -⟩ := gd_eq hj
  subst h2
  exact va_iast hx hb hK hP (hD _) hS 6 0 mw_Adigits rfl h1 hdg (fun H1 locs1 hP1 _ hS1 => kk H1 locs1 (va_P_eq (wdG_set (ct' := mct cA ad (ms_digits h i.toNatClampNeg v)) (by first | decide | omega) (by intro j9 hj9 hne; exact mo_digits hne) (by exact me_digits)) hP1) hS1)
theorem mln_digits (hx : p.tables.exec = Jvm.exec) (hb : c.code = cc) (hK : va_K D mvCl (mtys cA) s) (hP : va_P D mvCl (mW cA ad h) H) (hdg : decode cc pc = .ok (.arraylength, 1)) (kk : W p l e R s m args below meth c H locs cells slots Q (F0 m (pc + 1) ls (.int (nI 20) :: rest))) : W p l e R s m args below meth c H locs cells slots Q (F0 m pc ls (.ref (ad 6) :: rest)) := va_alen hx hb hK hP 6 0 mw_Adigits rfl rfl hdg kk
theorem mal_lives (hx : p.tables.exec = Jvm.exec) (hb : c.code = cc) (hK : va_K D mvCl (mtys cA) s) (hP : va_P D mvCl (mW cA ad h) H) {i : Int32} {j : Nat} (hj : gd 8 i = some j) (hdg : decode cc pc = .ok (.baload, 1)) (kk : W p l e R s m args below meth c H locs cells slots Q (F0 m (pc + 1) ls (.int (mh_lives h j) :: rest))) : W p l e R s m args below meth c H locs cells slots Q (F0 m pc ls (.int i :: .ref (ad 7) :: rest)) := by
  obtain ⟨h1, h2, -⟩ := gd_eq hj
  exact va_zald hx hb hK hP 7 2 mw_Alives rfl h1 hdg (by rw [h2]; exact kk)
theorem mas_lives (hx : p.tables.exec = Jvm.exec) (hb : c.code = cc) (hK : va_K D mvCl (mtys cA) s) (hD : wdD 21 A ad) (hP : va_P D mvCl (mW cA ad h) H) (hS : va_S A H0 H locs) {i : Int32} {j : Nat} {v : Int32} (hj : gd 8 i = some j) (hdg : decode cc pc = .ok (.bastore, 1)) (kk : ∀ (H1 : Heap) (locs1 : List Loc), va_P D mvCl (mW cA ad (ms_lives h j (vp_nar .boolean v))) H1 → va_S A H0 H1 locs1 → W p l e R s m args below meth c H1 locs1 cells slots Q (F0 m (pc + 1) ls rest)) : W p l e R s m args below meth c H locs cells slots Q (F0 m pc ls (.int v :: .int i :: .ref (ad 7) :: rest)) := by
  obtain ⟨h1, h2, -⟩ := gd_eq hj
  subst h2
  exact va_zast hx hb hK hP (hD _) hS 7 2 mw_Alives rfl h1 hdg (fun H1 locs1 hP1 _ hS1 => kk H1 locs1 (va_P_eq (wdG_set (ct' := mct cA ad (ms_lives h i.toNatClampNeg (vp_nar .boolean v))) (by first | decide | omega) (by intro j9 hj9 hne; exact mo_lives hne) (by exact me_lives)) hP1) hS1)
theorem mln_lives (hx : p.tables.exec = Jvm.exec) (hb : c.code = cc) (hK : va_K D mvCl (mtys cA) s) (hP : va_P D mvCl (mW cA ad h) H) (hdg : decode cc pc = .ok (.arraylength, 1)) (kk : W p l e R s m args below meth c H locs cells slots Q (F0 m (pc + 1) ls (.int (nI 8) :: rest))) : W p l e R s m args below meth c H locs cells slots Q (F0 m pc ls (.ref (ad 7) :: rest)) := va_alen hx hb hK hP 7 2 mw_Alives rfl rfl hdg kk
theorem mal_place (hx : p.tables.exec = Jvm.exec) (hb : c.code = cc) (hK : va_K D mvCl (mtys cA) s) (hP : va_P D mvCl (mW cA ad h) H) {i : Int32} {j : Nat} (hj : gd 8 i = some j) (hdg : decode cc pc = .ok (.iaload, 1)) (kk : W p l e R s m args below meth c H locs cells slots Q (F0 m (pc + 1) ls (.int (mh_place h j) :: rest))) : W p l e R s m args below meth c H locs cells slots Q (F0 m pc ls (.int i :: .ref (ad 8) :: rest)) := by
  obtain ⟨h1, h2, -⟩ := gd_eq hj
  exact va_iald hx hb hK hP 8 0 mw_Aplace rfl h1 hdg (by rw [h2]; exact kk)
theorem mas_place (hx : p.tables.exec = Jvm.exec) (hb : c.code = cc) (hK : va_K D mvCl (mtys cA) s) (hD : wdD 21 A ad) (hP : va_P D mvCl (mW cA ad h) H) (hS : va_S A H0 H locs) {i : Int32} {j : Nat} {v : Int32} (hj : gd 8 i = some j) (hdg : decode cc pc = .ok (.iastore, 1)) (kk : ∀ (H1 : Heap) (locs1 : List Loc), va_P D mvCl (mW cA ad (ms_place h j v)) H1 → va_S A H0 H1 locs1 → W p l e R s m args below meth c H1 locs1 cells slots Q (F0 m (pc + 1) ls rest)) : W p l e R s m args below meth c H locs cells slots Q (F0 m pc ls (.int v :: .int i :: .ref (ad 8) :: rest)) := by
  obtain ⟨h1, h2, -⟩ := gd_eq hj
  subst h2
  exact va_iast hx hb hK hP (hD _) hS 8 0 mw_Aplace rfl h1 hdg (fun H1 locs1 hP1 _ hS1 => kk H1 locs1 (va_P_eq (wdG_set (ct' := mct cA ad (ms_place h i.toNatClampNeg v)) (by first | decide | omega) (by intro j9 hj9 hne; exact mo_place hne) (by exact me_place)) hP1) hS1)
theorem mln_place (hx : p.tables.exec = Jvm.exec) (hb : c.code = cc) (hK : va_K D mvCl (mtys cA) s) (hP : va_P D mvCl (mW cA ad h) H) (hdg : decode cc pc = .ok (.arraylength, 1)) (kk : W p l e R s m args below meth c H locs cells slots Q (F0 m (pc + 1) ls (.int (nI 8) :: rest))) : W p l e R s m args below meth c H locs cells slots Q (F0 m pc ls (.ref (ad 8) :: rest)) := va_alen hx hb hK hP 8 0 mw_Aplace rfl rfl hdg kk
theorem mal_direction (hx : p.tables.exec = Jvm.exec) (hb : c.code = cc) (hK : va_K D mvCl (mtys cA) s) (hP : va_P D mvCl (mW cA ad h) H) {i : Int32} {j : Nat} (hj : gd 8 i = some j) (hdg : decode cc pc = .ok (.iaload, 1)) (kk : W p l e R s m args below meth c H locs cells slots Q (F0 m (pc + 1) ls (.int (mh_direction h j) :: rest))) : W p l e R s m args below meth c H locs cells slots Q (F0 m pc ls (.int i :: .ref (ad 9) :: rest)) := by
  obtain ⟨h1, h2, -⟩ := gd_eq hj
  exact va_iald hx hb hK hP 9 0 mw_Adirection rfl h1 hdg (by rw [h2]; exact kk)
theorem mas_direction (hx : p.tables.exec = Jvm.exec) (hb : c.code = cc) (hK : va_K D mvCl (mtys cA) s) (hD : wdD 21 A ad) (hP : va_P D mvCl (mW cA ad h) H) (hS : va_S A H0 H locs) {i : Int32} {j : Nat} {v : Int32} (hj : gd 8 i = some j) (hdg : decode cc pc = .ok (.iastore, 1)) (kk : ∀ (H1 : Heap) (locs1 : List Loc), va_P D mvCl (mW cA ad (ms_direction h j v)) H1 → va_S A H0 H1 locs1 → W p l e R s m args below meth c H1 locs1 cells slots Q (F0 m (pc + 1) ls rest)) : W p l e R s m args below meth c H locs cells slots Q (F0 m pc ls (.int v :: .int i :: .ref (ad 9) :: rest)) := by
  obtain ⟨h1, h2, -⟩ := gd_eq hj
  subst h2
  exact va_iast hx hb hK hP (hD _) hS 9 0 mw_Adirection rfl h1 hdg (fun H1 locs1 hP1 _ hS1 => kk H1 locs1 (va_P_eq (wdG_set (ct' := mct cA ad (ms_direction h i.toNatClampNeg v)) (by first | decide | omega) (by intro j9 hj9 hne; exact mo_direction hne) (by exact me_direction)) hP1) hS1)
theorem mln_direction (hx : p.tables.exec = Jvm.exec) (hb : c.code = cc) (hK : va_K D mvCl (mtys cA) s) (hP : va_P D mvCl (mW cA ad h) H) (hdg : decode cc pc = .ok (.arraylength, 1)) (kk : W p l e R s m args below meth c H locs cells slots Q (F0 m (pc + 1) ls (.int (nI 8) :: rest))) : W p l e R s m args below meth c H locs cells slots Q (F0 m pc ls (.ref (ad 9) :: rest)) := va_alen hx hb hK hP 9 0 mw_Adirection rfl rfl hdg kk
theorem mal_quoted (hx : p.tables.exec = Jvm.exec) (hb : c.code = cc) (hK : va_K D mvCl (mtys cA) s) (hP : va_P D mvCl (mW cA ad h) H) {i : Int32} {j : Nat} (hj : gd 8 i = some j) (hdg : decode cc pc = .ok (.baload, 1)) (kk : W p l e R s m args below meth c H locs cells slots Q (F0 m (pc + 1) ls (.int (mh_quoted h j) :: rest))) : W p l e R s m args below meth c H locs cells slots Q (F0 m pc ls (.int i :: .ref (ad 10) :: rest)) := by
  obtain ⟨h1, h2, -⟩ := gd_eq hj
  exact va_zald hx hb hK hP 10 2 mw_Aquoted rfl h1 hdg (by rw [h2]; exact kk)
theorem mas_quoted (hx : p.tables.exec = Jvm.exec) (hb : c.code = cc) (hK : va_K D mvCl (mtys cA) s) (hD : wdD 21 A ad) (hP : va_P D mvCl (mW cA ad h) H) (hS : va_S A H0 H locs) {i : Int32} {j : Nat} {v : Int32} (hj : gd 8 i = some j) (hdg : decode cc pc = .ok (.bastore, 1)) (kk : ∀ (H1 : Heap) (locs1 : List Loc), va_P D mvCl (mW cA ad (ms_quoted h j (vp_nar .boolean v))) H1 → va_S A H0 H1 locs1 → W p l e R s m args below meth c H1 locs1 cells slots Q (F0 m (pc + 1) ls rest)) : W p l e R s m args below meth c H locs cells slots Q (F0 m pc ls (.int v :: .int i :: .ref (ad 10) :: rest)) := by
  obtain ⟨h1, h2, -⟩ := gd_eq hj
  subst h2
  exact va_zast hx hb hK hP (hD _) hS 10 2 mw_Aquoted rfl h1 hdg (fun H1 locs1 hP1 _ hS1 => kk H1 locs1 (va_P_eq (wdG_set (ct' := mct cA ad (ms_quoted h i.toNatClampNeg (vp_nar .boolean v))) (by first | decide | omega) (by intro j9 hj9 hne; exact mo_quoted hne) (by exact me_quoted)) hP1) hS1)
theorem mln_quoted (hx : p.tables.exec = Jvm.exec) (hb : c.code = cc) (hK : va_K D mvCl (mtys cA) s) (hP : va_P D mvCl (mW cA ad h) H) (hdg : decode cc pc = .ok (.arraylength, 1)) (kk : W p l e R s m args below meth c H locs cells slots Q (F0 m (pc + 1) ls (.int (nI 8) :: rest))) : W p l e R s m args below meth c H locs cells slots Q (F0 m pc ls (.ref (ad 10) :: rest)) := va_alen hx hb hK hP 10 2 mw_Aquoted rfl rfl hdg kk
theorem mal_sizes (hx : p.tables.exec = Jvm.exec) (hb : c.code = cc) (hK : va_K D mvCl (mtys cA) s) (hP : va_P D mvCl (mW cA ad h) H) {i : Int32} {j : Nat} (hj : gd 8 i = some j) (hdg : decode cc pc = .ok (.iaload, 1)) (kk : W p l e R s m args below meth c H locs cells slots Q (F0 m (pc + 1) ls (.int (mh_sizes h j) :: rest))) : W p l e R s m args below meth c H locs cells slots Q (F0 m pc ls (.int i :: .ref (ad 11) :: rest)) := by
  obtain ⟨h1, h2, -⟩ := gd_eq hj
  exact va_iald hx hb hK hP 11 0 mw_Asizes rfl h1 hdg (by rw [h2]; exact kk)
theorem mas_sizes (hx : p.tables.exec = Jvm.exec) (hb : c.code = cc) (hK : va_K D mvCl (mtys cA) s) (hD : wdD 21 A ad) (hP : va_P D mvCl (mW cA ad h) H) (hS : va_S A H0 H locs) {i : Int32} {j : Nat} {v : Int32} (hj : gd 8 i = some j) (hdg : decode cc pc = .ok (.iastore, 1)) (kk : ∀ (H1 : Heap) (locs1 : List Loc), va_P D mvCl (mW cA ad (ms_sizes h j v)) H1 → va_S A H0 H1 locs1 → W p l e R s m args below meth c H1 locs1 cells slots Q (F0 m (pc + 1) ls rest)) : W p l e R s m args below meth c H locs cells slots Q (F0 m pc ls (.int v :: .int i :: .ref (ad 11) :: rest)) := by
  obtain ⟨h1, h2, -⟩ := gd_eq hj
  subst h2
  exact va_iast hx hb hK hP (hD _) hS 11 0 mw_Asizes rfl h1 hdg (fun H1 locs1 hP1 _ hS1 => kk H1 locs1 (va_P_eq (wdG_set (ct' := mct cA ad (ms_sizes h i.toNatClampNeg v)) (by first | decide | omega) (by intro j9 hj9 hne; exact mo_sizes hne) (by exact me_sizes)) hP1) hS1)
theorem mln_sizes (hx : p.tables.exec = Jvm.exec) (hb : c.code = cc) (hK : va_K D mvCl (mtys cA) s) (hP : va_P D mvCl (mW cA ad h) H) (hdg : decode cc pc = .ok (.arraylength, 1)) (kk : W p l e R s m args below meth c H locs cells slots Q (F0 m (pc + 1) ls (.int (nI 8) :: rest))) : W p l e R s m args below meth c H locs cells slots Q (F0 m pc ls (.ref (ad 11) :: rest)) := va_alen hx hb hK hP 11 0 mw_Asizes rfl rfl hdg kk
theorem mal_stacks (hx : p.tables.exec = Jvm.exec) (hb : c.code = cc) (hK : va_K D mvCl (mtys cA) s) (hP : va_P D mvCl (mW cA ad h) H) {i : Int32} {j : Nat} (hj : gd 192 i = some j) (hdg : decode cc pc = .ok (.laload, 1)) (kk : W p l e R s m args below meth c H locs cells slots Q (F0 m (pc + 1) ls (.long (mh_stacks h j) :: rest))) : W p l e R s m args below meth c H locs cells slots Q (F0 m pc ls (.int i :: .ref (ad 12) :: rest)) := by
  obtain ⟨h1, h2, -⟩ := gd_eq hj
  exact va_lald hx hb hK hP 12 1 mw_Astacks rfl h1 hdg (by rw [h2]; exact kk)
theorem mas_stacks (hx : p.tables.exec = Jvm.exec) (hb : c.code = cc) (hK : va_K D mvCl (mtys cA) s) (hD : wdD 21 A ad) (hP : va_P D mvCl (mW cA ad h) H) (hS : va_S A H0 H locs) {i : Int32} {j : Nat} {v : Int64} (hj : gd 192 i = some j) (hdg : decode cc pc = .ok (.lastore, 1)) (kk : ∀ (H1 : Heap) (locs1 : List Loc), va_P D mvCl (mW cA ad (ms_stacks h j v)) H1 → va_S A H0 H1 locs1 → W p l e R s m args below meth c H1 locs1 cells slots Q (F0 m (pc + 1) ls rest)) : W p l e R s m args below meth c H locs cells slots Q (F0 m pc ls (.long v :: .int i :: .ref (ad 12) :: rest)) := by
  obtain ⟨h1, h2, -⟩ := gd_eq hj
  subst h2
  exact va_last hx hb hK hP (hD _) hS 12 1 mw_Astacks rfl h1 hdg (fun H1 locs1 hP1 _ hS1 => kk H1 locs1 (va_P_eq (wdG_set (ct' := mct cA ad (ms_stacks h i.toNatClampNeg v)) (by first | decide | omega) (by intro j9 hj9 hne; exact mo_stacks hne) (by exact me_stacks)) hP1) hS1)
theorem mln_stacks (hx : p.tables.exec = Jvm.exec) (hb : c.code = cc) (hK : va_K D mvCl (mtys cA) s) (hP : va_P D mvCl (mW cA ad h) H) (hdg : decode cc pc = .ok (.arraylength, 1)) (kk : W p l e R s m args below meth c H locs cells slots Q (F0 m (pc + 1) ls (.int (nI 192) :: rest))) : W p l e R s m args below meth c H locs cells slots Q (F0 m pc ls (.ref (ad 12) :: rest)) := va_alen hx hb hK hP 12 1 mw_Astacks rfl rfl hdg kk
theorem mal_returns (hx : p.tables.exec = Jvm.exec) (hb : c.code = cc) (hK : va_K D mvCl (mtys cA) s) (hP : va_P D mvCl (mW cA ad h) H) {i : Int32} {j : Nat} (hj : gd 8 i = some j) (hdg : decode cc pc = .ok (.iaload, 1)) (kk : W p l e R s m args below meth c H locs cells slots Q (F0 m (pc + 1) ls (.int (mh_returns h j) :: rest))) : W p l e R s m args below meth c H locs cells slots Q (F0 m pc ls (.int i :: .ref (ad 13) :: rest)) := by
  obtain ⟨h1, h2, -⟩ := gd_eq hj
  exact va_iald hx hb hK hP 13 0 mw_Areturns rfl h1 hdg (by rw [h2]; exact kk)
theorem mas_returns (hx : p.tables.exec = Jvm.exec) (hb : c.code = cc) (hK : va_K D mvCl (mtys cA) s) (hD : wdD 21 A ad) (hP : va_P D mvCl (mW cA ad h) H) (hS : va_S A H0 H locs) {i : Int32} {j : Nat} {v : Int32} (hj : gd 8 i = some j) (hdg : decode cc pc = .ok (.iastore, 1)) (kk : ∀ (H1 : Heap) (locs1 : List Loc), va_P D mvCl (mW cA ad (ms_returns h j v)) H1 → va_S A H0 H1 locs1 → W p l e R s m args below meth c H1 locs1 cells slots Q (F0 m (pc + 1) ls rest)) : W p l e R s m args below meth c H locs cells slots Q (F0 m pc ls (.int v :: .int i :: .ref (ad 13) :: rest)) := by
  obtain ⟨h1, h2, -⟩ := gd_eq hj
  subst h2
  exact va_iast hx hb hK hP (hD _) hS 13 0 mw_Areturns rfl h1 hdg (fun H1 locs1 hP1 _ hS1 => kk H1 locs1 (va_P_eq (wdG_set (ct' := mct cA ad (ms_returns h i.toNatClampNeg v)) (by first | decide | omega) (by intro j9 hj9 hne; exact mo_returns hne) (by exact me_returns)) hP1) hS1)
theorem mln_returns (hx : p.tables.exec = Jvm.exec) (hb : c.code = cc) (hK : va_K D mvCl (mtys cA) s) (hP : va_P D mvCl (mW cA ad h) H) (hdg : decode cc pc = .ok (.arraylength, 1)) (kk : W p l e R s m args below meth c H locs cells slots Q (F0 m (pc + 1) ls (.int (nI 8) :: rest))) : W p l e R s m args below meth c H locs cells slots Q (F0 m pc ls (.ref (ad 13) :: rest)) := va_alen hx hb hK hP 13 0 mw_Areturns rfl rfl hdg kk
theorem mal_back (hx : p.tables.exec = Jvm.exec) (hb : c.code = cc) (hK : va_K D mvCl (mtys cA) s) (hP : va_P D mvCl (mW cA ad h) H) {i : Int32} {j : Nat} (hj : gd 64 i = some j) (hdg : decode cc pc = .ok (.iaload, 1)) (kk : W p l e R s m args below meth c H locs cells slots Q (F0 m (pc + 1) ls (.int (mh_back h j) :: rest))) : W p l e R s m args below meth c H locs cells slots Q (F0 m pc ls (.int i :: .ref (ad 14) :: rest)) := by
  obtain ⟨h1, h2, -⟩ := gd_eq hj
  exact va_iald hx hb hK hP 14 0 mw_Aback rfl h1 hdg (by rw [h2]; exact kk)
theorem mas_back (hx : p.tables.exec = Jvm.exec) (hb : c.code = cc) (hK : va_K D mvCl (mtys cA) s) (hD : wdD 21 A ad) (hP : va_P D mvCl (mW cA ad h) H) (hS : va_S A H0 H locs) {i : Int32} {j : Nat} {v : Int32} (hj : gd 64 i = some j) (hdg : decode cc pc = .ok (.iastore, 1)) (kk : ∀ (H1 : Heap) (locs1 : List Loc), va_P D mvCl (mW cA ad (ms_back h j v)) H1 → va_S A H0 H1 locs1 → W p l e R s m args below meth c H1 locs1 cells slots Q (F0 m (pc + 1) ls rest)) : W p l e R s m args below meth c H locs cells slots Q (F0 m pc ls (.int v :: .int i :: .ref (ad 14) :: rest)) := by
  obtain ⟨h1, h2, -⟩ := gd_eq hj
  subst h2
  exact va_iast hx hb hK hP (hD _) hS 14 0 mw_Aback rfl h1 hdg (fun H1 locs1 hP1 _ hS1 => kk H1 locs1 (va_P_eq (wdG_set (ct' := mct cA ad (ms_back h i.toNatClampNeg v)) (by first | decide | omega) (by intro j9 hj9 hne; exact mo_back hne) (by exact me_back)) hP1) hS1)
theorem mln_back (hx : p.tables.exec = Jvm.exec) (hb : c.code = cc) (hK : va_K D mvCl (mtys cA) s) (hP : va_P D mvCl (mW cA ad h) H) (hdg : decode cc pc = .ok (.arraylength, 1)) (kk : W p l e R s m args below meth c H locs cells slots Q (F0 m (pc + 1) ls (.int (nI 64) :: rest))) : W p l e R s m args below meth c H locs cells slots Q (F0 m pc ls (.ref (ad 14) :: rest)) := va_alen hx hb hK hP 14 0 mw_Aback rfl rfl hdg kk
theorem mal_begins (hx : p.tables.exec = Jvm.exec) (hb : c.code = cc) (hK : va_K D mvCl (mtys cA) s) (hP : va_P D mvCl (mW cA ad h) H) {i : Int32} {j : Nat} (hj : gd 30 i = some j) (hdg : decode cc pc = .ok (.iaload, 1)) (kk : W p l e R s m args below meth c H locs cells slots Q (F0 m (pc + 1) ls (.int (mh_begins h j) :: rest))) : W p l e R s m args below meth c H locs cells slots Q (F0 m pc ls (.int i :: .ref (ad 15) :: rest)) := by
  obtain ⟨h1, h2, -⟩ := gd_eq hj
  exact va_iald hx hb hK hP 15 0 mw_Abegins rfl h1 hdg (by rw [h2]; exact kk)
theorem mas_begins (hx : p.tables.exec = Jvm.exec) (hb : c.code = cc) (hK : va_K D mvCl (mtys cA) s) (hD : wdD 21 A ad) (hP : va_P D mvCl (mW cA ad h) H) (hS : va_S A H0 H locs) {i : Int32} {j : Nat} {v : Int32} (hj : gd 30 i = some j) (hdg : decode cc pc = .ok (.iastore, 1)) (kk : ∀ (H1 : Heap) (locs1 : List Loc), va_P D mvCl (mW cA ad (ms_begins h j v)) H1 → va_S A H0 H1 locs1 → W p l e R s m args below meth c H1 locs1 cells slots Q (F0 m (pc + 1) ls rest)) : W p l e R s m args below meth c H locs cells slots Q (F0 m pc ls (.int v :: .int i :: .ref (ad 15) :: rest)) := by
  obtain ⟨h1, h2, -⟩ := gd_eq hj
  subst h2
  exact va_iast hx hb hK hP (hD _) hS 15 0 mw_Abegins rfl h1 hdg (fun H1 locs1 hP1 _ hS1 => kk H1 locs1 (va_P_eq (wdG_set (ct' := mct cA ad (ms_begins h i.toNatClampNeg v)) (by first | decide | omega) (by intro j9 hj9 hne; exact mo_begins hne) (by exact me_begins)) hP1) hS1)
theorem mln_begins (hx : p.tables.exec = Jvm.exec) (hb : c.code = cc) (hK : va_K D mvCl (mtys cA) s) (hP : va_P D mvCl (mW cA ad h) H) (hdg : decode cc pc = .ok (.arraylength, 1)) (kk : W p l e R s m args below meth c H locs cells slots Q (F0 m (pc + 1) ls (.int (nI 30) :: rest))) : W p l e R s m args below meth c H locs cells slots Q (F0 m pc ls (.ref (ad 15) :: rest)) := va_alen hx hb hK hP 15 0 mw_Abegins rfl rfl hdg kk
theorem mal_lengths (hx : p.tables.exec = Jvm.exec) (hb : c.code = cc) (hK : va_K D mvCl (mtys cA) s) (hP : va_P D mvCl (mW cA ad h) H) {i : Int32} {j : Nat} (hj : gd 30 i = some j) (hdg : decode cc pc = .ok (.iaload, 1)) (kk : W p l e R s m args below meth c H locs cells slots Q (F0 m (pc + 1) ls (.int (mh_lengths h j) :: rest))) : W p l e R s m args below meth c H locs cells slots Q (F0 m pc ls (.int i :: .ref (ad 16) :: rest)) := by
  obtain ⟨h1, h2, -⟩ := gd_eq hj
  exact va_iald hx hb hK hP 16 0 mw_Alengths rfl h1 hdg (by rw [h2]; exact kk)
theorem mas_lengths (hx : p.tables.exec = Jvm.exec) (hb : c.code = cc) (hK : va_K D mvCl (mtys cA) s) (hD : wdD 21 A ad) (hP : va_P D mvCl (mW cA ad h) H) (hS : va_S A H0 H locs) {i : Int32} {j : Nat} {v : Int32} (hj : gd 30 i = some j) (hdg : decode cc pc = .ok (.iastore, 1)) (kk : ∀ (H1 : Heap) (locs1 : List Loc), va_P D mvCl (mW cA ad (ms_lengths h j v)) H1 → va_S A H0 H1 locs1 → W p l e R s m args below meth c H1 locs1 cells slots Q (F0 m (pc + 1) ls rest)) : W p l e R s m args below meth c H locs cells slots Q (F0 m pc ls (.int v :: .int i :: .ref (ad 16) :: rest)) := by
  obtain ⟨h1, h2, -⟩ := gd_eq hj
  subst h2
  exact va_iast hx hb hK hP (hD _) hS 16 0 mw_Alengths rfl h1 hdg (fun H1 locs1 hP1 _ hS1 => kk H1 locs1 (va_P_eq (wdG_set (ct' := mct cA ad (ms_lengths h i.toNatClampNeg v)) (by first | decide | omega) (by intro j9 hj9 hne; exact mo_lengths hne) (by exact me_lengths)) hP1) hS1)
theorem mln_lengths (hx : p.tables.exec = Jvm.exec) (hb : c.code = cc) (hK : va_K D mvCl (mtys cA) s) (hP : va_P D mvCl (mW cA ad h) H) (hdg : decode cc pc = .ok (.arraylength, 1)) (kk : W p l e R s m args below meth c H locs cells slots Q (F0 m (pc + 1) ls (.int (nI 30) :: rest))) : W p l e R s m args below meth c H locs cells slots Q (F0 m pc ls (.ref (ad 16) :: rest)) := va_alen hx hb hK hP 16 0 mw_Alengths rfl rfl hdg kk
theorem mal_behind (hx : p.tables.exec = Jvm.exec) (hb : c.code = cc) (hK : va_K D mvCl (mtys cA) s) (hP : va_P D mvCl (mW cA ad h) H) {i : Int32} {j : Nat} (hj : gd 30 i = some j) (hdg : decode cc pc = .ok (.iaload, 1)) (kk : W p l e R s m args below meth c H locs cells slots Q (F0 m (pc + 1) ls (.int (mh_behind h j) :: rest))) : W p l e R s m args below meth c H locs cells slots Q (F0 m pc ls (.int i :: .ref (ad 17) :: rest)) := by
  obtain ⟨h1, h2, -⟩ := gd_eq hj
  exact va_iald hx hb hK hP 17 0 mw_Abehind rfl h1 hdg (by rw [h2]; exact kk)
theorem mas_behind (hx : p.tables.exec = Jvm.exec) (hb : c.code = cc) (hK : va_K D mvCl (mtys cA) s) (hD : wdD 21 A ad) (hP : va_P D mvCl (mW cA ad h) H) (hS : va_S A H0 H locs) {i : Int32} {j : Nat} {v : Int32} (hj : gd 30 i = some j) (hdg : decode cc pc = .ok (.iastore, 1)) (kk : ∀ (H1 : Heap) (locs1 : List Loc), va_P D mvCl (mW cA ad (ms_behind h j v)) H1 → va_S A H0 H1 locs1 → W p l e R s m args below meth c H1 locs1 cells slots Q (F0 m (pc + 1) ls rest)) : W p l e R s m args below meth c H locs cells slots Q (F0 m pc ls (.int v :: .int i :: .ref (ad 17) :: rest)) := by
  obtain ⟨h1, h2, -⟩ := gd_eq hj
  subst h2
  exact va_iast hx hb hK hP (hD _) hS 17 0 mw_Abehind rfl h1 hdg (fun H1 locs1 hP1 _ hS1 => kk H1 locs1 (va_P_eq (wdG_set (ct' := mct cA ad (ms_behind h i.toNatClampNeg v)) (by first | decide | omega) (by intro j9 hj9 hne; exact mo_behind hne) (by exact me_behind)) hP1) hS1)
theorem mln_behind (hx : p.tables.exec = Jvm.exec) (hb : c.code = cc) (hK : va_K D mvCl (mtys cA) s) (hP : va_P D mvCl (mW cA ad h) H) (hdg : decode cc pc = .ok (.arraylength, 1)) (kk : W p l e R s m args below meth c H locs cells slots Q (F0 m (pc + 1) ls (.int (nI 30) :: rest))) : W p l e R s m args below meth c H locs cells slots Q (F0 m pc ls (.ref (ad 17) :: rest)) := va_alen hx hb hK hP 17 0 mw_Abehind rfl rfl hdg kk
theorem mal_covered (hx : p.tables.exec = Jvm.exec) (hb : c.code = cc) (hK : va_K D mvCl (mtys cA) s) (hP : va_P D mvCl (mW cA ad h) H) {i : Int32} {j : Nat} (hj : gd 2880 i = some j) (hdg : decode cc pc = .ok (.baload, 1)) (kk : W p l e R s m args below meth c H locs cells slots Q (F0 m (pc + 1) ls (.int (mh_covered h j) :: rest))) : W p l e R s m args below meth c H locs cells slots Q (F0 m pc ls (.int i :: .ref (ad 18) :: rest)) := by
  obtain ⟨h1, h2, -⟩ := gd_eq hj
  exact va_zald hx hb hK hP 18 2 mw_Acovered rfl h1 hdg (by rw [h2]; exact kk)
theorem mas_covered (hx : p.tables.exec = Jvm.exec) (hb : c.code = cc) (hK : va_K D mvCl (mtys cA) s) (hD : wdD 21 A ad) (hP : va_P D mvCl (mW cA ad h) H) (hS : va_S A H0 H locs) {i : Int32} {j : Nat} {v : Int32} (hj : gd 2880 i = some j) (hdg : decode cc pc = .ok (.bastore, 1)) (kk : ∀ (H1 : Heap) (locs1 : List Loc), va_P D mvCl (mW cA ad (ms_covered h j (vp_nar .boolean v))) H1 → va_S A H0 H1 locs1 → W p l e R s m args below meth c H1 locs1 cells slots Q (F0 m (pc + 1) ls rest)) : W p l e R s m args below meth c H locs cells slots Q (F0 m pc ls (.int v :: .int i :: .ref (ad 18) :: rest)) := by
  obtain ⟨h1, h2, -⟩ := gd_eq hj
  subst h2
  exact va_zast hx hb hK hP (hD _) hS 18 2 mw_Acovered rfl h1 hdg (fun H1 locs1 hP1 _ hS1 => kk H1 locs1 (va_P_eq (wdG_set (ct' := mct cA ad (ms_covered h i.toNatClampNeg (vp_nar .boolean v))) (by first | decide | omega) (by intro j9 hj9 hne; exact mo_covered hne) (by exact me_covered)) hP1) hS1)
theorem mln_covered (hx : p.tables.exec = Jvm.exec) (hb : c.code = cc) (hK : va_K D mvCl (mtys cA) s) (hP : va_P D mvCl (mW cA ad h) H) (hdg : decode cc pc = .ok (.arraylength, 1)) (kk : W p l e R s m args below meth c H locs cells slots Q (F0 m (pc + 1) ls (.int (nI 2880) :: rest))) : W p l e R s m args below meth c H locs cells slots Q (F0 m pc ls (.ref (ad 18) :: rest)) := va_alen hx hb hK hP 18 2 mw_Acovered rfl rfl hdg kk
theorem mal_met (hx : p.tables.exec = Jvm.exec) (hb : c.code = cc) (hK : va_K D mvCl (mtys cA) s) (hP : va_P D mvCl (mW cA ad h) H) {i : Int32} {j : Nat} (hj : gd 768 i = some j) (hdg : decode cc pc = .ok (.baload, 1)) (kk : W p l e R s m args below meth c H locs cells slots Q (F0 m (pc + 1) ls (.int (mh_met h j) :: rest))) : W p l e R s m args below meth c H locs cells slots Q (F0 m pc ls (.int i :: .ref (ad 19) :: rest)) := by
  obtain ⟨h1, h2, -⟩ := gd_eq hj
  exact va_zald hx hb hK hP 19 2 mw_Amet rfl h1 hdg (by rw [h2]; exact kk)
theorem mas_met (hx : p.tables.exec = Jvm.exec) (hb : c.code = cc) (hK : va_K D mvCl (mtys cA) s) (hD : wdD 21 A ad) (hP : va_P D mvCl (mW cA ad h) H) (hS : va_S A H0 H locs) {i : Int32} {j : Nat} {v : Int32} (hj : gd 768 i = some j) (hdg : decode cc pc = .ok (.bastore, 1)) (kk : ∀ (H1 : Heap) (locs1 : List Loc), va_P D mvCl (mW cA ad (ms_met h j (vp_nar .boolean v))) H1 → va_S A H0 H1 locs1 → W p l e R s m args below meth c H1 locs1 cells slots Q (F0 m (pc + 1) ls rest)) : W p l e R s m args below meth c H locs cells slots Q (F0 m pc ls (.int v :: .int i :: .ref (ad 19) :: rest)) := by
  obtain ⟨h1, h2, -⟩ := gd_eq hj
  subst h2
  exact va_zast hx hb hK hP (hD _) hS 19 2 mw_Amet rfl h1 hdg (fun H1 locs1 hP1 _ hS1 => kk H1 locs1 (va_P_eq (wdG_set (ct' := mct cA ad (ms_met h i.toNatClampNeg (vp_nar .boolean v))) (by first | decide | omega) (by intro j9 hj9 hne; exact mo_met hne) (by exact me_met)) hP1) hS1)
theorem mln_met (hx : p.tables.exec = Jvm.exec) (hb : c.code = cc) (hK : va_K D mvCl (mtys cA) s) (hP : va_P D mvCl (mW cA ad h) H) (hdg : decode cc pc = .ok (.arraylength, 1)) (kk : W p l e R s m args below meth c H locs cells slots Q (F0 m (pc + 1) ls (.int (nI 768) :: rest))) : W p l e R s m args below meth c H locs cells slots Q (F0 m pc ls (.ref (ad 19) :: rest)) := va_alen hx hb hK hP 19 2 mw_Amet rfl rfl hdg kk
theorem mal_come (hx : p.tables.exec = Jvm.exec) (hb : c.code = cc) (hK : va_K D mvCl (mtys cA) s) (hP : va_P D mvCl (mW cA ad h) H) {i : Int32} {j : Nat} (hj : gd 768 i = some j) (hdg : decode cc pc = .ok (.baload, 1)) (kk : W p l e R s m args below meth c H locs cells slots Q (F0 m (pc + 1) ls (.int (mh_come h j) :: rest))) : W p l e R s m args below meth c H locs cells slots Q (F0 m pc ls (.int i :: .ref (ad 20) :: rest)) := by
  obtain ⟨h1, h2, -⟩ := gd_eq hj
  exact va_zald hx hb hK hP 20 2 mw_Acome rfl h1 hdg (by rw [h2]; exact kk)
theorem mas_come (hx : p.tables.exec = Jvm.exec) (hb : c.code = cc) (hK : va_K D mvCl (mtys cA) s) (hD : wdD 21 A ad) (hP : va_P D mvCl (mW cA ad h) H) (hS : va_S A H0 H locs) {i : Int32} {j : Nat} {v : Int32} (hj : gd 768 i = some j) (hdg : decode cc pc = .ok (.bastore, 1)) (kk : ∀ (H1 : Heap) (locs1 : List Loc), va_P D mvCl (mW cA ad (ms_come h j (vp_nar .boolean v))) H1 → va_S A H0 H1 locs1 → W p l e R s m args below meth c H1 locs1 cells slots Q (F0 m (pc + 1) ls rest)) : W p l e R s m args below meth c H locs cells slots Q (F0 m pc ls (.int v :: .int i :: .ref (ad 20) :: rest)) := by
  obtain ⟨h1, h2, -⟩ := gd_eq hj
  subst h2
  exact va_zast hx hb hK hP (hD _) hS 20 2 mw_Acome rfl h1 hdg (fun H1 locs1 hP1 _ hS1 => kk H1 locs1 (va_P_eq (wdG_set (ct' := mct cA ad (ms_come h i.toNatClampNeg (vp_nar .boolean v))) (by first | decide | omega) (by intro j9 hj9 hne; exact mo_come hne) (by exact me_come)) hP1) hS1)
theorem mln_come (hx : p.tables.exec = Jvm.exec) (hb : c.code = cc) (hK : va_K D mvCl (mtys cA) s) (hP : va_P D mvCl (mW cA ad h) H) (hdg : decode cc pc = .ok (.arraylength, 1)) (kk : W p l e R s m args below meth c H locs cells slots Q (F0 m (pc + 1) ls (.int (nI 768) :: rest))) : W p l e R s m args below meth c H locs cells slots Q (F0 m pc ls (.ref (ad 20) :: rest)) := va_alen hx hb hK hP 20 2 mw_Acome rfl rfl hdg kk
end MR
