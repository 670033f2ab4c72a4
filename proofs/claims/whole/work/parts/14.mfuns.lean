abbrev MH : Type := Int32 × Int32 × Int32 × Int32 × Int32 × Int32 × Int32 × Int32 × Int32 × Int32 × Int32 × (Nat → Int32) × (Nat → Int32) × (Nat → Int64) × (Nat → Int32) × (Nat → Int32) × (Nat → Int32) × (Nat → Int32) × (Nat → Int32) × (Nat → Int32) × (Nat → Int32) × (Nat → Int32) × (Nat → Int64) × (Nat → Int32) × (Nat → Int32) × (Nat → Int32) × (Nat → Int32) × (Nat → Int32) × (Nat → Int32) × (Nat → Int32) × (Nat → Int32)
def mh_vfault (h : MH) : Int32 := h.1
def mh_vtyped (h : MH) : Int32 := h.2.1
def mh_vinputs (h : MH) : Int32 := h.2.2.1
def mh_vread (h : MH) : Int32 := h.2.2.2.1
def mh_vshown (h : MH) : Int32 := h.2.2.2.2.1
def mh_vwritten (h : MH) : Int32 := h.2.2.2.2.2.1
def mh_vpointers (h : MH) : Int32 := h.2.2.2.2.2.2.1
def mh_vstopped (h : MH) : Int32 := h.2.2.2.2.2.2.2.1
def mh_vsteps (h : MH) : Int32 := h.2.2.2.2.2.2.2.2.1
def mh_vblocks (h : MH) : Int32 := h.2.2.2.2.2.2.2.2.2.1
def mh_vdrops (h : MH) : Int32 := h.2.2.2.2.2.2.2.2.2.2.1
def mh_field (h : MH) : Nat → Int32 := h.2.2.2.2.2.2.2.2.2.2.2.1
def mh_text (h : MH) : Nat → Int32 := h.2.2.2.2.2.2.2.2.2.2.2.2.1
def mh_input (h : MH) : Nat → Int64 := h.2.2.2.2.2.2.2.2.2.2.2.2.2.1
def mh_output (h : MH) : Nat → Int32 := h.2.2.2.2.2.2.2.2.2.2.2.2.2.2.1
def mh_page (h : MH) : Nat → Int32 := h.2.2.2.2.2.2.2.2.2.2.2.2.2.2.2.1
def mh_digits (h : MH) : Nat → Int32 := h.2.2.2.2.2.2.2.2.2.2.2.2.2.2.2.2.1
def mh_lives (h : MH) : Nat → Int32 := h.2.2.2.2.2.2.2.2.2.2.2.2.2.2.2.2.2.1
def mh_place (h : MH) : Nat → Int32 := h.2.2.2.2.2.2.2.2.2.2.2.2.2.2.2.2.2.2.1
def mh_direction (h : MH) : Nat → Int32 := h.2.2.2.2.2.2.2.2.2.2.2.2.2.2.2.2.2.2.2.1
def mh_quoted (h : MH) : Nat → Int32 := h.2.2.2.2.2.2.2.2.2.2.2.2.2.2.2.2.2.2.2.2.1
def mh_sizes (h : MH) : Nat → Int32 := h.2.2.2.2.2.2.2.2.2.2.2.2.2.2.2.2.2.2.2.2.2.1
def mh_stacks (h : MH) : Nat → Int64 := h.2.2.2.2.2.2.2.2.2.2.2.2.2.2.2.2.2.2.2.2.2.2.1
def mh_returns (h : MH) : Nat → Int32 := h.2.2.2.2.2.2.2.2.2.2.2.2.2.2.2.2.2.2.2.2.2.2.2.1
def mh_back (h : MH) : Nat → Int32 := h.2.2.2.2.2.2.2.2.2.2.2.2.2.2.2.2.2.2.2.2.2.2.2.2.1
def mh_begins (h : MH) : Nat → Int32 := h.2.2.2.2.2.2.2.2.2.2.2.2.2.2.2.2.2.2.2.2.2.2.2.2.2.1
def mh_lengths (h : MH) : Nat → Int32 := h.2.2.2.2.2.2.2.2.2.2.2.2.2.2.2.2.2.2.2.2.2.2.2.2.2.2.1
def mh_behind (h : MH) : Nat → Int32 := h.2.2.2.2.2.2.2.2.2.2.2.2.2.2.2.2.2.2.2.2.2.2.2.2.2.2.2.1
def mh_covered (h : MH) : Nat → Int32 := h.2.2.2.2.2.2.2.2.2.2.2.2.2.2.2.2.2.2.2.2.2.2.2.2.2.2.2.2.1
def mh_met (h : MH) : Nat → Int32 := h.2.2.2.2.2.2.2.2.2.2.2.2.2.2.2.2.2.2.2.2.2.2.2.2.2.2.2.2.2.1
def mh_come (h : MH) : Nat → Int32 := h.2.2.2.2.2.2.2.2.2.2.2.2.2.2.2.2.2.2.2.2.2.2.2.2.2.2.2.2.2.2
def mz_vfault (h : MH) (v : Int32) : MH := (v, h.2)
def ms_vfault (h : MH) (v : Int32) : MH := mz_vfault h v
def mz_vtyped (h : MH) (v : Int32) : MH := (h.1, v, h.2.2)
def ms_vtyped (h : MH) (v : Int32) : MH := mz_vtyped h v
def mz_vinputs (h : MH) (v : Int32) : MH := (h.1, h.2.1, v, h.2.2.2)
def ms_vinputs (h : MH) (v : Int32) : MH := mz_vinputs h v
def mz_vread (h : MH) (v : Int32) : MH := (h.1, h.2.1, h.2.2.1, v, h.2.2.2.2)
def ms_vread (h : MH) (v : Int32) : MH := mz_vread h v
def mz_vshown (h : MH) (v : Int32) : MH := (h.1, h.2.1, h.2.2.1, h.2.2.2.1, v, h.2.2.2.2.2)
def ms_vshown (h : MH) (v : Int32) : MH := mz_vshown h v
def mz_vwritten (h : MH) (v : Int32) : MH := (h.1, h.2.1, h.2.2.1, h.2.2.2.1, h.2.2.2.2.1, v, h.2.2.2.2.2.2)
def ms_vwritten (h : MH) (v : Int32) : MH := mz_vwritten h v
def mz_vpointers (h : MH) (v : Int32) : MH := (h.1, h.2.1, h.2.2.1, h.2.2.2.1, h.2.2.2.2.1, h.2.2.2.2.2.1, v, h.2.2.2.2.2.2.2)
def ms_vpointers (h : MH) (v : Int32) : MH := mz_vpointers h v
def mz_vstopped (h : MH) (v : Int32) : MH := (h.1, h.2.1, h.2.2.1, h.2.2.2.1, h.2.2.2.2.1, h.2.2.2.2.2.1, h.2.2.2.2.2.2.1, v, h.2.2.2.2.2.2.2.2)
def ms_vstopped (h : MH) (v : Int32) : MH := mz_vstopped h v
def mz_vsteps (h : MH) (v : Int32) : MH := (h.1, h.2.1, h.2.2.1, h.2.2.2.1, h.2.2.2.2.1, h.2.2.2.2.2.1, h.2.2.2.2.2.2.1, h.2.2.2.2.2.2.2.1, v, h.2.2.2.2.2.2.2.2.2)
def ms_vsteps (h : MH) (v : Int32) : MH := mz_vsteps h v
def mz_vblocks (h : MH) (v : Int32) : MH := (h.1, h.2.1, h.2.2.1, h.2.2.2.1, h.2.2.2.2.1, h.2.2.2.2.2.1, h.2.2.2.2.2.2.1, h.2.2.2.2.2.2.2.1, h.2.2.2.2.2.2.2.2.1, v, h.2.2.2.2.2.2.2.2.2.2)
def ms_vblocks (h : MH) (v : Int32) : MH := mz_vblocks h v
def mz_vdrops (h : MH) (v : Int32) : MH := (h.1, h.2.1, h.2.2.1, h.2.2.2.1, h.2.2.2.2.1, h.2.2.2.2.2.1, h.2.2.2.2.2.2.1, h.2.2.2.2.2.2.2.1, h.2.2.2.2.2.2.2.2.1, h.2.2.2.2.2.2.2.2.2.1, v, h.2.2.2.2.2.2.2.2.2.2.2)
def ms_vdrops (h : MH) (v : Int32) : MH := mz_vdrops h v
def mz_field (h : MH) (v : Nat → Int32) : MH := (h.1, h.2.1, h.2.2.1, h.2.2.2.1, h.2.2.2.2.1, h.2.2.2.2.2.1, h.2.2.2.2.2.2.1, h.2.2.2.2.2.2.2.1, h.2.2.2.2.2.2.2.2.1, h.2.2.2.2.2.2.2.2.2.1, h.2.2.2.2.2.2.2.2.2.2.1, v, h.2.2.2.2.2.2.2.2.2.2.2.2)
def ms_field (h : MH) (j : Nat) (v : Int32) : MH := mz_field h (va_up (mh_field h) j v)
def mc_field (h : MH) (f : Nat → Int32) : MH := mz_field h f
def mz_text (h : MH) (v : Nat → Int32) : MH := (h.1, h.2.1, h.2.2.1, h.2.2.2.1, h.2.2.2.2.1, h.2.2.2.2.2.1, h.2.2.2.2.2.2.1, h.2.2.2.2.2.2.2.1, h.2.2.2.2.2.2.2.2.1, h.2.2.2.2.2.2.2.2.2.1, h.2.2.2.2.2.2.2.2.2.2.1, h.2.2.2.2.2.2.2.2.2.2.2.1, v, h.2.2.2.2.2.2.2.2.2.2.2.2.2)
def ms_text (h : MH) (j : Nat) (v : Int32) : MH := mz_text h (va_up (mh_text h) j v)
def mc_text (h : MH) (f : Nat → Int32) : MH := mz_text h f
def mz_input (h : MH) (v : Nat → Int64) : MH := (h.1, h.2.1, h.2.2.1, h.2.2.2.1, h.2.2.2.2.1, h.2.2.2.2.2.1, h.2.2.2.2.2.2.1, h.2.2.2.2.2.2.2.1, h.2.2.2.2.2.2.2.2.1, h.2.2.2.2.2.2.2.2.2.1, h.2.2.2.2.2.2.2.2.2.2.1, h.2.2.2.2.2.2.2.2.2.2.2.1, h.2.2.2.2.2.2.2.2.2.2.2.2.1, v, h.2.2.2.2.2.2.2.2.2.2.2.2.2.2)
def ms_input (h : MH) (j : Nat) (v : Int64) : MH := mz_input h (va_up (mh_input h) j v)
def mc_input (h : MH) (f : Nat → Int64) : MH := mz_input h f
def mz_output (h : MH) (v : Nat → Int32) : MH := (h.1, h.2.1, h.2.2.1, h.2.2.2.1, h.2.2.2.2.1, h.2.2.2.2.2.1, h.2.2.2.2.2.2.1, h.2.2.2.2.2.2.2.1, h.2.2.2.2.2.2.2.2.1, h.2.2.2.2.2.2.2.2.2.1, h.2.2.2.2.2.2.2.2.2.2.1, h.2.2.2.2.2.2.2.2.2.2.2.1, h.2.2.2.2.2.2.2.2.2.2.2.2.1, h.2.2.2.2.2.2.2.2.2.2.2.2.2.1, v, h.2.2.2.2.2.2.2.2.2.2.2.2.2.2.2)
def ms_output (h : MH) (j : Nat) (v : Int32) : MH := mz_output h (va_up (mh_output h) j v)
def mc_output (h : MH) (f : Nat → Int32) : MH := mz_output h f
def mz_page (h : MH) (v : Nat → Int32) : MH := (h.1, h.2.1, h.2.2.1, h.2.2.2.1, h.2.2.2.2.1, h.2.2.2.2.2.1, h.2.2.2.2.2.2.1, h.2.2.2.2.2.2.2.1, h.2.2.2.2.2.2.2.2.1, h.2.2.2.2.2.2.2.2.2.1, h.2.2.2.2.2.2.2.2.2.2.1, h.2.2.2.2.2.2.2.2.2.2.2.1, h.2.2.2.2.2.2.2.2.2.2.2.2.1, h.2.2.2.2.2.2.2.2.2.2.2.2.2.1, h.2.2.2.2.2.2.2.2.2.2.2.2.2.2.1, v, h.2.2.2.2.2.2.2.2.2.2.2.2.2.2.2.2)
def ms_page (h : MH) (j : Nat) (v : Int32) : MH := mz_page h (va_up (mh_page h) j v)
def mc_page (h : MH) (f : Nat → Int32) : MH := mz_page h f
def mz_digits (h : MH) (v : Nat → Int32) : MH := (h.1, h.2.1, h.2.2.1, h.2.2.2.1, h.2.2.2.2.1, h.2.2.2.2.2.1, h.2.2.2.2.2.2.1, h.2.2.2.2.2.2.2.1, h.2.2.2.2.2.2.2.2.1, h.2.2.2.2.2.2.2.2.2.1, h.2.2.2.2.2.2.2.2.2.2.1, h.2.2.2.2.2.2.2.2.2.2.2.1, h.2.2.2.2.2.2.2.2.2.2.2.2.1, h.2.2.2.2.2.2.2.2.2.2.2.2.2.1, h.2.2.2.2.2.2.2.2.2.2.2.2.2.2.1, h.2.2.2.2.2.2.2.2.2.2.2.2.2.2.2.1, v, h.2.2.2.2.2.2.2.2.2.2.2.2.2.2.2.2.2)
def ms_digits (h : MH) (j : Nat) (v : Int32) : MH := mz_digits h (va_up (mh_digits h) j v)
def mc_digits (h : MH) (f : Nat → Int32) : MH := mz_digits h f
def mz_lives (h : MH) (v : Nat → Int32) : MH := (h.1, h.2.1, h.2.2.1, h.2.2.2.1, h.2.2.2.2.1, h.2.2.2.2.2.1, h.2.2.2.2.2.2.1, h.2.2.2.2.2.2.2.1, h.2.2.2.2.2.2.2.2.1, h.2.2.2.2.2.2.2.2.2.1, h.2.2.2.2.2.2.2.2.2.2.1, h.2.2.2.2.2.2.2.2.2.2.2.1, h.2.2.2.2.2.2.2.2.2.2.2.2.1, h.2.2.2.2.2.2.2.2.2.2.2.2.2.1, h.2.2.2.2.2.2.2.2.2.2.2.2.2.2.1, h.2.2.2.2.2.2.2.2.2.2.2.2.2.2.2.1, h.2.2.2.2.2.2.2.2.2.2.2.2.2.2.2.2.1, v, h.2.2.2.2.2.2.2.2.2.2.2.2.2.2.2.2.2.2)
def ms_lives (h : MH) (j : Nat) (v : Int32) : MH := mz_lives h (va_up (mh_lives h) j v)
def mc_lives (h : MH) (f : Nat → Int32) : MH := mz_lives h f
def mz_place (h : MH) (v : Nat → Int32) : MH := (h.1, h.2.1, h.2.2.1, h.2.2.2.1, h.2.2.2.2.1, h.2.2.2.2.2.1, h.2.2.2.2.2.2.1, h.2.2.2.2.2.2.2.1, h.2.2.2.2.2.2.2.2.1, h.2.2.2.2.2.2.2.2.2.1, h.2.2.2.2.2.2.2.2.2.2.1, h.2.2.2.2.2.2.2.2.2.2.2.1, h.2.2.2.2.2.2.2.2.2.2.2.2.1, h.2.2.2.2.2.2.2.2.2.2.2.2.2.1, h.2.2.2.2.2.2.2.2.2.2.2.2.2.2.1, h.2.2.2.2.2.2.2.2.2.2.2.2.2.2.2.1, h.2.2.2.2.2.2.2.2.2.2.2.2.2.2.2.2.1, h.2.2.2.2.2.2.2.2.2.2.2.2.2.2.2.2.2.1, v, h.2.2.2.2.2.2.2.2.2.2.2.2.2.2.2.2.2.2.2)
def ms_place (h : MH) (j : Nat) (v : Int32) : MH := mz_place h (va_up (mh_place h) j v)
def mc_place (h : MH) (f : Nat → Int32) : MH := mz_place h f
def mz_direction (h : MH) (v : Nat → Int32) : MH := (h.1, h.2.1, h.2.2.1, h.2.2.2.1, h.2.2.2.2.1, h.2.2.2.2.2.1, h.2.2.2.2.2.2.1, h.2.2.2.2.2.2.2.1, h.2.2.2.2.2.2.2.2.1, h.2.2.2.2.2.2.2.2.2.1, h.2.2.2.2.2.2.2.2.2.2.1, h.2.2.2.2.2.2.2.2.2.2.2.1, h.2.2.2.2.2.2.2.2.2.2.2.2.1, h.2.2.2.2.2.2.2.2.2.2.2.2.2.1, h.2.2.2.2.2.2.2.2.2.2.2.2.2.2.1, h.2.2.2.2.2.2.2.2.2.2.2.2.2.2.2.1, h.2.2.2.2.2.2.2.2.2.2.2.2.2.2.2.2.1, h.2.2.2.2.2.2.2.2.2.2.2.2.2.2.2.2.2.1, h.2.2.2.2.2.2.2.2.2.2.2.2.2.2.2.2.2.2.1, v, h.2.2.2.2.2.2.2.2.2.2.2.2.2.2.2.2.2.2.2.2)
def ms_direction (h : MH) (j : Nat) (v : Int32) : MH := mz_direction h (va_up (mh_direction h) j v)
def mc_direction (h : MH) (f : Nat → Int32) : MH := mz_direction h f
def mz_quoted (h : MH) (v : Nat → Int32) : MH := (h.1, h.2.1, h.2.2.1, h.2.2.2.1, h.2.2.2.2.1, h.2.2.2.2.2.1, h.2.2.2.2.2.2.1, h.2.2.2.2.2.2.2.1, h.2.2.2.2.2.2.2.2.1, h.2.2.2.2.2.2.2.2.2.1, h.2.2.2.2.2.2.2.2.2.2.1, h.2.2.2.2.2.2.2.2.2.2.2.1, h.2.2.2.2.2.2.2.2.2.2.2.2.1, h.2.2.2.2.2.2.2.2.2.2.2.2.2.1, h.2.2.2.2.2.2.2.2.2.2.2.2.2.2.1, h.2.2.2.2.2.2.2.2.2.2.2.2.2.2.2.1, h.2.2.2.2.2.2.2.2.2.2.2.2.2.2.2.2.1, h.2.2.2.2.2.2.2.2.2.2.2.2.2.2.2.2.2.1, h.2.2.2.2.2.2.2.2.2.2.2.2.2.2.2.2.2.2.1, h.2.2.2.2.2.2.2.2.2.2.2.2.2.2.2.2.2.2.2.1, v, h.2.2.2.2.2.2.2.2.2.2.2.2.2.2.2.2.2.2.2.2.2)
def ms_quoted (h : MH) (j : Nat) (v : Int32) : MH := mz_quoted h (va_up (mh_quoted h) j v)
def mc_quoted (h : MH) (f : Nat → Int32) : MH := mz_quoted h f
def mz_sizes (h : MH) (v : Nat → Int32) : MH := (h.1, h.2.1, h.2.2.1, h.2.2.2.1, h.2.2.2.2.1, h.2.2.2.2.2.1, h.2.2.2.2.2.2.1, h.2.2.2.2.2.2.2.1, h.2.2.2.2.2.2.2.2.1, h.2.2.2.2.2.2.2.2.2.1, h.2.2.2.2.2.2.2.2.2.2.1, h.2.2.2.2.2.2.2.2.2.2.2.1, h.2.2.2.2.2.2.2.2.2.2.2.2.1, h.2.2.2.2.2.2.2.2.2.2.2.2.2.1, h.2.2.2.2.2.2.2.2.2.2.2.2.2.2.1, h.2.2.2.2.2.2.2.2.2.2.2.2.2.2.2.1, h.2.2.2.2.2.2.2.2.2.2.2.2.2.2.2.2.1, h.2.2.2.2.2.2.2.2.2.2.2.2.2.2.2.2.2.1, h.2.2.2.2.2.2.2.2.2.2.2.2.2.2.2.2.2.2.1, h.2.2.2.2.2.2.2.2.2.2.2.2.2.2.2.2.2.2.2.1, h.2.2.2.2.2.2.2.2.2.2.2.2.2.2.2.2.2.2.2.2.1, v, h.2.2.2.2.2.2.2.2.2.2.2.2.2.2.2.2.2.2.2.2.2.2)
def ms_sizes (h : MH) (j : Nat) (v : Int32) : MH := mz_sizes h (va_up (mh_sizes h) j v)
def mc_sizes (h : MH) (f : Nat → Int32) : MH := mz_sizes h f
def mz_stacks (h : MH) (v : Nat → Int64) : MH := (h.1, h.2.1, h.2.2.1, h.2.2.2.1, h.2.2.2.2.1, h.2.2.2.2.2.1, h.2.2.2.2.2.2.1, h.2.2.2.2.2.2.2.1, h.2.2.2.2.2.2.2.2.1, h.2.2.2.2.2.2.2.2.2.1, h.2.2.2.2.2.2.2.2.2.2.1, h.2.2.2.2.2.2.2.2.2.2.2.1, h.2.2.2.2.2.2.2.2.2.2.2.2.1, h.2.2.2.2.2.2.2.2.2.2.2.2.2.1, h.2.2.2.2.2.2.2.2.2.2.2.2.2.2.1, h.2.2.2.2.2.2.2.2.2.2.2.2.2.2.2.1, h.2.2.2.2.2.2.2.2.2.2.2.2.2.2.2.2.1, h.2.2.2.2.2.2.2.2.2.2.2.2.2.2.2.2.2.1, h.2.2.2.2.2.2.2.2.2.2.2.2.2.2.2.2.2.2.1, h.2.2.2.2.2.2.2.2.2.2.2.2.2.2.2.2.2.2.2.1, h.2.2.2.2.2.2.2.2.2.2.2.2.2.2.2.2.2.2.2.2.1, h.2.2.2.2.2.2.2.2.2.2.2.2.2.2.2.2.2.2.2.2.2.1, v, h.2.2.2.2.2.2.2.2.2.2.2.2.2.2.2.2.2.2.2.2.2.2.2)
def ms_stacks (h : MH) (j : Nat) (v : Int64) : MH := mz_stacks h (va_up (mh_stacks h) j v)
def mc_stacks (h : MH) (f : Nat → Int64) : MH := mz_stacks h f
def mz_returns (h : MH) (v : Nat → Int32) : MH := (h.1, h.2.1, h.2.2.1, h.2.2.2.1, h.2.2.2.2.1, h.2.2.2.2.2.1, h.2.2.2.2.2.2.1, h.2.2.2.2.2.2.2.1, h.2.2.2.2.2.2.2.2.1, h.2.2.2.2.2.2.2.2.2.1, h.2.2.2.2.2.2.2.2.2.2.1, h.2.2.2.2.2.2.2.2.2.2.2.1, h.2.2.2.2.2.2.2.2.2.2.2.2.1, h.2.2.2.2.2.2.2.2.2.2.2.2.2.1, h.2.2.2.2.2.2.2.2.2.2.2.2.2.2.1, h.2.2.2.2.2.2.2.2.2.2.2.2.2.2.2.1, h.2.2.2.2.2.2.2.2.2.2.2.2.2.2.2.2.1, h.2.2.2.2.2.2.2.2.2.2.2.2.2.2.2.2.2.1, h.2.2.2.2.2.2.2.2.2.2.2.2.2.2.2.2.2.2.1, h.2.2.2.2.2.2.2.2.2.2.2.2.2.2.2.2.2.2.2.1, h.2.2.2.2.2.2.2.2.2.2.2.2.2.2.2.2.2.2.2.2.1, h.2.2.2.2.2.2.2.2.2.2.2.2.2.2.2.2.2.2.2.2.2.1, h.2.2.2.2.2.2.2.2.2.2.2.2.2.2.2.2.2.2.2.2.2.2.1, v, h.2.2.2.2.2.2.2.2.2.2.2.2.2.2.2.2.2.2.2.2.2.2.2.2)
def ms_returns (h : MH) (j : Nat) (v : Int32) : MH := mz_returns h (va_up (mh_returns h) j v)
def mc_returns (h : MH) (f : Nat → Int32) : MH := mz_returns h f
def mz_back (h : MH) (v : Nat → Int32) : MH := (h.1, h.2.1, h.2.2.1, h.2.2.2.1, h.2.2.2.2.1, h.2.2.2.2.2.1, h.2.2.2.2.2.2.1, h.2.2.2.2.2.2.2.1, h.2.2.2.2.2.2.2.2.1, h.2.2.2.2.2.2.2.2.2.1, h.2.2.2.2.2.2.2.2.2.2.1, h.2.2.2.2.2.2.2.2.2.2.2.1, h.2.2.2.2.2.2.2.2.2.2.2.2.1, h.2.2.2.2.2.2.2.2.2.2.2.2.2.1, h.2.2.2.2.2.2.2.2.2.2.2.2.2.2.1, h.2.2.2.2.2.2.2.2.2.2.2.2.2.2.2.1, h.2.2.2.2.2.2.2.2.2.2.2.2.2.2.2.2.1, h.2.2.2.2.2.2.2.2.2.2.2.2.2.2.2.2.2.1, h.2.2.2.2.2.2.2.2.2.2.2.2.2.2.2.2.2.2.1, h.2.2.2.2.2.2.2.2.2.2.2.2.2.2.2.2.2.2.2.1, h.2.2.2.2.2.2.2.2.2.2.2.2.2.2.2.2.2.2.2.2.1, h.2.2.2.2.2.2.2.2.2.2.2.2.2.2.2.2.2.2.2.2.2.1, h.2.2.2.2.2.2.2.2.2.2.2.2.2.2.2.2.2.2.2.2.2.2.1, h.2.2.2.2.2.2.2.2.2.2.2.2.2.2.2.2.2.2.2.2.2.2.2.1, v, h.2.2.2.2.2.2.2.2.2.2.2.2.2.2.2.2.2.2.2.2.2.2.2.2.2)
def ms_back (h : MH) (j : Nat) (v : Int32) : MH := mz_back h (va_up (mh_back h) j v)
def mc_back (h : MH) (f : Nat → Int32) : MH := mz_back h f
def mz_begins (h : MH) (v : Nat → Int32) : MH := (h.1, h.2.1, h.2.2.1, h.2.2.2.1, h.2.2.2.2.1, h.2.2.2.2.2.1, h.2.2.2.2.2.2.1, h.2.2.2.2.2.2.2.1, h.2.2.2.2.2.2.2.2.1, h.2.2.2.2.2.2.2.2.2.1, h.2.2.2.2.2.2.2.2.2.2.1, h.2.2.2.2.2.2.2.2.2.2.2.1, h.2.2.2.2.2.2.2.2.2.2.2.2.1, h.2.2.2.2.2.2.2.2.2.2.2.2.2.1, h.2.2.2.2.2.2.2.2.2.2.2.2.2.2.1, h.2.2.2.2.2.2.2.2.2.2.2.2.2.2.2.1, h.2.2.2.2.2.2.2.2.2.2.2.2.2.2.2.2.1, h.2.2.2.2.2.2.2.2.2.2.2.2.2.2.2.2.2.1, h.2.2.2.2.2.2.2.2.2.2.2.2.2.2.2.2.2.2.1, h.2.2.2.2.2.2.2.2.2.2.2.2.2.2.2.2.2.2.2.1, h.2.2.2.2.2.2.2.2.2.2.2.2.2.2.2.2.2.2.2.2.1, h.2.2.2.2.2.2.2.2.2.2.2.2.2.2.2.2.2.2.2.2.2.1, h.2.2.2.2.2.2.2.2.2.2.2.2.2.2.2.2.2.2.2.2.2.2.1, h.2.2.2.2.2.2.2.2.2.2.2.2.2.2.2.2.2.2.2.2.2.2.2.1, h.2.2.2.2.2.2.2.2.2.2.2.2.2.2.2.2.2.2.2.2.2.2.2.2.1, v, h.2.2.2.2.2.2.2.2.2.2.2.2.2.2.2.2.2.2.2.2.2.2.2.2.2.2)
def ms_begins (h : MH) (j : Nat) (v : Int32) : MH := mz_begins h (va_up (mh_begins h) j v)
def mc_begins (h : MH) (f : Nat → Int32) : MH := mz_begins h f
def mz_lengths (h : MH) (v : Nat → Int32) : MH := (h.1, h.2.1, h.2.2.1, h.2.2.2.1, h.2.2.2.2.1, h.2.2.2.2.2.1, h.2.2.2.2.2.2.1, h.2.2.2.2.2.2.2.1, h.2.2.2.2.2.2.2.2.1, h.2.2.2.2.2.2.2.2.2.1, h.2.2.2.2.2.2.2.2.2.2.1, h.2.2.2.2.2.2.2.2.2.2.2.1, h.2.2.2.2.2.2.2.2.2.2.2.2.1, h.2.2.2.2.2.2.2.2.2.2.2.2.2.1, h.2.2.2.2.2.2.2.2.2.2.2.2.2.2.1, h.2.2.2.2.2.2.2.2.2.2.2.2.2.2.2.1, h.2.2.2.2.2.2.2.2.2.2.2.2.2.2.2.2.1, h.2.2.2.2.2.2.2.2.2.2.2.2.2.2.2.2.2.1, h.2.2.2.2.2.2.2.2.2.2.2.2.2.2.2.2.2.2.1, h.2.2.2.2.2.2.2.2.2.2.2.2.2.2.2.2.2.2.2.1, h.2.2.2.2.2.2.2.2.2.2.2.2.2.2.2.2.2.2.2.2.1, h.2.2.2.2.2.2.2.2.2.2.2.2.2.2.2.2.2.2.2.2.2.1, h.2.2.2.2.2.2.2.2.2.2.2.2.2.2.2.2.2.2.2.2.2.2.1, h.2.2.2.2.2.2.2.2.2.2.2.2.2.2.2.2.2.2.2.2.2.2.2.1, h.2.2.2.2.2.2.2.2.2.2.2.2.2.2.2.2.2.2.2.2.2.2.2.2.1, h.2.2.2.2.2.2.2.2.2.2.2.2.2.2.2.2.2.2.2.2.2.2.2.2.2.1, v, h.2.2.2.2.2.2.2.2.2.2.2.2.2.2.2.2.2.2.2.2.2.2.2.2.2.2.2)
def ms_lengths (h : MH) (j : Nat) (v : Int32) : MH := mz_lengths h (va_up (mh_lengths h) j v)
def mc_lengths (h : MH) (f : Nat → Int32) : MH := mz_lengths h f
def mz_behind (h : MH) (v : Nat → Int32) : MH := (h.1, h.2.1, h.2.2.1, h.2.2.2.1, h.2.2.2.2.1, h.2.2.2.2.2.1, h.2.2.2.2.2.2.1, h.2.2.2.2.2.2.2.1, h.2.2.2.2.2.2.2.2.1, h.2.2.2.2.2.2.2.2.2.1, h.2.2.2.2.2.2.2.2.2.2.1, h.2.2.2.2.2.2.2.2.2.2.2.1, h.2.2.2.2.2.2.2.2.2.2.2.2.1, h.2.2.2.2.2.2.2.2.2.2.2.2.2.1, h.2.2.2.2.2.2.2.2.2.2.2.2.2.2.1, h.2.2.2.2.2.2.2.2.2.2.2.2.2.2.2.1, h.2.2.2.2.2.2.2.2.2.2.2.2.2.2.2.2.1, h.2.2.2.2.2.2.2.2.2.2.2.2.2.2.2.2.2.1, h.2.2.2.2.2.2.2.2.2.2.2.2.2.2.2.2.2.2.1, h.2.2.2.2.2.2.2.2.2.2.2.2.2.2.2.2.2.2.2.1, h.2.2.2.2.2.2.2.2.2.2.2.2.2.2.2.2.2.2.2.2.1, h.2.2.2.2.2.2.2.2.2.2.2.2.2.2.2.2.2.2.2.2.2.1, h.2.2.2.2.2.2.2.2.2.2.2.2.2.2.2.2.2.2.2.2.2.2.1, h.2.2.2.2.2.2.2.2.2.2.2.2.2.2.2.2.2.2.2.2.2.2.2.1, h.2.2.2.2.2.2.2.2.2.2.2.2.2.2.2.2.2.2.2.2.2.2.2.2.1, h.2.2.2.2.2.2.2.2.2.2.2.2.2.2.2.2.2.2.2.2.2.2.2.2.2.1, h.2.2.2.2.2.2.2.2.2.2.2.2.2.2.2.2.2.2.2.2.2.2.2.2.2.2.1, v, h.2.2.2.2.2.2.2.2.2.2.2.2.2.2.2.2.2.2.2.2.2.2.2.2.2.2.2.2)
def ms_behind (h : MH) (j : Nat) (v : Int32) : MH := mz_behind h (va_up (mh_behind h) j v)
def mc_behind (h : MH) (f : Nat → Int32) : MH := mz_behind h f
def mz_covered (h : MH) (v : Nat → Int32) : MH := (h.1, h.2.1, h.2.2.1, h.2.2.2.1, h.2.2.2.2.1, h.2.2.2.2.2.1, h.2.2.2.2.2.2.1, h.2.2.2.2.2.2.2.1, h.2.2.2.2.2.2.2.2.1, h.2.2.2.2.2.2.2.2.2.1, h.2.2.2.2.2.2.2.2.2.2.1, h.2.2.2.2.2.2.2.2.2.2.2.1, h.2.2.2.2.2.2.2.2.2.2.2.2.1, h.2.2.2.2.2.2.2.2.2.2.2.2.2.1, h.2.2.2.2.2.2.2.2.2.2.2.2.2.2.1, h.2.2.2.2.2.2.2.2.2.2.2.2.2.2.2.1, h.2.2.2.2.2.2.2.2.2.2.2.2.2.2.2.2.1, h.2.2.2.2.2.2.2.2.2.2.2.2.2.2.2.2.2.1, h.2.2.2.2.2.2.2.2.2.2.2.2.2.2.2.2.2.2.1, h.2.2.2.2.2.2.2.2.2.2.2.2.2.2.2.2.2.2.2.1, h.2.2.2.2.2.2.2.2.2.2.2.2.2.2.2.2.2.2.2.2.1, h.2.2.2.2.2.2.2.2.2.2.2.2.2.2.2.2.2.2.2.2.2.1, h.2.2.2.2.2.2.2.2.2.2.2.2.2.2.2.2.2.2.2.2.2.2.1, h.2.2.2.2.2.2.2.2.2.2.2.2.2.2.2.2.2.2.2.2.2.2.2.1, h.2.2.2.2.2.2.2.2.2.2.2.2.2.2.2.2.2.2.2.2.2.2.2.2.1, h.2.2.2.2.2.2.2.2.2.2.2.2.2.2.2.2.2.2.2.2.2.2.2.2.2.1, h.2.2.2.2.2.2.2.2.2.2.2.2.2.2.2.2.2.2.2.2.2.2.2.2.2.2.1, h.2.2.2.2.2.2.2.2.2.2.2.2.2.2.2.2.2.2.2.2.2.2.2.2.2.2.2.1, v, h.2.2.2.2.2.2.2.2.2.2.2.2.2.2.2.2.2.2.2.2.2.2.2.2.2.2.2.2.2)
def ms_covered (h : MH) (j : Nat) (v : Int32) : MH := mz_covered h (va_up (mh_covered h) j v)
def mc_covered (h : MH) (f : Nat → Int32) : MH := mz_covered h f
def mz_met (h : MH) (v : Nat → Int32) : MH := (h.1, h.2.1, h.2.2.1, h.2.2.2.1, h.2.2.2.2.1, h.2.2.2.2.2.1, h.2.2.2.2.2.2.1, h.2.2.2.2.2.2.2.1, h.2.2.2.2.2.2.2.2.1, h.2.2.2.2.2.2.2.2.2.1, h.2.2.2.2.2.2.2.2.2.2.1, h.2.2.2.2.2.2.2.2.2.2.2.1, h.2.2.2.2.2.2.2.2.2.2.2.2.1, h.2.2.2.2.2.2.2.2.2.2.2.2.2.1, h.2.2.2.2.2.2.2.2.2.2.2.2.2.2.1, h.2.2.2.2.2.2.2.2.2.2.2.2.2.2.2.1, h.2.2.2.2.2.2.2.2.2.2.2.2.2.2.2.2.1, h.2.2.2.2.2.2.2.2.2.2.2.2.2.2.2.2.2.1, h.2.2.2.2.2.2.2.2.2.2.2.2.2.2.2.2.2.2.1, h.2.2.2.2.2.2.2.2.2.2.2.2.2.2.2.2.2.2.2.1, h.2.2.2.2.2.2.2.2.2.2.2.2.2.2.2.2.2.2.2.2.1, h.2.2.2.2.2.2.2.2.2.2.2.2.2.2.2.2.2.2.2.2.2.1, h.2.2.2.2.2.2.2.2.2.2.2.2.2.2.2.2.2.2.2.2.2.2.1, h.2.2.2.2.2.2.2.2.2.2.2.2.2.2.2.2.2.2.2.2.2.2.2.1, h.2.2.2.2.2.2.2.2.2.2.2.2.2.2.2.2.2.2.2.2.2.2.2.2.1, h.2.2.2.2.2.2.2.2.2.2.2.2.2.2.2.2.2.2.2.2.2.2.2.2.2.1, h.2.2.2.2.2.2.2.2.2.2.2.2.2.2.2.2.2.2.2.2.2.2.2.2.2.2.1, h.2.2.2.2.2.2.2.2.2.2.2.2.2.2.2.2.2.2.2.2.2.2.2.2.2.2.2.1, h.2.2.2.2.2.2.2.2.2.2.2.2.2.2.2.2.2.2.2.2.2.2.2.2.2.2.2.2.1, v, h.2.2.2.2.2.2.2.2.2.2.2.2.2.2.2.2.2.2.2.2.2.2.2.2.2.2.2.2.2.2)
def ms_met (h : MH) (j : Nat) (v : Int32) : MH := mz_met h (va_up (mh_met h) j v)
def mc_met (h : MH) (f : Nat → Int32) : MH := mz_met h f
def mz_come (h : MH) (v : Nat → Int32) : MH := (h.1, h.2.1, h.2.2.1, h.2.2.2.1, h.2.2.2.2.1, h.2.2.2.2.2.1, h.2.2.2.2.2.2.1, h.2.2.2.2.2.2.2.1, h.2.2.2.2.2.2.2.2.1, h.2.2.2.2.2.2.2.2.2.1, h.2.2.2.2.2.2.2.2.2.2.1, h.2.2.2.2.2.2.2.2.2.2.2.1, h.2.2.2.2.2.2.2.2.2.2.2.2.1, h.2.2.2.2.2.2.2.2.2.2.2.2.2.1, h.2.2.2.2.2.2.2.2.2.2.2.2.2.2.1, h.2.2.2.2.2.2.2.2.2.2.2.2.2.2.2.1, h.2.2.2.2.2.2.2.2.2.2.2.2.2.2.2.2.1, h.2.2.2.2.2.2.2.2.2.2.2.2.2.2.2.2.2.1, h.2.2.2.2.2.2.2.2.2.2.2.2.2.2.2.2.2.2.1, h.2.2.2.2.2.2.2.2.2.2.2.2.2.2.2.2.2.2.2.1, h.2.2.2.2.2.2.2.2.2.2.2.2.2.2.2.2.2.2.2.2.1, h.2.2.2.2.2.2.2.2.2.2.2.2.2.2.2.2.2.2.2.2.2.1, h.2.2.2.2.2.2.2.2.2.2.2.2.2.2.2.2.2.2.2.2.2.2.1, h.2.2.2.2.2.2.2.2.2.2.2.2.2.2.2.2.2.2.2.2.2.2.2.1, h.2.2.2.2.2.2.2.2.2.2.2.2.2.2.2.2.2.2.2.2.2.2.2.2.1, h.2.2.2.2.2.2.2.2.2.2.2.2.2.2.2.2.2.2.2.2.2.2.2.2.2.1, h.2.2.2.2.2.2.2.2.2.2.2.2.2.2.2.2.2.2.2.2.2.2.2.2.2.2.1, h.2.2.2.2.2.2.2.2.2.2.2.2.2.2.2.2.2.2.2.2.2.2.2.2.2.2.2.1, h.2.2.2.2.2.2.2.2.2.2.2.2.2.2.2.2.2.2.2.2.2.2.2.2.2.2.2.2.1, h.2.2.2.2.2.2.2.2.2.2.2.2.2.2.2.2.2.2.2.2.2.2.2.2.2.2.2.2.2.1, v)
def ms_come (h : MH) (j : Nat) (v : Int32) : MH := mz_come h (va_up (mh_come h) j v)
def mc_come (h : MH) (f : Nat → Int32) : MH := mz_come h f
def mf_M_blank_L2 (fuel : Nat) : Nat → Int32 → MH → Option (MH)
  | 0, _, _ => none
  | n + 1, v1, h => if (96 : Int32) ≤ v1 then some (h) else (gd 96 v1).bind fun j1 => (some (ms_field h j1 (32 : Int32))).bind fun g2 => (mf_M_blank_L2 fuel n) (v1 + (1 : Int32)) g2
def mf_M_blank (fuel : Nat) (h : MH) : Option (MH) :=
  mf_M_blank_L2 fuel fuel (0 : Int32) h
def mf_M_thrown (h : MH) : Int32 :=
  (mh_vfault h)
def mf_M_refused (a1 : Int32) (h : MH) : Int32 × MH :=
  if a1 ≤ 0 then ((0 : Int32), (ms_vfault h a1)) else ((1 : Int32), (ms_vfault h a1))
def mf_M_isPlace (a0 : Int32) (a1 : Int32) : Int32 :=
  if a0 < 0 then (0 : Int32) else if (12 : Int32) ≤ a0 then (0 : Int32) else if a1 < 0 then (0 : Int32) else if (8 : Int32) ≤ a1 then (0 : Int32) else (1 : Int32)
def mf_M_isSign (a0 : Int64) : Int32 :=
  if (lg_cmp a0 (32 : Int64)) < 0 then (0 : Int32) else if 0 < (lg_cmp a0 (126 : Int64)) then (0 : Int32) else (1 : Int32)
def mf_M_change_J130 (fuel : Nat) (recL23 : Int32 → Int32 → Int32 → MH → Option (MH)) (v1 : Int32) (v3 : Int32) (v4 : Int32) (h : MH) : Option (MH) :=
  recL23 v1 v3 (v4 + (1 : Int32)) h
def mf_M_change_L89 (fuel : Nat) (recL23 : Int32 → Int32 → Int32 → MH → Option (MH)) : Nat → Int32 → Int32 → Int32 → Int32 → MH → Option (MH)
  | 0, _, _, _, _, _ => none
  | n + 1, v1, v3, v4, v5, h => if (96 : Int32) ≤ v5 then mf_M_change_J130 fuel recL23 v1 (v3 + (1 : Int32)) v4 h else (gd 2880 (((96 : Int32) * v4) + v5)).bind fun j16 => (gd 2880 (((96 : Int32) * v3) + v5)).bind fun j17 => (some (ms_covered h j17 (vp_nar .boolean (mh_covered h j16)))).bind fun g18 => (mf_M_change_L89 fuel recL23 n) v1 v3 v4 (v5 + (1 : Int32)) g18
def mf_M_change_L23 (fuel : Nat) : Nat → Int32 → Int32 → Int32 → MH → Option (MH)
  | 0, _, _, _, _ => none
  | n + 1, v1, v3, v4, h => if (mh_vblocks h) ≤ v4 then (some (ms_vdrops h (((mh_vdrops h) + (mh_vblocks h)) - v3))).bind fun g4 => (some (ms_vblocks g4 v3)).bind fun g5 => some (g5) else (gd 2880 (((96 : Int32) * v4) + v1)).bind fun j6 => if (mh_covered h j6) = 0 then (gd 30 v4).bind fun j7 => (gd 30 v3).bind fun j8 => (some (ms_begins h j8 (mh_begins h j7))).bind fun g9 => (gd 30 v4).bind fun j10 => (gd 30 v3).bind fun j11 => (some (ms_lengths g9 j11 (mh_lengths g9 j10))).bind fun g12 => (gd 30 v4).bind fun j13 => (gd 30 v3).bind fun j14 => (some (ms_behind g12 j14 (mh_behind g12 j13))).bind fun g15 => mf_M_change_L89 fuel (mf_M_change_L23 fuel n) fuel v1 v3 v4 (0 : Int32) g15 else mf_M_change_J130 fuel (mf_M_change_L23 fuel n) v1 v3 v4 h
def mf_M_change (fuel : Nat) (a1 : Int32) (a2 : Int32) (h : MH) : Option (MH) :=
  (gd 96 a1).bind fun j1 => if (mh_field h j1) = a2 then some (h) else (gd 96 a1).bind fun j2 => (some (ms_field h j2 a2)).bind fun g3 => mf_M_change_L23 fuel fuel a1 (0 : Int32) (0 : Int32) g3
def mf_M_put_J26 (fuel : Nat) (v1 : Int32) (v2 : Int32) (v3 : Int32) (w1 : Int32) (h : MH) : Option (Int32 × MH) :=
  if (mf_M_refused w1 h).1 = 0 then (gd 96 (((12 : Int32) * v2) + v1)).bind fun j1 => (mf_M_change fuel (((12 : Int32) * v2) + v1) v3 (mf_M_refused w1 h).2).bind fun q2 => some ((((mh_field (mf_M_refused w1 h).2 j1).toUInt32 % 65536).toInt32, q2)) else some (((0 : Int32), (mf_M_refused w1 h).2))
def mf_M_put (fuel : Nat) (a1 : Int32) (a2 : Int32) (a3 : Int32) (h : MH) : Option (Int32 × MH) :=
  if (mf_M_isPlace a1 a2) = 0 then mf_M_put_J26 fuel a1 a2 a3 (1 : Int32) h else if (mf_M_isSign a3.toInt64) = 0 then mf_M_put_J26 fuel a1 a2 a3 (2 : Int32) h else mf_M_put_J26 fuel a1 a2 a3 (0 : Int32) h
def mf_M_sign_J14 (v1 : Int32) (v2 : Int32) (w1 : Int32) (h : MH) : Option (Int32 × MH) :=
  if (mf_M_refused w1 h).1 = 0 then (gd 96 (((12 : Int32) * v2) + v1)).bind fun j1 => some ((((mh_field (mf_M_refused w1 h).2 j1).toUInt32 % 65536).toInt32, (mf_M_refused w1 h).2)) else some (((0 : Int32), (mf_M_refused w1 h).2))
def mf_M_sign (a1 : Int32) (a2 : Int32) (h : MH) : Option (Int32 × MH) :=
  if (mf_M_isPlace a1 a2) = 0 then mf_M_sign_J14 a1 a2 (1 : Int32) h else mf_M_sign_J14 a1 a2 (0 : Int32) h
def mf_M_type (a1 : Int32) (h : MH) : Option (Int32 × MH) :=
  (some (ms_vfault h (0 : Int32))).bind fun g1 => if (mf_M_isSign a1.toInt64) = 0 then some (((0 : Int32), g1)) else if (mh_vtyped g1) = (12 : Int32) then some (((0 : Int32), g1)) else (gd 12 (mh_vtyped g1)).bind fun j2 => (some (ms_text g1 j2 a1)).bind fun g3 => (some (ms_vtyped g3 ((mh_vtyped g3) + (1 : Int32)))).bind fun g4 => some (((1 : Int32), g4))
def mf_M_lay_J65 (fuel : Nat) (recL36 : Int32 → Int32 → Int32 → MH → Option (Int32 × MH)) (v1 : Int32) (v2 : Int32) (v3 : Int32) (w1 : Int32) (w2 : Int32) (h : MH) : Option (Int32 × MH) :=
  (mf_M_change fuel w1 w2 h).bind fun q2 => recL36 v1 v2 (v3 + (1 : Int32)) q2
def mf_M_lay_L36 (fuel : Nat) : Nat → Int32 → Int32 → Int32 → MH → Option (Int32 × MH)
  | 0, _, _, _, _ => none
  | n + 1, v1, v2, v3, h => if (12 : Int32) ≤ v3 then some ((v2, h)) else if v2 ≤ v3 then mf_M_lay_J65 fuel (mf_M_lay_L36 fuel n) v1 v2 v3 (((12 : Int32) * v1) + v3) (32 : Int32) h else (gd 12 v3).bind fun j3 => mf_M_lay_J65 fuel (mf_M_lay_L36 fuel n) v1 v2 v3 (((12 : Int32) * v1) + v3) (mh_text h j3) h
def mf_M_lay_J16 (fuel : Nat) (v1 : Int32) (w1 : Int32) (h : MH) : Option (Int32 × MH) :=
  if (mf_M_refused w1 h).1 = 0 then (some (ms_vtyped (mf_M_refused w1 h).2 (0 : Int32))).bind fun g1 => mf_M_lay_L36 fuel fuel v1 (mh_vtyped (mf_M_refused w1 h).2) (0 : Int32) g1 else some (((0 : Int32), (mf_M_refused w1 h).2))
def mf_M_lay_J11 (fuel : Nat) (v1 : Int32) (h : MH) : Option (Int32 × MH) :=
  mf_M_lay_J16 fuel v1 (1 : Int32) h
def mf_M_lay (fuel : Nat) (a1 : Int32) (h : MH) : Option (Int32 × MH) :=
  if a1 < 0 then mf_M_lay_J11 fuel a1 h else if a1 ≤ (7 : Int32) then mf_M_lay_J16 fuel a1 (0 : Int32) h else mf_M_lay_J11 fuel a1 h
def mf_M_input_J15 (v1 : Int64) (w1 : Int32) (h : MH) : Option (Int32 × MH) :=
  if (mf_M_refused w1 h).1 = 0 then (gd 40 (mh_vinputs (mf_M_refused w1 h).2)).bind fun j1 => (some (ms_input (mf_M_refused w1 h).2 j1 v1)).bind fun g2 => (some (ms_vinputs g2 ((mh_vinputs g2) + (1 : Int32)))).bind fun g3 => some (((mh_vinputs g3), g3)) else some (((0 : Int32), (mf_M_refused w1 h).2))
def mf_M_input (a1 : Int64) (h : MH) : Option (Int32 × MH) :=
  if (mh_vinputs h) = (40 : Int32) then mf_M_input_J15 a1 (1 : Int32) h else mf_M_input_J15 a1 (0 : Int32) h
def mf_M_clear (fuel : Nat) (h : MH) : Option (MH) :=
  (some (ms_vfault h (0 : Int32))).bind fun g1 => (mf_M_blank fuel g1).bind fun q2 => (some (ms_vinputs q2 (0 : Int32))).bind fun g3 => (some (ms_vread g3 (0 : Int32))).bind fun g4 => (some (ms_vshown g4 (0 : Int32))).bind fun g5 => (some (ms_vpointers g5 (0 : Int32))).bind fun g6 => (some (ms_vstopped g6 (0 : Int32))).bind fun g7 => (some (ms_vsteps g7 (0 : Int32))).bind fun g8 => (some (ms_vblocks g8 (0 : Int32))).bind fun g9 => (some (ms_vdrops g9 (0 : Int32))).bind fun g10 => some (g10)
def mf_M_born (a1 : Int32) (a2 : Int32) (h : MH) : Option (MH) :=
  (some (ms_vpointers h ((mh_vpointers h) + (1 : Int32)))).bind fun g1 => (gd 8 (mh_vpointers h)).bind fun j2 => (some (ms_lives g1 j2 (vp_nar .boolean (1 : Int32)))).bind fun g3 => (gd 8 (mh_vpointers h)).bind fun j4 => (some (ms_place g3 j4 a1)).bind fun g5 => (gd 8 (mh_vpointers h)).bind fun j6 => (some (ms_direction g5 j6 a2)).bind fun g7 => (gd 8 (mh_vpointers h)).bind fun j8 => (some (ms_quoted g7 j8 (vp_nar .boolean (0 : Int32)))).bind fun g9 => (gd 8 (mh_vpointers h)).bind fun j10 => (some (ms_sizes g9 j10 (0 : Int32))).bind fun g11 => (gd 8 (mh_vpointers h)).bind fun j12 => (some (ms_returns g11 j12 (0 : Int32))).bind fun g13 => some (g13)
def mf_M_start (h : MH) : Option (MH) :=
  (some (ms_vfault h (0 : Int32))).bind fun g1 => (some (ms_vread g1 (0 : Int32))).bind fun g2 => (some (ms_vshown g2 (0 : Int32))).bind fun g3 => (some (ms_vstopped g3 (0 : Int32))).bind fun g4 => (some (ms_vsteps g4 (0 : Int32))).bind fun g5 => (some (ms_vpointers g5 (0 : Int32))).bind fun g6 => (mf_M_born (0 : Int32) (0 : Int32) g6).bind fun q7 => some (q7)
def mf_M_living_J28 (fuel : Nat) (recL4 : Int32 → Int32 → MH → Option (Int32)) (v2 : Int32) (w0 : Int32) (h : MH) : Option (Int32) :=
  recL4 w0 (v2 + (1 : Int32)) h
def mf_M_living_L4 (fuel : Nat) : Nat → Int32 → Int32 → MH → Option (Int32)
  | 0, _, _, _ => none
  | n + 1, v1, v2, h => if (mh_vpointers h) ≤ v2 then some (v1) else (gd 8 v2).bind fun j1 => if (mh_lives h j1) = 0 then mf_M_living_J28 fuel (mf_M_living_L4 fuel n) v2 v1 h else mf_M_living_J28 fuel (mf_M_living_L4 fuel n) v2 (v1 + (1 : Int32)) h
def mf_M_living (fuel : Nat) (h : MH) : Option (Int32) :=
  mf_M_living_L4 fuel fuel (0 : Int32) (0 : Int32) h
def mf_M_stateNow (fuel : Nat) (h : MH) : Option (Int32) :=
  if (mh_vstopped h) ≤ 0 then (mf_M_living fuel h).bind fun q1 => if q1 ≤ 0 then some ((1 : Int32)) else some ((0 : Int32)) else some ((mh_vstopped h))
def mf_M_moved (a0 : Int32) (a1 : Int32) : Int32 :=
  if a1 = (0 : Int32) then (((12 : Int32) * (a0 / (12 : Int32))) + (((a0 - a0 / (12 : Int32) * (12 : Int32)) + (1 : Int32)) - ((a0 - a0 / (12 : Int32) * (12 : Int32)) + (1 : Int32)) / (12 : Int32) * (12 : Int32))) else if a1 = (1 : Int32) then (((12 : Int32) * (((a0 / (12 : Int32)) + (1 : Int32)) - ((a0 / (12 : Int32)) + (1 : Int32)) / (8 : Int32) * (8 : Int32))) + (a0 - a0 / (12 : Int32) * (12 : Int32))) else if a1 = (2 : Int32) then (((12 : Int32) * (a0 / (12 : Int32))) + (((a0 - a0 / (12 : Int32) * (12 : Int32)) + (11 : Int32)) - ((a0 - a0 / (12 : Int32) * (12 : Int32)) + (11 : Int32)) / (12 : Int32) * (12 : Int32))) else (((12 : Int32) * (((a0 / (12 : Int32)) + (7 : Int32)) - ((a0 / (12 : Int32)) + (7 : Int32)) / (8 : Int32) * (8 : Int32))) + (a0 - a0 / (12 : Int32) * (12 : Int32)))
def mf_M_turned (a0 : Int32) (a1 : Int32) : Int32 :=
  if a0 = (47 : Int32) then ((3 : Int32) - a1) else if a0 = (60 : Int32) then (2 : Int32) else if a0 = (62 : Int32) then (0 : Int32) else if a0 = (92 : Int32) then if (a1 - a1 / (2 : Int32) * (2 : Int32)) = 0 then (a1 + (1 : Int32)) else (a1 - (1 : Int32)) else if a0 = (94 : Int32) then (3 : Int32) else if a0 = (118 : Int32) then (1 : Int32) else a1
def mf_M_isAct (a0 : Int32) : Int32 :=
  if a0 = (63 : Int32) then (1 : Int32) else if a0 = (110 : Int32) then (1 : Int32) else if a0 = (98 : Int32) then (1 : Int32) else if a0 = (105 : Int32) then (1 : Int32) else if a0 = (119 : Int32) then (1 : Int32) else if a0 = (67 : Int32) then (1 : Int32) else if a0 = (82 : Int32) then (1 : Int32) else if a0 = (102 : Int32) then (1 : Int32) else if a0 = (64 : Int32) then (1 : Int32) else (0 : Int32)
def mf_M_after_J87 (v4 : Int32) (v5 : Int32) (w0 : Int32) (h : MH) : Option (Int32) :=
  if v4 = (34 : Int32) then some (((((8 : Int32) * w0) + ((2 : Int32) * v5)) + (1 : Int32))) else some (((((8 : Int32) * w0) + ((2 : Int32) * v5)) + (0 : Int32)))
def mf_M_after (a1 : Int32) (h : MH) : Option (Int32) :=
  (gd 96 (a1 / (8 : Int32))).bind fun j1 => if (a1 - a1 / (2 : Int32) * (2 : Int32)) = (1 : Int32) then if (mh_field h j1) = (34 : Int32) then some (((((8 : Int32) * (mf_M_moved (a1 / (8 : Int32)) ((a1 / (2 : Int32)) - (a1 / (2 : Int32)) / (4 : Int32) * (4 : Int32)))) + ((2 : Int32) * ((a1 / (2 : Int32)) - (a1 / (2 : Int32)) / (4 : Int32) * (4 : Int32)))) + (0 : Int32))) else some (((((8 : Int32) * (mf_M_moved (a1 / (8 : Int32)) ((a1 / (2 : Int32)) - (a1 / (2 : Int32)) / (4 : Int32) * (4 : Int32)))) + ((2 : Int32) * ((a1 / (2 : Int32)) - (a1 / (2 : Int32)) / (4 : Int32) * (4 : Int32)))) + (1 : Int32))) else if (mh_field h j1) = (35 : Int32) then mf_M_after_J87 (mh_field h j1) (mf_M_turned (mh_field h j1) ((a1 / (2 : Int32)) - (a1 / (2 : Int32)) / (4 : Int32) * (4 : Int32))) (mf_M_moved (mf_M_moved (a1 / (8 : Int32)) (mf_M_turned (mh_field h j1) ((a1 / (2 : Int32)) - (a1 / (2 : Int32)) / (4 : Int32) * (4 : Int32)))) (mf_M_turned (mh_field h j1) ((a1 / (2 : Int32)) - (a1 / (2 : Int32)) / (4 : Int32) * (4 : Int32)))) h else mf_M_after_J87 (mh_field h j1) (mf_M_turned (mh_field h j1) ((a1 / (2 : Int32)) - (a1 / (2 : Int32)) / (4 : Int32) * (4 : Int32))) (mf_M_moved (a1 / (8 : Int32)) (mf_M_turned (mh_field h j1) ((a1 / (2 : Int32)) - (a1 / (2 : Int32)) / (4 : Int32) * (4 : Int32)))) h
def mf_M_pop (a1 : Int32) (h : MH) : Option (Int64 × MH) :=
  (gd 8 a1).bind fun j1 => if (mh_sizes h j1) = 0 then some (((0 : Int64), h)) else (gd 8 a1).bind fun j2 => (gd 8 a1).bind fun j3 => (some (ms_sizes h j3 ((mh_sizes h j2) - (1 : Int32)))).bind fun g4 => (gd 8 a1).bind fun j5 => (gd 192 (((24 : Int32) * a1) + (mh_sizes g4 j5))).bind fun j6 => some (((mh_stacks g4 j6), g4))
def mf_M_push (a1 : Int32) (a2 : Int64) (h : MH) : Option (MH) :=
  (gd 8 a1).bind fun j1 => (gd 192 (((24 : Int32) * a1) + (mh_sizes h j1))).bind fun j2 => (some (ms_stacks h j2 a2)).bind fun g3 => (gd 8 a1).bind fun j4 => (gd 8 a1).bind fun j5 => (some (ms_sizes g3 j5 ((mh_sizes g3 j4) + (1 : Int32)))).bind fun g6 => some (g6)
def mf_M_pops (a0 : Int32) : Int32 :=
  if a0 = (42 : Int32) then (2 : Int32) else if a0 = (43 : Int32) then (2 : Int32) else if a0 = (45 : Int32) then (2 : Int32) else if a0 = (63 : Int32) then (1 : Int32) else if a0 = (67 : Int32) then (2 : Int32) else if a0 = (98 : Int32) then (1 : Int32) else if a0 = (99 : Int32) then (1 : Int32) else if a0 = (100 : Int32) then (2 : Int32) else if a0 = (102 : Int32) then (1 : Int32) else if a0 = (103 : Int32) then (2 : Int32) else if a0 = (109 : Int32) then (2 : Int32) else if a0 = (110 : Int32) then (1 : Int32) else if a0 = (114 : Int32) then (1 : Int32) else if a0 = (115 : Int32) then (2 : Int32) else if a0 = (119 : Int32) then (3 : Int32) else if a0 = (120 : Int32) then (1 : Int32) else (0 : Int32)
def mf_M_pushes (a0 : Int32) : Int32 :=
  if a0 = (42 : Int32) then (1 : Int32) else if a0 = (43 : Int32) then (1 : Int32) else if a0 = (45 : Int32) then (1 : Int32) else if a0 = (99 : Int32) then (2 : Int32) else if a0 = (100 : Int32) then (1 : Int32) else if a0 = (103 : Int32) then (1 : Int32) else if a0 = (105 : Int32) then (1 : Int32) else if a0 = (109 : Int32) then (1 : Int32) else if a0 = (114 : Int32) then (1 : Int32) else if a0 = (115 : Int32) then (2 : Int32) else if a0 < (48 : Int32) then (0 : Int32) else if (57 : Int32) < a0 then (0 : Int32) else (1 : Int32)
def mf_M_spell_J45 (fuel : Nat) (recL5 : Int64 → Int32 → Int64 → MH → Option (Int32 × MH)) (v1 : Int64) (v3 : Int32) (v4 : Int64) (w1 : Int32) (w2 : Int32) (w3 : Int32) (h : MH) : Option (Int32 × MH) :=
  (gd 20 w1).bind fun j1 => (some (ms_digits h j1 (w2 + w3))).bind fun g2 => recL5 v1 (v3 + (1 : Int32)) (v4 / (10 : Int64)) g2
def mf_M_spell_J16 (fuel : Nat) (recL5 : Int64 → Int32 → Int64 → MH → Option (Int32 × MH)) (v1 : Int64) (v3 : Int32) (v4 : Int64) (h : MH) : Option (Int32 × MH) :=
  if 0 ≤ (v4 - v4 / (10 : Int64) * (10 : Int64)).toInt32 then mf_M_spell_J45 fuel recL5 v1 v3 v4 v3 (48 : Int32) ((v4 - v4 / (10 : Int64) * (10 : Int64)).toInt32) h else mf_M_spell_J45 fuel recL5 v1 v3 v4 v3 (48 : Int32) (-(v4 - v4 / (10 : Int64) * (10 : Int64)).toInt32) h
def mf_M_spell_L5 (fuel : Nat) : Nat → Int64 → Int32 → Int64 → MH → Option (Int32 × MH)
  | 0, _, _, _, _ => none
  | n + 1, v1, v3, v4, h => if v3 = 0 then mf_M_spell_J16 fuel (mf_M_spell_L5 fuel n) v1 v3 v4 h else if (lg_cmp v4 (0 : Int64)) = 0 then if 0 ≤ (lg_cmp v1 (0 : Int64)) then some ((v3, h)) else (gd 20 v3).bind fun j3 => (some (ms_digits h j3 (45 : Int32))).bind fun g4 => some (((v3 + (1 : Int32)), g4)) else mf_M_spell_J16 fuel (mf_M_spell_L5 fuel n) v1 v3 v4 h
def mf_M_spell (fuel : Nat) (a1 : Int64) (h : MH) : Option (Int32 × MH) :=
  mf_M_spell_L5 fuel fuel a1 (0 : Int32) a1 h
def mf_M_topOf (a1 : Int32) (h : MH) : Option (Int64) :=
  (gd 8 a1).bind fun j1 => if (mh_sizes h j1) = 0 then some ((0 : Int64)) else (gd 8 a1).bind fun j2 => (gd 192 ((((24 : Int32) * a1) + (mh_sizes h j2)) - (1 : Int32))).bind fun j3 => some ((mh_stacks h j3))
def mf_M_fits_J136 (fuel : Nat) (w0 : Int32) (h : MH) : Option (Int32 × MH) :=
  if ((mh_vshown h) + w0) ≤ (80 : Int32) then some (((0 : Int32), h)) else some (((3 : Int32), h))
def mf_M_fits_J115 (fuel : Nat) (v1 : Int32) (v2 : Int32) (h : MH) : Option (Int32 × MH) :=
  if v2 = (98 : Int32) then mf_M_fits_J136 fuel (1 : Int32) h else (mf_M_topOf v1 h).bind fun q6 => (mf_M_spell fuel q6 h).bind fun q7 => mf_M_fits_J136 fuel (q7.1 + (1 : Int32)) q7.2
def mf_M_fits_J103 (fuel : Nat) (v1 : Int32) (v2 : Int32) (h : MH) : Option (Int32 × MH) :=
  if v2 = (110 : Int32) then mf_M_fits_J115 fuel v1 v2 h else if v2 = (98 : Int32) then mf_M_fits_J115 fuel v1 v2 h else some (((0 : Int32), h))
def mf_M_fits_J72 (fuel : Nat) (v1 : Int32) (v2 : Int32) (w0 : Int32) (h : MH) : Option (Int32 × MH) :=
  if (24 : Int32) < (w0 + (mf_M_pushes v2)) then some (((2 : Int32), h)) else if v2 = (67 : Int32) then (gd 8 v1).bind fun j8 => if (mh_returns h j8) = (8 : Int32) then some (((2 : Int32), h)) else mf_M_fits_J103 fuel v1 v2 h else mf_M_fits_J103 fuel v1 v2 h
def mf_M_fits (fuel : Nat) (a1 : Int32) (h : MH) : Option (Int32 × MH) :=
  (gd 8 a1).bind fun j1 => (gd 96 (mh_place h j1)).bind fun j2 => (gd 8 a1).bind fun j3 => if (mh_quoted h j3) = 0 then (gd 8 a1).bind fun j4 => if (mf_M_pops (mh_field h j2)) ≤ (mh_sizes h j4) then (gd 8 a1).bind fun j5 => mf_M_fits_J72 fuel a1 (mh_field h j2) ((mh_sizes h j5) - (mf_M_pops (mh_field h j2))) h else mf_M_fits_J72 fuel a1 (mh_field h j2) (0 : Int32) h else if (mh_field h j2) = (34 : Int32) then some (((0 : Int32), h)) else (gd 8 a1).bind fun j9 => if (mh_sizes h j9) = (24 : Int32) then some (((2 : Int32), h)) else some (((0 : Int32), h))
def mf_M_show (a1 : Int32) (h : MH) : Option (MH) :=
  (gd 80 (mh_vshown h)).bind fun j1 => (some (ms_output h j1 a1)).bind fun g2 => (some (ms_vshown g2 ((mh_vshown g2) + (1 : Int32)))).bind fun g3 => some (g3)
def mf_M_mod (a0 : Int64) (a2 : Int32) : Option (Int32) :=
  if a2.toInt64 = 0 then none else if a2.toInt64 = 0 then none else some ((((a0 - a0 / a2.toInt64 * a2.toInt64) + a2.toInt64) - ((a0 - a0 / a2.toInt64 * a2.toInt64) + a2.toInt64) / a2.toInt64 * a2.toInt64).toInt32)
def mf_M_reckon (a0 : Int32) (a1 : Int64) (a3 : Int64) : Option (Int64) :=
  if a0 = (42 : Int32) then some ((a1 * a3)) else if a0 = (43 : Int32) then some ((a1 + a3)) else if a0 = (45 : Int32) then some ((a1 - a3)) else if a0 = (100 : Int32) then if (lg_cmp a3 (0 : Int64)) = 0 then some ((0 : Int64)) else if a3 = 0 then none else some ((a1 / a3)) else if (lg_cmp a3 (0 : Int64)) = 0 then some ((0 : Int64)) else if a3 = 0 then none else some ((a1 - a1 / a3 * a3))
def mf_M_signOf (a0 : Int64) : Int32 :=
  if (mf_M_isSign (a0 &&& (127 : Int64))) = 0 then (32 : Int32) else (a0 &&& (127 : Int64)).toInt32
def mf_M_doReckon (a1 : Int32) (a2 : Int32) (h : MH) : Option (MH) :=
  (mf_M_pop a1 h).bind fun q1 => (mf_M_pop a1 q1.2).bind fun q2 => if a2 = (103 : Int32) then (mf_M_mod q1.1 (8 : Int32)).bind fun q3 => (mf_M_mod q2.1 (12 : Int32)).bind fun q4 => (gd 96 (((12 : Int32) * q3) + q4)).bind fun j5 => (mf_M_push a1 ((mh_field q2.2 j5).toInt64) q2.2).bind fun q6 => some (q6) else if a2 = (115 : Int32) then (mf_M_push a1 q1.1 q2.2).bind fun q7 => (mf_M_push a1 q2.1 q7).bind fun q8 => some (q8) else (mf_M_reckon a2 q2.1 q1.1).bind fun q9 => (mf_M_push a1 q9 q2.2).bind fun q10 => some (q10)
def mf_M_doOne_L162 (fuel : Nat) : Nat → Int32 → MH → Option (MH)
  | 0, _, _ => none
  | n + 1, v6, h => if v6 < 0 then (mf_M_show (32 : Int32) h).bind fun q9 => some (q9) else (gd 20 v6).bind fun j10 => (mf_M_show (mh_digits h j10) h).bind fun q11 => (mf_M_doOne_L162 fuel n) (v6 + (-1 : Int32)) q11
def mf_M_doOne (fuel : Nat) (a1 : Int32) (a2 : Int32) (h : MH) : Option (MH) :=
  (mf_M_pop a1 h).bind fun q1 => if a2 = (99 : Int32) then (mf_M_push a1 q1.1 q1.2).bind fun q27 => (mf_M_push a1 q1.1 q27).bind fun q28 => some (q28) else if a2 = (114 : Int32) then if (lg_cmp q1.1 (0 : Int64)) < 0 then (mf_M_push a1 (0 : Int64) q1.2).bind fun q21 => some (q21) else (gd 8 a1).bind fun j22 => if 0 ≤ (lg_cmp q1.1 ((mh_sizes q1.2 j22).toInt64)) then (mf_M_push a1 (0 : Int64) q1.2).bind fun q23 => some (q23) else (gd 8 a1).bind fun j24 => (gd 192 (((((24 : Int32) * a1) + (mh_sizes q1.2 j24)) - (1 : Int32)) - q1.1.toInt32)).bind fun j25 => (mf_M_push a1 (mh_stacks q1.2 j25) q1.2).bind fun q26 => some (q26) else if a2 = (63 : Int32) then if (lg_cmp q1.1 (0 : Int64)) ≤ 0 then if 0 ≤ (lg_cmp q1.1 (0 : Int64)) then (gd 8 a1).bind fun j12 => (gd 8 a1).bind fun j13 => (some (ms_direction q1.2 j13 (mh_direction q1.2 j12))).bind fun g14 => some (g14) else (gd 8 a1).bind fun j15 => (gd 8 a1).bind fun j16 => (some (ms_direction q1.2 j16 (((mh_direction q1.2 j15) + (3 : Int32)) - ((mh_direction q1.2 j15) + (3 : Int32)) / (4 : Int32) * (4 : Int32)))).bind fun g17 => some (g17) else (gd 8 a1).bind fun j18 => (gd 8 a1).bind fun j19 => (some (ms_direction q1.2 j19 (((mh_direction q1.2 j18) + (1 : Int32)) - ((mh_direction q1.2 j18) + (1 : Int32)) / (4 : Int32) * (4 : Int32)))).bind fun g20 => some (g20) else if a2 = (110 : Int32) then (mf_M_spell fuel q1.1 q1.2).bind fun q8 => mf_M_doOne_L162 fuel fuel (q8.1 - (1 : Int32)) q8.2 else if a2 = (98 : Int32) then (mf_M_show (mf_M_signOf q1.1) q1.2).bind fun q7 => some (q7) else if a2 = (102 : Int32) then (mf_M_living fuel q1.2).bind fun q2 => if (4 : Int32) ≤ q2 then some (q1.2) else (gd 8 a1).bind fun j3 => (gd 8 a1).bind fun j4 => (mf_M_born (mf_M_moved (mh_place q1.2 j4) (((mh_direction q1.2 j3) + (3 : Int32)) - ((mh_direction q1.2 j3) + (3 : Int32)) / (4 : Int32) * (4 : Int32))) (((mh_direction q1.2 j3) + (3 : Int32)) - ((mh_direction q1.2 j3) + (3 : Int32)) / (4 : Int32) * (4 : Int32)) q1.2).bind fun q5 => (mf_M_push ((mh_vpointers q5) - (1 : Int32)) q1.1 q5).bind fun q6 => some (q6) else some (q1.2)
def mf_M_doWrite (fuel : Nat) (a1 : Int32) (h : MH) : Option (MH) :=
  (mf_M_pop a1 h).bind fun q1 => (mf_M_pop a1 q1.2).bind fun q2 => (mf_M_pop a1 q2.2).bind fun q3 => (mf_M_mod q1.1 (8 : Int32)).bind fun q4 => (mf_M_mod q2.1 (12 : Int32)).bind fun q5 => (mf_M_change fuel (((12 : Int32) * q4) + q5) (mf_M_signOf q3.1) q3.2).bind fun q6 => some (q6)
def mf_M_doCall (a1 : Int32) (h : MH) : Option (MH) :=
  (mf_M_pop a1 h).bind fun q1 => (mf_M_pop a1 q1.2).bind fun q2 => (gd 8 a1).bind fun j3 => (gd 8 a1).bind fun j4 => (gd 8 a1).bind fun j5 => (gd 8 a1).bind fun j6 => (gd 64 (((8 : Int32) * a1) + (mh_returns q2.2 j3))).bind fun j7 => (some (ms_back q2.2 j7 (((4 : Int32) * (mf_M_moved (mh_place q2.2 j4) (mh_direction q2.2 j5))) + (mh_direction q2.2 j6)))).bind fun g8 => (gd 8 a1).bind fun j9 => (gd 8 a1).bind fun j10 => (some (ms_returns g8 j10 ((mh_returns g8 j9) + (1 : Int32)))).bind fun g11 => (mf_M_mod q1.1 (8 : Int32)).bind fun q12 => (mf_M_mod q2.1 (12 : Int32)).bind fun q13 => (gd 8 a1).bind fun j14 => (some (ms_place g11 j14 (((12 : Int32) * q12) + q13))).bind fun g15 => some (g15)
def mf_M_doReturn (a1 : Int32) (h : MH) : Option (MH) :=
  (gd 8 a1).bind fun j1 => if (mh_returns h j1) = 0 then (gd 8 a1).bind fun j11 => (some (ms_lives h j11 (vp_nar .boolean (0 : Int32)))).bind fun g12 => some (g12) else (gd 8 a1).bind fun j2 => (gd 8 a1).bind fun j3 => (some (ms_returns h j3 ((mh_returns h j2) - (1 : Int32)))).bind fun g4 => (gd 8 a1).bind fun j5 => (gd 64 (((8 : Int32) * a1) + (mh_returns g4 j5))).bind fun j6 => (gd 8 a1).bind fun j7 => (some (ms_place g4 j7 ((mh_back g4 j6) / (4 : Int32)))).bind fun g8 => (gd 8 a1).bind fun j9 => (some (ms_direction g8 j9 ((mh_back g4 j6) - (mh_back g4 j6) / (4 : Int32) * (4 : Int32)))).bind fun g10 => some (g10)
def mf_M_act_J592 (fuel : Nat) (v1 : Int32) (v2 : Int32) (h : MH) : Option (MH) :=
  (gd 8 v1).bind fun j6 => (gd 8 v1).bind fun j7 => (gd 8 v1).bind fun j8 => (some (ms_place h j8 (mf_M_moved (mh_place h j6) (mh_direction h j7)))).bind fun g9 => if v2 = (35 : Int32) then (gd 8 v1).bind fun j13 => (gd 8 v1).bind fun j14 => (gd 8 v1).bind fun j15 => (some (ms_place g9 j15 (mf_M_moved (mh_place g9 j13) (mh_direction g9 j14)))).bind fun g16 => some (g16) else (gd 8 v1).bind fun j10 => (gd 8 v1).bind fun j11 => (some (ms_place g9 j11 (mh_place g9 j10))).bind fun g12 => some (g12)
def mf_M_act_J576 (fuel : Nat) (v1 : Int32) (v2 : Int32) (h : MH) : Option (MH) :=
  (gd 8 v1).bind fun j17 => (gd 8 v1).bind fun j18 => (some (ms_direction h j18 (mf_M_turned v2 (mh_direction h j17)))).bind fun g19 => mf_M_act_J592 fuel v1 v2 g19
def mf_M_act_J554 (fuel : Nat) (v1 : Int32) (v2 : Int32) (h : MH) : Option (MH) :=
  if v2 < (48 : Int32) then mf_M_act_J576 fuel v1 v2 h else if (57 : Int32) < v2 then mf_M_act_J576 fuel v1 v2 h else (mf_M_push v1 ((v2 - (48 : Int32)).toInt64) h).bind fun q20 => mf_M_act_J576 fuel v1 v2 q20
def mf_M_act_J446 (fuel : Nat) (v1 : Int32) (v2 : Int32) (h : MH) : Option (MH) :=
  (mf_M_doReckon v1 v2 h).bind fun q21 => mf_M_act_J592 fuel v1 v2 q21
def mf_M_act_J455 (fuel : Nat) (v1 : Int32) (v2 : Int32) (h : MH) : Option (MH) :=
  (mf_M_doOne fuel v1 v2 h).bind fun q22 => mf_M_act_J592 fuel v1 v2 q22
def mf_M_act_J528 (fuel : Nat) (v1 : Int32) (v2 : Int32) (w1 : Int32) (h : MH) : Option (MH) :=
  (some (ms_vread h w1)).bind fun g28 => mf_M_act_J592 fuel v1 v2 g28
def mf_M_act_J500 (fuel : Nat) (v1 : Int32) (v2 : Int32) (w1 : Int32) (w2 : Int64) (h : MH) : Option (MH) :=
  (mf_M_push w1 w2 h).bind fun q27 => if (mh_vinputs q27) ≤ (mh_vread q27) then mf_M_act_J528 fuel v1 v2 (mh_vread q27) q27 else mf_M_act_J528 fuel v1 v2 ((mh_vread q27) + (1 : Int32)) q27
def mf_M_act_J50 (fuel : Nat) (v1 : Int32) (w1 : Int32) (w2 : Int32) (h : MH) : Option (MH) :=
  (gd 8 w1).bind fun j31 => (some (ms_quoted h j31 (vp_nar .boolean w2))).bind fun g32 => (gd 8 v1).bind fun j33 => (gd 8 v1).bind fun j34 => (gd 8 v1).bind fun j35 => (some (ms_place g32 j35 (mf_M_moved (mh_place g32 j33) (mh_direction g32 j34)))).bind fun g36 => some (g36)
def mf_M_act_J34 (fuel : Nat) (v1 : Int32) (v2 : Int32) (h : MH) : Option (MH) :=
  if v2 = (34 : Int32) then mf_M_act_J50 fuel v1 v1 (0 : Int32) h else mf_M_act_J50 fuel v1 v1 (1 : Int32) h
def mf_M_act (fuel : Nat) (a1 : Int32) (h : MH) : Option (MH) :=
  (gd 8 a1).bind fun j1 => (gd 96 (mh_place h j1)).bind fun j2 => (gd 8 a1).bind fun j3 => if (mh_quoted h j3) = 0 then if (mh_field h j2) = (34 : Int32) then (gd 8 a1).bind fun j4 => (some (ms_quoted h j4 (vp_nar .boolean (1 : Int32)))).bind fun g5 => mf_M_act_J592 fuel a1 (mh_field h j2) g5 else if (mh_field h j2) = (35 : Int32) then mf_M_act_J554 fuel a1 (mh_field h j2) h else if (mh_field h j2) = (36 : Int32) then mf_M_act_J554 fuel a1 (mh_field h j2) h else if (mh_field h j2) = (37 : Int32) then mf_M_act_J554 fuel a1 (mh_field h j2) h else if (mh_field h j2) = (38 : Int32) then mf_M_act_J554 fuel a1 (mh_field h j2) h else if (mh_field h j2) = (39 : Int32) then mf_M_act_J554 fuel a1 (mh_field h j2) h else if (mh_field h j2) = (40 : Int32) then mf_M_act_J554 fuel a1 (mh_field h j2) h else if (mh_field h j2) = (41 : Int32) then mf_M_act_J554 fuel a1 (mh_field h j2) h else if (mh_field h j2) = (42 : Int32) then mf_M_act_J446 fuel a1 (mh_field h j2) h else if (mh_field h j2) = (43 : Int32) then mf_M_act_J446 fuel a1 (mh_field h j2) h else if (mh_field h j2) = (44 : Int32) then mf_M_act_J554 fuel a1 (mh_field h j2) h else if (mh_field h j2) = (45 : Int32) then mf_M_act_J446 fuel a1 (mh_field h j2) h else if (mh_field h j2) = (46 : Int32) then mf_M_act_J554 fuel a1 (mh_field h j2) h else if (mh_field h j2) = (47 : Int32) then mf_M_act_J554 fuel a1 (mh_field h j2) h else if (mh_field h j2) = (48 : Int32) then mf_M_act_J554 fuel a1 (mh_field h j2) h else if (mh_field h j2) = (49 : Int32) then mf_M_act_J554 fuel a1 (mh_field h j2) h else if (mh_field h j2) = (50 : Int32) then mf_M_act_J554 fuel a1 (mh_field h j2) h else if (mh_field h j2) = (51 : Int32) then mf_M_act_J554 fuel a1 (mh_field h j2) h else if (mh_field h j2) = (52 : Int32) then mf_M_act_J554 fuel a1 (mh_field h j2) h else if (mh_field h j2) = (53 : Int32) then mf_M_act_J554 fuel a1 (mh_field h j2) h else if (mh_field h j2) = (54 : Int32) then mf_M_act_J554 fuel a1 (mh_field h j2) h else if (mh_field h j2) = (55 : Int32) then mf_M_act_J554 fuel a1 (mh_field h j2) h else if (mh_field h j2) = (56 : Int32) then mf_M_act_J554 fuel a1 (mh_field h j2) h else if (mh_field h j2) = (57 : Int32) then mf_M_act_J554 fuel a1 (mh_field h j2) h else if (mh_field h j2) = (58 : Int32) then mf_M_act_J554 fuel a1 (mh_field h j2) h else if (mh_field h j2) = (59 : Int32) then mf_M_act_J554 fuel a1 (mh_field h j2) h else if (mh_field h j2) = (60 : Int32) then mf_M_act_J554 fuel a1 (mh_field h j2) h else if (mh_field h j2) = (61 : Int32) then mf_M_act_J554 fuel a1 (mh_field h j2) h else if (mh_field h j2) = (62 : Int32) then mf_M_act_J554 fuel a1 (mh_field h j2) h else if (mh_field h j2) = (63 : Int32) then mf_M_act_J455 fuel a1 (mh_field h j2) h else if (mh_field h j2) = (64 : Int32) then (gd 8 a1).bind fun j23 => (some (ms_lives h j23 (vp_nar .boolean (0 : Int32)))).bind fun g24 => some (g24) else if (mh_field h j2) = (65 : Int32) then mf_M_act_J554 fuel a1 (mh_field h j2) h else if (mh_field h j2) = (66 : Int32) then mf_M_act_J554 fuel a1 (mh_field h j2) h else if (mh_field h j2) = (67 : Int32) then (mf_M_doCall a1 h).bind fun q25 => some (q25) else if (mh_field h j2) = (68 : Int32) then mf_M_act_J554 fuel a1 (mh_field h j2) h else if (mh_field h j2) = (69 : Int32) then mf_M_act_J554 fuel a1 (mh_field h j2) h else if (mh_field h j2) = (70 : Int32) then mf_M_act_J554 fuel a1 (mh_field h j2) h else if (mh_field h j2) = (71 : Int32) then mf_M_act_J554 fuel a1 (mh_field h j2) h else if (mh_field h j2) = (72 : Int32) then mf_M_act_J554 fuel a1 (mh_field h j2) h else if (mh_field h j2) = (73 : Int32) then mf_M_act_J554 fuel a1 (mh_field h j2) h else if (mh_field h j2) = (74 : Int32) then mf_M_act_J554 fuel a1 (mh_field h j2) h else if (mh_field h j2) = (75 : Int32) then mf_M_act_J554 fuel a1 (mh_field h j2) h else if (mh_field h j2) = (76 : Int32) then mf_M_act_J554 fuel a1 (mh_field h j2) h else if (mh_field h j2) = (77 : Int32) then mf_M_act_J554 fuel a1 (mh_field h j2) h else if (mh_field h j2) = (78 : Int32) then mf_M_act_J554 fuel a1 (mh_field h j2) h else if (mh_field h j2) = (79 : Int32) then mf_M_act_J554 fuel a1 (mh_field h j2) h else if (mh_field h j2) = (80 : Int32) then mf_M_act_J554 fuel a1 (mh_field h j2) h else if (mh_field h j2) = (81 : Int32) then mf_M_act_J554 fuel a1 (mh_field h j2) h else if (mh_field h j2) = (82 : Int32) then (mf_M_doReturn a1 h).bind fun q26 => some (q26) else if (mh_field h j2) = (83 : Int32) then mf_M_act_J554 fuel a1 (mh_field h j2) h else if (mh_field h j2) = (84 : Int32) then mf_M_act_J554 fuel a1 (mh_field h j2) h else if (mh_field h j2) = (85 : Int32) then mf_M_act_J554 fuel a1 (mh_field h j2) h else if (mh_field h j2) = (86 : Int32) then mf_M_act_J554 fuel a1 (mh_field h j2) h else if (mh_field h j2) = (87 : Int32) then mf_M_act_J554 fuel a1 (mh_field h j2) h else if (mh_field h j2) = (88 : Int32) then mf_M_act_J554 fuel a1 (mh_field h j2) h else if (mh_field h j2) = (89 : Int32) then mf_M_act_J554 fuel a1 (mh_field h j2) h else if (mh_field h j2) = (90 : Int32) then mf_M_act_J554 fuel a1 (mh_field h j2) h else if (mh_field h j2) = (91 : Int32) then mf_M_act_J554 fuel a1 (mh_field h j2) h else if (mh_field h j2) = (92 : Int32) then mf_M_act_J554 fuel a1 (mh_field h j2) h else if (mh_field h j2) = (93 : Int32) then mf_M_act_J554 fuel a1 (mh_field h j2) h else if (mh_field h j2) = (94 : Int32) then mf_M_act_J554 fuel a1 (mh_field h j2) h else if (mh_field h j2) = (95 : Int32) then mf_M_act_J554 fuel a1 (mh_field h j2) h else if (mh_field h j2) = (96 : Int32) then mf_M_act_J554 fuel a1 (mh_field h j2) h else if (mh_field h j2) = (97 : Int32) then mf_M_act_J554 fuel a1 (mh_field h j2) h else if (mh_field h j2) = (98 : Int32) then mf_M_act_J455 fuel a1 (mh_field h j2) h else if (mh_field h j2) = (99 : Int32) then mf_M_act_J455 fuel a1 (mh_field h j2) h else if (mh_field h j2) = (100 : Int32) then mf_M_act_J446 fuel a1 (mh_field h j2) h else if (mh_field h j2) = (101 : Int32) then mf_M_act_J554 fuel a1 (mh_field h j2) h else if (mh_field h j2) = (102 : Int32) then mf_M_act_J455 fuel a1 (mh_field h j2) h else if (mh_field h j2) = (103 : Int32) then mf_M_act_J446 fuel a1 (mh_field h j2) h else if (mh_field h j2) = (104 : Int32) then mf_M_act_J554 fuel a1 (mh_field h j2) h else if (mh_field h j2) = (105 : Int32) then if (mh_vinputs h) ≤ (mh_vread h) then mf_M_act_J500 fuel a1 (mh_field h j2) a1 (-1 : Int64) h else (gd 40 (mh_vread h)).bind fun j29 => mf_M_act_J500 fuel a1 (mh_field h j2) a1 (mh_input h j29) h else if (mh_field h j2) = (106 : Int32) then mf_M_act_J554 fuel a1 (mh_field h j2) h else if (mh_field h j2) = (107 : Int32) then mf_M_act_J554 fuel a1 (mh_field h j2) h else if (mh_field h j2) = (108 : Int32) then mf_M_act_J554 fuel a1 (mh_field h j2) h else if (mh_field h j2) = (109 : Int32) then mf_M_act_J446 fuel a1 (mh_field h j2) h else if (mh_field h j2) = (110 : Int32) then mf_M_act_J455 fuel a1 (mh_field h j2) h else if (mh_field h j2) = (111 : Int32) then mf_M_act_J554 fuel a1 (mh_field h j2) h else if (mh_field h j2) = (112 : Int32) then mf_M_act_J554 fuel a1 (mh_field h j2) h else if (mh_field h j2) = (113 : Int32) then mf_M_act_J554 fuel a1 (mh_field h j2) h else if (mh_field h j2) = (114 : Int32) then mf_M_act_J455 fuel a1 (mh_field h j2) h else if (mh_field h j2) = (115 : Int32) then mf_M_act_J446 fuel a1 (mh_field h j2) h else if (mh_field h j2) = (116 : Int32) then mf_M_act_J554 fuel a1 (mh_field h j2) h else if (mh_field h j2) = (117 : Int32) then mf_M_act_J554 fuel a1 (mh_field h j2) h else if (mh_field h j2) = (118 : Int32) then mf_M_act_J554 fuel a1 (mh_field h j2) h else if (mh_field h j2) = (119 : Int32) then (mf_M_doWrite fuel a1 h).bind fun q30 => mf_M_act_J592 fuel a1 (mh_field h j2) q30 else if (mh_field h j2) = (120 : Int32) then mf_M_act_J455 fuel a1 (mh_field h j2) h else mf_M_act_J554 fuel a1 (mh_field h j2) h else if (mh_field h j2) = (34 : Int32) then mf_M_act_J34 fuel a1 (mh_field h j2) h else (mf_M_push a1 ((mh_field h j2).toInt64) h).bind fun q37 => mf_M_act_J34 fuel a1 (mh_field h j2) q37
def mf_M_copyPointer_L110 (fuel : Nat) : Nat → Int32 → Int32 → Int32 → MH → Option (MH)
  | 0, _, _, _, _ => none
  | n + 1, v1, v2, v3, h => if (8 : Int32) ≤ v3 then some (h) else (gd 64 (((8 : Int32) * v1) + v3)).bind fun j19 => (gd 64 (((8 : Int32) * v2) + v3)).bind fun j20 => (some (ms_back h j20 (mh_back h j19))).bind fun g21 => (mf_M_copyPointer_L110 fuel n) v1 v2 (v3 + (1 : Int32)) g21
def mf_M_copyPointer_L74 (fuel : Nat) : Nat → Int32 → Int32 → Int32 → MH → Option (MH)
  | 0, _, _, _, _ => none
  | n + 1, v1, v2, v3, h => if (24 : Int32) ≤ v3 then mf_M_copyPointer_L110 fuel fuel v1 v2 (0 : Int32) h else (gd 192 (((24 : Int32) * v1) + v3)).bind fun j22 => (gd 192 (((24 : Int32) * v2) + v3)).bind fun j23 => (some (ms_stacks h j23 (mh_stacks h j22))).bind fun g24 => (mf_M_copyPointer_L74 fuel n) v1 v2 (v3 + (1 : Int32)) g24
def mf_M_copyPointer (fuel : Nat) (a1 : Int32) (a2 : Int32) (h : MH) : Option (MH) :=
  (gd 8 a1).bind fun j1 => (gd 8 a2).bind fun j2 => (some (ms_lives h j2 (vp_nar .boolean (mh_lives h j1)))).bind fun g3 => (gd 8 a1).bind fun j4 => (gd 8 a2).bind fun j5 => (some (ms_place g3 j5 (mh_place g3 j4))).bind fun g6 => (gd 8 a1).bind fun j7 => (gd 8 a2).bind fun j8 => (some (ms_direction g6 j8 (mh_direction g6 j7))).bind fun g9 => (gd 8 a1).bind fun j10 => (gd 8 a2).bind fun j11 => (some (ms_quoted g9 j11 (vp_nar .boolean (mh_quoted g9 j10)))).bind fun g12 => (gd 8 a1).bind fun j13 => (gd 8 a2).bind fun j14 => (some (ms_sizes g12 j14 (mh_sizes g12 j13))).bind fun g15 => (gd 8 a1).bind fun j16 => (gd 8 a2).bind fun j17 => (some (ms_returns g15 j17 (mh_returns g15 j16))).bind fun g18 => mf_M_copyPointer_L74 fuel fuel a1 a2 (0 : Int32) g18
def mf_M_bury_J30 (fuel : Nat) (recL4 : Int32 → Int32 → MH → Option (MH)) (v1 : Int32) (v2 : Int32) (h : MH) : Option (MH) :=
  recL4 v1 (v2 + (1 : Int32)) h
def mf_M_bury_L4 (fuel : Nat) : Nat → Int32 → Int32 → MH → Option (MH)
  | 0, _, _, _ => none
  | n + 1, v1, v2, h => if (mh_vpointers h) ≤ v2 then (some (ms_vpointers h v1)).bind fun g1 => some (g1) else (gd 8 v2).bind fun j2 => if (mh_lives h j2) = 0 then mf_M_bury_J30 fuel (mf_M_bury_L4 fuel n) v1 v2 h else (mf_M_copyPointer fuel v2 v1 h).bind fun q3 => mf_M_bury_J30 fuel (mf_M_bury_L4 fuel n) (v1 + (1 : Int32)) v2 q3
def mf_M_bury (fuel : Nat) (h : MH) : Option (MH) :=
  mf_M_bury_L4 fuel fuel (0 : Int32) (0 : Int32) h
def mf_M_stepAll_J46 (fuel : Nat) (h : MH) : Option (MH) :=
  (mf_M_bury fuel h).bind fun q1 => if (mh_vstopped q1) = 0 then (some (ms_vsteps q1 ((mh_vsteps q1) + (1 : Int32)))).bind fun g3 => some (g3) else (some (ms_vsteps q1 (mh_vsteps q1))).bind fun g2 => some (g2)
def mf_M_stepAll_J40 (fuel : Nat) (recL7 : Int32 → Int32 → MH → Option (MH)) (v1 : Int32) (v2 : Int32) (h : MH) : Option (MH) :=
  recL7 v1 (v2 + (1 : Int32)) h
def mf_M_stepAll_L7 (fuel : Nat) : Nat → Int32 → Int32 → MH → Option (MH)
  | 0, _, _, _ => none
  | n + 1, v1, v2, h => if v1 ≤ v2 then mf_M_stepAll_J46 fuel h else if (mh_vstopped h) = 0 then (mf_M_fits fuel v2 h).bind fun q4 => (some (ms_vstopped q4.2 q4.1)).bind fun g5 => if (mh_vstopped g5) = 0 then (mf_M_act fuel v2 g5).bind fun q6 => mf_M_stepAll_J40 fuel (mf_M_stepAll_L7 fuel n) v1 v2 q6 else mf_M_stepAll_J40 fuel (mf_M_stepAll_L7 fuel n) v1 v2 g5 else mf_M_stepAll_J46 fuel h
def mf_M_stepAll (fuel : Nat) (h : MH) : Option (MH) :=
  mf_M_stepAll_L7 fuel fuel (mh_vpointers h) (0 : Int32) h
def mf_M_step_L28 (fuel : Nat) : Nat → Int32 → Int32 → MH → Option (Int32 × MH)
  | 0, _, _, _ => none
  | n + 1, v1, v2, h => if v1 ≤ v2 then (mf_M_stateNow fuel h).bind fun q1 => some ((q1, h)) else (mf_M_stateNow fuel h).bind fun q2 => if q2 = 0 then (mf_M_stepAll fuel h).bind fun q4 => (mf_M_step_L28 fuel n) v1 (v2 + (1 : Int32)) q4 else (mf_M_stateNow fuel h).bind fun q3 => some ((q3, h))
def mf_M_step_J18 (fuel : Nat) (v1 : Int32) (w1 : Int32) (h : MH) : Option (Int32 × MH) :=
  if (mf_M_refused w1 h).1 = 0 then mf_M_step_L28 fuel fuel v1 (0 : Int32) (mf_M_refused w1 h).2 else some (((0 : Int32), (mf_M_refused w1 h).2))
def mf_M_step_J13 (fuel : Nat) (v1 : Int32) (h : MH) : Option (Int32 × MH) :=
  mf_M_step_J18 fuel v1 (1 : Int32) h
def mf_M_step (fuel : Nat) (a1 : Int32) (h : MH) : Option (Int32 × MH) :=
  if a1 < (1 : Int32) then mf_M_step_J13 fuel a1 h else if a1 ≤ (1000 : Int32) then mf_M_step_J18 fuel a1 (0 : Int32) h else mf_M_step_J13 fuel a1 h
def mf_M_findBlock_J27 (fuel : Nat) (recL4 : Int32 → Int32 → Int32 → MH → Option (Int32)) (v1 : Int32) (v3 : Int32) (w0 : Int32) (h : MH) : Option (Int32) :=
  recL4 v1 w0 (v3 + (1 : Int32)) h
def mf_M_findBlock_L4 (fuel : Nat) : Nat → Int32 → Int32 → Int32 → MH → Option (Int32)
  | 0, _, _, _, _ => none
  | n + 1, v1, v2, v3, h => if (mh_vblocks h) ≤ v3 then some (v2) else (gd 30 v3).bind fun j1 => if (mh_begins h j1) = v1 then mf_M_findBlock_J27 fuel (mf_M_findBlock_L4 fuel n) v1 v3 v3 h else mf_M_findBlock_J27 fuel (mf_M_findBlock_L4 fuel n) v1 v3 v2 h
def mf_M_findBlock (fuel : Nat) (a1 : Int32) (h : MH) : Option (Int32) :=
  mf_M_findBlock_L4 fuel fuel a1 (-1 : Int32) (0 : Int32) h
def mf_M_isActAt (a1 : Int32) (h : MH) : Option (Int32) :=
  if (a1 - a1 / (2 : Int32) * (2 : Int32)) = 0 then (gd 96 (a1 / (8 : Int32))).bind fun j1 => if (mf_M_isAct (mh_field h j1)) = 0 then some ((0 : Int32)) else some ((1 : Int32)) else some ((0 : Int32))
def mf_M_makeBlock_J138 (fuel : Nat) (v2 : Int32) (v3 : Int32) (v4 : Int32) (h : MH) : Option (MH) :=
  (gd 30 v2).bind fun j4 => (some (ms_lengths h j4 v3)).bind fun g5 => (gd 30 v2).bind fun j6 => (some (ms_behind g5 j6 v4)).bind fun g7 => some (g7)
def mf_M_makeBlock_L75 (fuel : Nat) : Nat → Int32 → Int32 → Int32 → MH → Option (MH)
  | 0, _, _, _, _ => none
  | n + 1, v2, v3, v4, h => if (32 : Int32) ≤ v3 then mf_M_makeBlock_J138 fuel v2 v3 v4 h else (mf_M_isActAt v4 h).bind fun q8 => if q8 = 0 then (gd 768 v4).bind fun j9 => if (mh_met h j9) = 0 then (gd 768 v4).bind fun j10 => (some (ms_met h j10 (vp_nar .boolean (1 : Int32)))).bind fun g11 => (gd 2880 (((96 : Int32) * v2) + (v4 / (8 : Int32)))).bind fun j12 => (some (ms_covered g11 j12 (vp_nar .boolean (1 : Int32)))).bind fun g13 => (mf_M_after v4 g13).bind fun q14 => (mf_M_makeBlock_L75 fuel n) v2 (v3 + (1 : Int32)) q14 g13 else mf_M_makeBlock_J138 fuel v2 v3 v4 h else mf_M_makeBlock_J138 fuel v2 v3 v4 h
def mf_M_makeBlock_L46 (fuel : Nat) : Nat → Int32 → Int32 → Int32 → MH → Option (MH)
  | 0, _, _, _, _ => none
  | n + 1, v1, v2, v3, h => if (96 : Int32) ≤ v3 then mf_M_makeBlock_L75 fuel fuel v2 (0 : Int32) v1 h else (gd 2880 (((96 : Int32) * v2) + v3)).bind fun j15 => (some (ms_covered h j15 (vp_nar .boolean (0 : Int32)))).bind fun g16 => (mf_M_makeBlock_L46 fuel n) v1 v2 (v3 + (1 : Int32)) g16
def mf_M_makeBlock_L24 (fuel : Nat) : Nat → Int32 → Int32 → Int32 → MH → Option (MH)
  | 0, _, _, _, _ => none
  | n + 1, v1, v2, v3, h => if (768 : Int32) ≤ v3 then mf_M_makeBlock_L46 fuel fuel v1 v2 (0 : Int32) h else (gd 768 v3).bind fun j17 => (some (ms_met h j17 (vp_nar .boolean (0 : Int32)))).bind fun g18 => (mf_M_makeBlock_L24 fuel n) v1 v2 (v3 + (1 : Int32)) g18
def mf_M_makeBlock (fuel : Nat) (a1 : Int32) (h : MH) : Option (MH) :=
  (some (ms_vblocks h ((mh_vblocks h) + (1 : Int32)))).bind fun g1 => (gd 30 (mh_vblocks h)).bind fun j2 => (some (ms_begins g1 j2 a1)).bind fun g3 => mf_M_makeBlock_L24 fuel fuel a1 (mh_vblocks h) (0 : Int32) g3
def mf_M_fast_J198 (fuel : Nat) (recL28 : Int32 → MH → Option (Int32 × MH)) (v2 : Int32) (v3 : Int32) (h : MH) : Option (Int32 × MH) :=
  recL28 (v2 - v3) h
def mf_M_fast_L175 (fuel : Nat) (recL28 : Int32 → MH → Option (Int32 × MH)) : Nat → Int32 → Int32 → Int32 → MH → Option (Int32 × MH)
  | 0, _, _, _, _ => none
  | n + 1, v2, v3, v5, h => if v3 ≤ v5 then mf_M_fast_J198 fuel recL28 v2 v3 h else if (mh_vstopped h) = 0 then (mf_M_stepAll fuel h).bind fun q7 => (mf_M_fast_L175 fuel recL28 n) v2 v3 (v5 + (1 : Int32)) q7 else mf_M_fast_J198 fuel recL28 v2 v3 h
def mf_M_fast_J172 (fuel : Nat) (recL28 : Int32 → MH → Option (Int32 × MH)) (v2 : Int32) (v3 : Int32) (h : MH) : Option (Int32 × MH) :=
  mf_M_fast_L175 fuel recL28 fuel v2 v3 (0 : Int32) h
def mf_M_fast_J171 (fuel : Nat) (recL28 : Int32 → MH → Option (Int32 × MH)) (v2 : Int32) (w0 : Int32) (h : MH) : Option (Int32 × MH) :=
  mf_M_fast_J172 fuel recL28 v2 w0 h
def mf_M_fast_J170 (fuel : Nat) (recL28 : Int32 → MH → Option (Int32 × MH)) (v2 : Int32) (h : MH) : Option (Int32 × MH) :=
  mf_M_fast_J171 fuel recL28 v2 (1 : Int32) h
def mf_M_fast_J117 (fuel : Nat) (recL28 : Int32 → MH → Option (Int32 × MH)) (v2 : Int32) (v4 : Int32) (h : MH) : Option (Int32 × MH) :=
  (mf_M_findBlock fuel v4 h).bind fun q10 => if q10 < 0 then mf_M_fast_J170 fuel recL28 v2 h else (gd 30 q10).bind fun j11 => if v2 < (mh_lengths h j11) then mf_M_fast_J170 fuel recL28 v2 h else (gd 30 q10).bind fun j12 => (gd 8 (0 : Int32)).bind fun j13 => if (24 : Int32) ≤ ((mh_lengths h j12) + (mh_sizes h j13)) then mf_M_fast_J170 fuel recL28 v2 h else (gd 30 q10).bind fun j14 => mf_M_fast_J171 fuel recL28 v2 (mh_lengths h j14) h
def mf_M_fast_J73 (fuel : Nat) (recL28 : Int32 → MH → Option (Int32 × MH)) (v2 : Int32) (v3 : Int32) (w0 : Int32) (w1 : Int32) (h : MH) : Option (Int32 × MH) :=
  if (mh_vpointers h) = (1 : Int32) then (mf_M_isActAt (w0 + w1) h).bind fun q8 => if q8 = 0 then (mf_M_findBlock fuel (w0 + w1) h).bind fun q9 => if 0 ≤ q9 then mf_M_fast_J117 fuel recL28 v2 (w0 + w1) h else if (30 : Int32) ≤ (mh_vblocks h) then mf_M_fast_J117 fuel recL28 v2 (w0 + w1) h else (mf_M_makeBlock fuel (w0 + w1) h).bind fun q15 => mf_M_fast_J117 fuel recL28 v2 (w0 + w1) q15 else mf_M_fast_J172 fuel recL28 v2 v3 h else mf_M_fast_J172 fuel recL28 v2 v3 h
def mf_M_fast_L28 (fuel : Nat) : Nat → Int32 → MH → Option (Int32 × MH)
  | 0, _, _ => none
  | n + 1, v2, h => if v2 ≤ 0 then (mf_M_stateNow fuel h).bind fun q1 => some ((q1, h)) else (mf_M_stateNow fuel h).bind fun q2 => if q2 = 0 then (gd 8 (0 : Int32)).bind fun j4 => (gd 8 (0 : Int32)).bind fun j5 => (gd 8 (0 : Int32)).bind fun j6 => if (mh_quoted h j6) = 0 then mf_M_fast_J73 fuel (mf_M_fast_L28 fuel n) v2 (1 : Int32) (((8 : Int32) * (mh_place h j4)) + ((2 : Int32) * (mh_direction h j5))) (0 : Int32) h else mf_M_fast_J73 fuel (mf_M_fast_L28 fuel n) v2 (1 : Int32) (((8 : Int32) * (mh_place h j4)) + ((2 : Int32) * (mh_direction h j5))) (1 : Int32) h else (mf_M_stateNow fuel h).bind fun q3 => some ((q3, h))
def mf_M_fast_J18 (fuel : Nat) (v1 : Int32) (w1 : Int32) (h : MH) : Option (Int32 × MH) :=
  if (mf_M_refused w1 h).1 = 0 then mf_M_fast_L28 fuel fuel v1 (mf_M_refused w1 h).2 else some (((0 : Int32), (mf_M_refused w1 h).2))
def mf_M_fast_J13 (fuel : Nat) (v1 : Int32) (h : MH) : Option (Int32 × MH) :=
  mf_M_fast_J18 fuel v1 (1 : Int32) h
def mf_M_fast (fuel : Nat) (a1 : Int32) (h : MH) : Option (Int32 × MH) :=
  if a1 < (1 : Int32) then mf_M_fast_J13 fuel a1 h else if a1 ≤ (1000 : Int32) then mf_M_fast_J18 fuel a1 (0 : Int32) h else mf_M_fast_J13 fuel a1 h
def mf_M_pointer_J41 (v1 : Int32) (v2 : Int32) (w1 : Int32) (h : MH) : Option (Int32 × MH) :=
  if (mf_M_refused w1 h).1 = 0 then if v2 = (0 : Int32) then (gd 8 v1).bind fun j1 => some ((((mh_place (mf_M_refused w1 h).2 j1) - (mh_place (mf_M_refused w1 h).2 j1) / (12 : Int32) * (12 : Int32)), (mf_M_refused w1 h).2)) else if v2 = (1 : Int32) then (gd 8 v1).bind fun j2 => some ((((mh_place (mf_M_refused w1 h).2 j2) / (12 : Int32)), (mf_M_refused w1 h).2)) else if v2 = (2 : Int32) then (gd 8 v1).bind fun j3 => some (((mh_direction (mf_M_refused w1 h).2 j3), (mf_M_refused w1 h).2)) else if v2 = (3 : Int32) then (gd 8 v1).bind fun j4 => if (mh_quoted (mf_M_refused w1 h).2 j4) = 0 then some (((0 : Int32), (mf_M_refused w1 h).2)) else some (((1 : Int32), (mf_M_refused w1 h).2)) else if v2 = (4 : Int32) then (gd 8 v1).bind fun j5 => some (((mh_sizes (mf_M_refused w1 h).2 j5), (mf_M_refused w1 h).2)) else (gd 8 v1).bind fun j6 => some (((mh_returns (mf_M_refused w1 h).2 j6), (mf_M_refused w1 h).2)) else some (((0 : Int32), (mf_M_refused w1 h).2))
def mf_M_pointer_J36 (v1 : Int32) (v2 : Int32) (h : MH) : Option (Int32 × MH) :=
  mf_M_pointer_J41 v1 v2 (2 : Int32) h
def mf_M_pointer_J17 (v1 : Int32) (v2 : Int32) (w0 : Int32) (h : MH) : Option (Int32 × MH) :=
  if w0 = 0 then mf_M_pointer_J41 v1 v2 (1 : Int32) h else if v2 < 0 then mf_M_pointer_J36 v1 v2 h else if v2 ≤ (5 : Int32) then mf_M_pointer_J41 v1 v2 (0 : Int32) h else mf_M_pointer_J36 v1 v2 h
def mf_M_pointer_J16 (v1 : Int32) (v2 : Int32) (h : MH) : Option (Int32 × MH) :=
  mf_M_pointer_J17 v1 v2 (0 : Int32) h
def mf_M_pointer (a1 : Int32) (a2 : Int32) (h : MH) : Option (Int32 × MH) :=
  if a1 < 0 then mf_M_pointer_J16 a1 a2 h else if (mh_vpointers h) ≤ a1 then mf_M_pointer_J16 a1 a2 h else mf_M_pointer_J17 a1 a2 (1 : Int32) h
def mf_M_value_J52 (v1 : Int32) (v2 : Int32) (w1 : Int32) (h : MH) : Option (Int64 × MH) :=
  if (mf_M_refused w1 h).1 = 0 then (gd 8 v1).bind fun j1 => (gd 192 (((((24 : Int32) * v1) + (mh_sizes (mf_M_refused w1 h).2 j1)) - (1 : Int32)) - v2)).bind fun j2 => some (((mh_stacks (mf_M_refused w1 h).2 j2), (mf_M_refused w1 h).2)) else some (((0 : Int64), (mf_M_refused w1 h).2))
def mf_M_value_J41 (v1 : Int32) (v2 : Int32) (w0 : Int32) (h : MH) : Option (Int64 × MH) :=
  if w0 = 0 then mf_M_value_J52 v1 v2 (1 : Int32) h else mf_M_value_J52 v1 v2 (0 : Int32) h
def mf_M_value_J40 (v1 : Int32) (v2 : Int32) (h : MH) : Option (Int64 × MH) :=
  mf_M_value_J41 v1 v2 (0 : Int32) h
def mf_M_value_J21 (v1 : Int32) (v2 : Int32) (w0 : Int32) (h : MH) : Option (Int64 × MH) :=
  if w0 = 0 then mf_M_value_J40 v1 v2 h else (gd 8 v1).bind fun j3 => if (mh_sizes h j3) ≤ v2 then mf_M_value_J40 v1 v2 h else mf_M_value_J41 v1 v2 (1 : Int32) h
def mf_M_value_J20 (v1 : Int32) (v2 : Int32) (h : MH) : Option (Int64 × MH) :=
  mf_M_value_J21 v1 v2 (0 : Int32) h
def mf_M_value (a1 : Int32) (a2 : Int32) (h : MH) : Option (Int64 × MH) :=
  if a1 < 0 then mf_M_value_J20 a1 a2 h else if (mh_vpointers h) ≤ a1 then mf_M_value_J20 a1 a2 h else if a2 < 0 then mf_M_value_J20 a1 a2 h else mf_M_value_J21 a1 a2 (1 : Int32) h
def mf_M_comeTo (a1 : Int32) (h : MH) : Option (Int32 × MH) :=
  (gd 768 a1).bind fun j1 => if (mh_come h j1) = 0 then (gd 768 a1).bind fun j4 => (some (ms_come h j4 (vp_nar .boolean (1 : Int32)))).bind fun g5 => some (((1 : Int32), g5)) else (gd 768 a1).bind fun j2 => (some (ms_come h j2 (vp_nar .boolean (1 : Int32)))).bind fun g3 => some (((0 : Int32), g3))
def mf_M_goOn_J199 (fuel : Nat) (recL4 : Int32 → Int32 → MH → Option (Int32 × MH)) (v1 : Int32) (v2 : Int32) (h : MH) : Option (Int32 × MH) :=
  recL4 v1 (v2 + (1 : Int32)) h
def mf_M_goOn_J198 (fuel : Nat) (recL4 : Int32 → Int32 → MH → Option (Int32 × MH)) (v2 : Int32) (w0 : Int32) (h : MH) : Option (Int32 × MH) :=
  mf_M_goOn_J199 fuel recL4 w0 v2 h
def mf_M_goOn_J193 (fuel : Nat) (recL4 : Int32 → Int32 → MH → Option (Int32 × MH)) (v2 : Int32) (h : MH) : Option (Int32 × MH) :=
  mf_M_goOn_J198 fuel recL4 v2 (1 : Int32) h
def mf_M_goOn_J168 (fuel : Nat) (recL4 : Int32 → Int32 → MH → Option (Int32 × MH)) (v1 : Int32) (v2 : Int32) (v3 : Int32) (v8 : Int32) (h : MH) : Option (Int32 × MH) :=
  (mf_M_comeTo (((8 : Int32) * (mf_M_moved v3 v8)) + ((2 : Int32) * v8)) h).bind fun q4 => if q4.1 = 0 then if v1 = 0 then mf_M_goOn_J198 fuel recL4 v2 (0 : Int32) q4.2 else mf_M_goOn_J193 fuel recL4 v2 q4.2 else mf_M_goOn_J193 fuel recL4 v2 q4.2
def mf_M_goOn_J154 (fuel : Nat) (recL4 : Int32 → Int32 → MH → Option (Int32 × MH)) (v1 : Int32) (v2 : Int32) (v3 : Int32) (v5 : Int32) (v8 : Int32) (h : MH) : Option (Int32 × MH) :=
  if v5 = (63 : Int32) then mf_M_goOn_J168 fuel recL4 v1 v2 v3 v8 h else if v5 = (102 : Int32) then mf_M_goOn_J168 fuel recL4 v1 v2 v3 v8 h else mf_M_goOn_J199 fuel recL4 v1 v2 h
def mf_M_goOn_J153 (fuel : Nat) (recL4 : Int32 → Int32 → MH → Option (Int32 × MH)) (v2 : Int32) (v3 : Int32) (v5 : Int32) (v8 : Int32) (w0 : Int32) (h : MH) : Option (Int32 × MH) :=
  mf_M_goOn_J154 fuel recL4 w0 v2 v3 v5 v8 h
def mf_M_goOn_J148 (fuel : Nat) (recL4 : Int32 → Int32 → MH → Option (Int32 × MH)) (v2 : Int32) (v3 : Int32) (v5 : Int32) (v8 : Int32) (h : MH) : Option (Int32 × MH) :=
  mf_M_goOn_J153 fuel recL4 v2 v3 v5 v8 (1 : Int32) h
def mf_M_goOn_J99 (fuel : Nat) (recL4 : Int32 → Int32 → MH → Option (Int32 × MH)) (v2 : Int32) (v3 : Int32) (v4 : Int32) (v5 : Int32) (w0 : Int32) (h : MH) : Option (Int32 × MH) :=
  if v5 = (63 : Int32) then (mf_M_comeTo (((8 : Int32) * (mf_M_moved v3 ((v4 + (1 : Int32)) - (v4 + (1 : Int32)) / (4 : Int32) * (4 : Int32)))) + ((2 : Int32) * ((v4 + (1 : Int32)) - (v4 + (1 : Int32)) / (4 : Int32) * (4 : Int32)))) h).bind fun q5 => if q5.1 = 0 then if w0 = 0 then mf_M_goOn_J153 fuel recL4 v2 v3 v5 ((v4 + (3 : Int32)) - (v4 + (3 : Int32)) / (4 : Int32) * (4 : Int32)) (0 : Int32) q5.2 else mf_M_goOn_J148 fuel recL4 v2 v3 v5 ((v4 + (3 : Int32)) - (v4 + (3 : Int32)) / (4 : Int32) * (4 : Int32)) q5.2 else mf_M_goOn_J148 fuel recL4 v2 v3 v5 ((v4 + (3 : Int32)) - (v4 + (3 : Int32)) / (4 : Int32) * (4 : Int32)) q5.2 else mf_M_goOn_J154 fuel recL4 w0 v2 v3 v5 ((v4 + (3 : Int32)) - (v4 + (3 : Int32)) / (4 : Int32) * (4 : Int32)) h
def mf_M_goOn_J94 (fuel : Nat) (recL4 : Int32 → Int32 → MH → Option (Int32 × MH)) (v2 : Int32) (v3 : Int32) (v4 : Int32) (v5 : Int32) (h : MH) : Option (Int32 × MH) :=
  mf_M_goOn_J99 fuel recL4 v2 v3 v4 v5 (1 : Int32) h
def mf_M_goOn_J90 (fuel : Nat) (recL4 : Int32 → Int32 → MH → Option (Int32 × MH)) (v1 : Int32) (v2 : Int32) (v3 : Int32) (v4 : Int32) (v5 : Int32) (h : MH) : Option (Int32 × MH) :=
  if v1 = 0 then mf_M_goOn_J99 fuel recL4 v2 v3 v4 v5 (0 : Int32) h else mf_M_goOn_J94 fuel recL4 v2 v3 v4 v5 h
def mf_M_goOn_J71 (fuel : Nat) (recL4 : Int32 → Int32 → MH → Option (Int32 × MH)) (v1 : Int32) (v2 : Int32) (v3 : Int32) (v4 : Int32) (v5 : Int32) (w0 : Int32) (h : MH) : Option (Int32 × MH) :=
  if w0 = 0 then (mf_M_after v2 h).bind fun q6 => (mf_M_comeTo q6 h).bind fun q7 => if q7.1 = 0 then mf_M_goOn_J90 fuel recL4 v1 v2 v3 v4 v5 q7.2 else mf_M_goOn_J94 fuel recL4 v2 v3 v4 v5 q7.2 else mf_M_goOn_J90 fuel recL4 v1 v2 v3 v4 v5 h
def mf_M_goOn_J66 (fuel : Nat) (recL4 : Int32 → Int32 → MH → Option (Int32 × MH)) (v1 : Int32) (v2 : Int32) (v3 : Int32) (v4 : Int32) (v5 : Int32) (h : MH) : Option (Int32 × MH) :=
  mf_M_goOn_J71 fuel recL4 v1 v2 v3 v4 v5 (1 : Int32) h
def mf_M_goOn_J50 (fuel : Nat) (recL4 : Int32 → Int32 → MH → Option (Int32 × MH)) (v1 : Int32) (v2 : Int32) (v3 : Int32) (v4 : Int32) (w0 : Int32) (h : MH) : Option (Int32 × MH) :=
  if w0 = (82 : Int32) then mf_M_goOn_J66 fuel recL4 v1 v2 v3 v4 w0 h else if w0 = (64 : Int32) then mf_M_goOn_J66 fuel recL4 v1 v2 v3 v4 w0 h else mf_M_goOn_J71 fuel recL4 v1 v2 v3 v4 w0 (0 : Int32) h
def mf_M_goOn_L4 (fuel : Nat) : Nat → Int32 → Int32 → MH → Option (Int32 × MH)
  | 0, _, _, _ => none
  | n + 1, v1, v2, h => if (768 : Int32) ≤ v2 then (nz v1).bind fun r1 => some ((r1, h)) else (gd 768 v2).bind fun j2 => if (mh_come h j2) = 0 then mf_M_goOn_J199 fuel (mf_M_goOn_L4 fuel n) v1 v2 h else if (v2 - v2 / (2 : Int32) * (2 : Int32)) = (1 : Int32) then mf_M_goOn_J50 fuel (mf_M_goOn_L4 fuel n) v1 v2 (v2 / (8 : Int32)) ((v2 / (2 : Int32)) - (v2 / (2 : Int32)) / (4 : Int32) * (4 : Int32)) (32 : Int32) h else (gd 96 (v2 / (8 : Int32))).bind fun j3 => mf_M_goOn_J50 fuel (mf_M_goOn_L4 fuel n) v1 v2 (v2 / (8 : Int32)) ((v2 / (2 : Int32)) - (v2 / (2 : Int32)) / (4 : Int32) * (4 : Int32)) (mh_field h j3) h
def mf_M_goOn (fuel : Nat) (h : MH) : Option (Int32 × MH) :=
  mf_M_goOn_L4 fuel fuel (0 : Int32) (0 : Int32) h
def mf_M_findWays_L32 (fuel : Nat) : Nat → Int32 → MH → Option (MH)
  | 0, _, _ => none
  | n + 1, v1, h => if v1 = 0 then some (h) else (mf_M_goOn fuel h).bind fun q1 => (mf_M_findWays_L32 fuel n) q1.1 q1.2
def mf_M_findWays_J23 (fuel : Nat) (recL2 : Int32 → MH → Option (MH)) (v1 : Int32) (w1 : Int32) (w2 : Int32) (h : MH) : Option (MH) :=
  (gd 768 w1).bind fun j2 => (some (ms_come h j2 (vp_nar .boolean w2))).bind fun g3 => recL2 (v1 + (1 : Int32)) g3
def mf_M_findWays_L2 (fuel : Nat) : Nat → Int32 → MH → Option (MH)
  | 0, _, _ => none
  | n + 1, v1, h => if (768 : Int32) ≤ v1 then mf_M_findWays_L32 fuel fuel (1 : Int32) h else if v1 = 0 then mf_M_findWays_J23 fuel (mf_M_findWays_L2 fuel n) v1 v1 (1 : Int32) h else mf_M_findWays_J23 fuel (mf_M_findWays_L2 fuel n) v1 v1 (0 : Int32) h
def mf_M_findWays (fuel : Nat) (h : MH) : Option (MH) :=
  mf_M_findWays_L2 fuel fuel (0 : Int32) h
def mf_M_isLost_J48 (fuel : Nat) (recL19 : Int32 → Int32 → Int32 → MH → Option (Int32)) (v1 : Int32) (v3 : Int32) (w0 : Int32) (h : MH) : Option (Int32) :=
  recL19 v1 w0 (v3 + (1 : Int32)) h
def mf_M_isLost_J47 (fuel : Nat) (recL19 : Int32 → Int32 → Int32 → MH → Option (Int32)) (v1 : Int32) (v3 : Int32) (h : MH) : Option (Int32) :=
  mf_M_isLost_J48 fuel recL19 v1 v3 (0 : Int32) h
def mf_M_isLost_L19 (fuel : Nat) : Nat → Int32 → Int32 → Int32 → MH → Option (Int32)
  | 0, _, _, _, _ => none
  | n + 1, v1, v2, v3, h => if (8 : Int32) ≤ v3 then (nz v2).bind fun r2 => some (r2) else if v2 = 0 then mf_M_isLost_J47 fuel (mf_M_isLost_L19 fuel n) v1 v3 h else (gd 768 (((8 : Int32) * v1) + v3)).bind fun j3 => if (mh_come h j3) = 0 then mf_M_isLost_J48 fuel (mf_M_isLost_L19 fuel n) v1 v3 (1 : Int32) h else mf_M_isLost_J47 fuel (mf_M_isLost_L19 fuel n) v1 v3 h
def mf_M_isLost_J16 (fuel : Nat) (v1 : Int32) (w0 : Int32) (h : MH) : Option (Int32) :=
  mf_M_isLost_L19 fuel fuel v1 w0 (0 : Int32) h
def mf_M_isLost (fuel : Nat) (a1 : Int32) (h : MH) : Option (Int32) :=
  (gd 96 a1).bind fun j1 => if (mh_field h j1) = (32 : Int32) then mf_M_isLost_J16 fuel a1 (0 : Int32) h else mf_M_isLost_J16 fuel a1 (1 : Int32) h
def mf_M_lostAll_J29 (fuel : Nat) (recL8 : Int32 → Int32 → MH → Option (Int32 × MH)) (v2 : Int32) (w0 : Int32) (h : MH) : Option (Int32 × MH) :=
  recL8 w0 (v2 + (1 : Int32)) h
def mf_M_lostAll_L8 (fuel : Nat) : Nat → Int32 → Int32 → MH → Option (Int32 × MH)
  | 0, _, _, _ => none
  | n + 1, v1, v2, h => if (96 : Int32) ≤ v2 then some ((v1, h)) else (mf_M_isLost fuel v2 h).bind fun q2 => if q2 = 0 then mf_M_lostAll_J29 fuel (mf_M_lostAll_L8 fuel n) v2 v1 h else mf_M_lostAll_J29 fuel (mf_M_lostAll_L8 fuel n) v2 (v1 + (1 : Int32)) h
def mf_M_lostAll (fuel : Nat) (h : MH) : Option (Int32 × MH) :=
  (mf_M_findWays fuel h).bind fun q1 => mf_M_lostAll_L8 fuel fuel (0 : Int32) (0 : Int32) q1
def mf_M_count (fuel : Nat) (a1 : Int32) (h : MH) : Option (Int32 × MH) :=
  (some (ms_vfault h (0 : Int32))).bind fun g1 => if a1 = (0 : Int32) then some (((mh_vpointers g1), g1)) else if a1 = (1 : Int32) then some (((mh_vsteps g1), g1)) else if a1 = (2 : Int32) then some (((mh_vblocks g1), g1)) else if a1 = (3 : Int32) then some (((mh_vdrops g1), g1)) else if a1 = (4 : Int32) then some ((((mh_vinputs g1) - (mh_vread g1)), g1)) else if a1 = (5 : Int32) then (mf_M_stateNow fuel g1).bind fun q2 => some ((q2, g1)) else if a1 = (6 : Int32) then (mf_M_lostAll fuel g1).bind fun q3 => some ((q3.1, q3.2)) else some (((-1 : Int32), g1))
def mf_M_covers_J63 (fuel : Nat) (recL27 : Int32 → Int32 → Int32 → Int32 → MH → Option (Int32 × MH)) (v1 : Int32) (v2 : Int32) (v4 : Int32) (w0 : Int32) (h : MH) : Option (Int32 × MH) :=
  recL27 v1 v2 w0 (v4 + (1 : Int32)) h
def mf_M_covers_L27 (fuel : Nat) : Nat → Int32 → Int32 → Int32 → Int32 → MH → Option (Int32 × MH)
  | 0, _, _, _, _, _ => none
  | n + 1, v1, v2, v3, v4, h => if (mh_vblocks h) ≤ v4 then some ((v3, h)) else (gd 2880 ((((96 : Int32) * v4) + ((12 : Int32) * v2)) + v1)).bind fun j1 => if (mh_covered h j1) = 0 then mf_M_covers_J63 fuel (mf_M_covers_L27 fuel n) v1 v2 v4 v3 h else mf_M_covers_J63 fuel (mf_M_covers_L27 fuel n) v1 v2 v4 (v3 + (1 : Int32)) h
def mf_M_covers_J14 (fuel : Nat) (v1 : Int32) (v2 : Int32) (w1 : Int32) (h : MH) : Option (Int32 × MH) :=
  if (mf_M_refused w1 h).1 = 0 then mf_M_covers_L27 fuel fuel v1 v2 (0 : Int32) (0 : Int32) (mf_M_refused w1 h).2 else some (((0 : Int32), (mf_M_refused w1 h).2))
def mf_M_covers (fuel : Nat) (a1 : Int32) (a2 : Int32) (h : MH) : Option (Int32 × MH) :=
  if (mf_M_isPlace a1 a2) = 0 then mf_M_covers_J14 fuel a1 a2 (1 : Int32) h else mf_M_covers_J14 fuel a1 a2 (0 : Int32) h
def mf_M_block_J82 (fuel : Nat) (v5 : Int32) (w1 : Int32) (w2 : Int32) (h : MH) : Option (Int32 × MH) :=
  (mf_M_findBlock fuel (w1 + w2) h).bind fun q1 => if 0 ≤ q1 then (gd 30 q1).bind fun j2 => if v5 = 0 then (gd 30 q1).bind fun j3 => some (((mh_lengths h j3), h)) else if v5 = (1 : Int32) then some (((((mh_behind h j2) / (8 : Int32)) - ((mh_behind h j2) / (8 : Int32)) / (12 : Int32) * (12 : Int32)), h)) else if v5 = (2 : Int32) then some (((((mh_behind h j2) / (8 : Int32)) / (12 : Int32)), h)) else if v5 = (3 : Int32) then some (((((mh_behind h j2) / (2 : Int32)) - ((mh_behind h j2) / (2 : Int32)) / (4 : Int32) * (4 : Int32)), h)) else some ((((mh_behind h j2) - (mh_behind h j2) / (2 : Int32) * (2 : Int32)), h)) else some (((-1 : Int32), h))
def mf_M_block_J50 (fuel : Nat) (v1 : Int32) (v2 : Int32) (v3 : Int32) (v4 : Int32) (v5 : Int32) (w1 : Int32) (h : MH) : Option (Int32 × MH) :=
  if (mf_M_refused w1 h).1 = 0 then if v4 = 0 then mf_M_block_J82 fuel v5 (((8 : Int32) * (((12 : Int32) * v2) + v1)) + ((2 : Int32) * v3)) (0 : Int32) (mf_M_refused w1 h).2 else mf_M_block_J82 fuel v5 (((8 : Int32) * (((12 : Int32) * v2) + v1)) + ((2 : Int32) * v3)) (1 : Int32) (mf_M_refused w1 h).2 else some (((0 : Int32), (mf_M_refused w1 h).2))
def mf_M_block_J25 (fuel : Nat) (v1 : Int32) (v2 : Int32) (v3 : Int32) (v4 : Int32) (v5 : Int32) (w0 : Int32) (h : MH) : Option (Int32 × MH) :=
  if (mf_M_isPlace v1 v2) = 0 then mf_M_block_J50 fuel v1 v2 v3 v4 v5 (1 : Int32) h else if w0 = 0 then mf_M_block_J50 fuel v1 v2 v3 v4 v5 (2 : Int32) h else mf_M_block_J50 fuel v1 v2 v3 v4 v5 (0 : Int32) h
def mf_M_block_J24 (fuel : Nat) (v1 : Int32) (v2 : Int32) (v3 : Int32) (v4 : Int32) (v5 : Int32) (h : MH) : Option (Int32 × MH) :=
  mf_M_block_J25 fuel v1 v2 v3 v4 v5 (0 : Int32) h
def mf_M_block (fuel : Nat) (a1 : Int32) (a2 : Int32) (a3 : Int32) (a4 : Int32) (a5 : Int32) (h : MH) : Option (Int32 × MH) :=
  if a3 < 0 then mf_M_block_J24 fuel a1 a2 a3 a4 a5 h else if (4 : Int32) ≤ a3 then mf_M_block_J24 fuel a1 a2 a3 a4 a5 h else if a5 < 0 then mf_M_block_J24 fuel a1 a2 a3 a4 a5 h else if (5 : Int32) ≤ a5 then mf_M_block_J24 fuel a1 a2 a3 a4 a5 h else mf_M_block_J25 fuel a1 a2 a3 a4 a5 (1 : Int32) h
def mf_M_lost_J14 (fuel : Nat) (v1 : Int32) (v2 : Int32) (w1 : Int32) (h : MH) : Option (Int32 × MH) :=
  if (mf_M_refused w1 h).1 = 0 then (mf_M_findWays fuel (mf_M_refused w1 h).2).bind fun q1 => (mf_M_isLost fuel (((12 : Int32) * v2) + v1) q1).bind fun q2 => (nz q2).bind fun r3 => some ((r3, q1)) else some (((0 : Int32), (mf_M_refused w1 h).2))
def mf_M_lost (fuel : Nat) (a1 : Int32) (a2 : Int32) (h : MH) : Option (Int32 × MH) :=
  if (mf_M_isPlace a1 a2) = 0 then mf_M_lost_J14 fuel a1 a2 (1 : Int32) h else mf_M_lost_J14 fuel a1 a2 (0 : Int32) h
def mf_M_output_L7 (fuel : Nat) : Nat → Int32 → MH → Option (Int32 × MH)
  | 0, _, _ => none
  | n + 1, v1, h => if (mh_vshown h) ≤ v1 then (some (ms_vwritten h (mh_vshown h))).bind fun g2 => some (((mh_vwritten g2), g2)) else (gd 80 v1).bind fun j3 => (gd 80 v1).bind fun j4 => (some (ms_page h j4 (mh_output h j3))).bind fun g5 => (mf_M_output_L7 fuel n) (v1 + (1 : Int32)) g5
def mf_M_output (fuel : Nat) (h : MH) : Option (Int32 × MH) :=
  (some (ms_vfault h (0 : Int32))).bind fun g1 => mf_M_output_L7 fuel fuel (0 : Int32) g1
def mf_M_length (h : MH) : Int32 × MH :=
  ((mh_vwritten (ms_vfault h (0 : Int32))), (ms_vfault h (0 : Int32)))
def mf_M_charAt (a1 : Int32) (h : MH) : Option (Int32 × MH) :=
  (some (ms_vfault h (0 : Int32))).bind fun g1 => if a1 < 0 then some (((32 : Int32), g1)) else if a1 < (mh_vwritten g1) then (gd 80 a1).bind fun j2 => some ((((mh_page g1 j2).toUInt32 % 65536).toInt32, g1)) else some (((32 : Int32), g1))
