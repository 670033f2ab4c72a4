abbrev XH : Type := Int32 × Int32 × (Nat → Nat) × (Nat → Int32) × (Nat → Int32) × Int32 × Int32 × Int32 × Int32 × Int32 × (Nat → Nat) × (Nat → Int64) × (Nat → Int32) × Int32 × (Nat → Int32) × (Nat → Int32) × (Nat → Int32) × (Nat → Nat → Int32) × (Nat → Int32) × (Nat → Int32) × (Nat → Int32) × (Nat → Nat → Int64) × (Nat → Nat → Int32) × (Nat → Int32) × (Nat → Int32) × (Nat → Int32) × (Nat → Int64) × (Nat → Int64)
def xh_cap (k : Nat) : Nat := if k = 1 then 12 else 80
def xh_held (h : XH) : Int32 := h.1
def xh_dropped (h : XH) : Int32 := h.2.1
def xh_row (h : XH) : Nat → Nat := h.2.2.1
def xh_bmarks (h : XH) : Nat → Int32 := h.2.2.2.1
def xh_signs (h : XH) : Nat → Int32 := h.2.2.2.2.1
def xh_living (h : XH) : Int32 := h.2.2.2.2.2.1
def xh_given (h : XH) : Int32 := h.2.2.2.2.2.2.1
def xh_read (h : XH) : Int32 := h.2.2.2.2.2.2.2.1
def xh_steps (h : XH) : Int32 := h.2.2.2.2.2.2.2.2.1
def xh_stopped (h : XH) : Int32 := h.2.2.2.2.2.2.2.2.2.1
def xh_ptrs (h : XH) : Nat → Nat := h.2.2.2.2.2.2.2.2.2.2.1
def xh_innums (h : XH) : Nat → Int64 := h.2.2.2.2.2.2.2.2.2.2.2.1
def xh_digits (h : XH) : Nat → Int32 := h.2.2.2.2.2.2.2.2.2.2.2.2.1
def xh_ssize (h : XH) : Int32 := h.2.2.2.2.2.2.2.2.2.2.2.2.2.1
def xh_smarks (h : XH) : Nat → Int32 := h.2.2.2.2.2.2.2.2.2.2.2.2.2.2.1
def xh_sfound (h : XH) : Nat → Int32 := h.2.2.2.2.2.2.2.2.2.2.2.2.2.2.2.1
def xh_lsize (h : XH) : Nat → Int32 := h.2.2.2.2.2.2.2.2.2.2.2.2.2.2.2.2.1
def xh_lchars (h : XH) : Nat → Nat → Int32 := h.2.2.2.2.2.2.2.2.2.2.2.2.2.2.2.2.2.1
def xh_pway (h : XH) : Nat → Int32 := h.2.2.2.2.2.2.2.2.2.2.2.2.2.2.2.2.2.2.1
def xh_pdepth (h : XH) : Nat → Int32 := h.2.2.2.2.2.2.2.2.2.2.2.2.2.2.2.2.2.2.2.1
def xh_pret (h : XH) : Nat → Int32 := h.2.2.2.2.2.2.2.2.2.2.2.2.2.2.2.2.2.2.2.2.1
def xh_pnums (h : XH) : Nat → Nat → Int64 := h.2.2.2.2.2.2.2.2.2.2.2.2.2.2.2.2.2.2.2.2.2.1
def xh_prets (h : XH) : Nat → Nat → Int32 := h.2.2.2.2.2.2.2.2.2.2.2.2.2.2.2.2.2.2.2.2.2.2.1
def xh_bbegin (h : XH) : Nat → Int32 := h.2.2.2.2.2.2.2.2.2.2.2.2.2.2.2.2.2.2.2.2.2.2.2.1
def xh_bbehind (h : XH) : Nat → Int32 := h.2.2.2.2.2.2.2.2.2.2.2.2.2.2.2.2.2.2.2.2.2.2.2.2.1
def xh_bsize (h : XH) : Nat → Int32 := h.2.2.2.2.2.2.2.2.2.2.2.2.2.2.2.2.2.2.2.2.2.2.2.2.2.1
def xh_blow (h : XH) : Nat → Int64 := h.2.2.2.2.2.2.2.2.2.2.2.2.2.2.2.2.2.2.2.2.2.2.2.2.2.2.1
def xh_bhigh (h : XH) : Nat → Int64 := h.2.2.2.2.2.2.2.2.2.2.2.2.2.2.2.2.2.2.2.2.2.2.2.2.2.2.2
def xz_held (h : XH) (v : Int32) : XH := (v, h.2)
def xs_held (h : XH) (v : Int32) : XH := xz_held h v
def xz_dropped (h : XH) (v : Int32) : XH := (h.1, v, h.2.2)
def xs_dropped (h : XH) (v : Int32) : XH := xz_dropped h v
def xz_row (h : XH) (v : Nat → Nat) : XH := (h.1, h.2.1, v, h.2.2.2)
def xs_row (h : XH) (j : Nat) (v : Nat) : XH := xz_row h (va_up (xh_row h) j v)
def xc_row (h : XH) (f : Nat → Nat) : XH := xz_row h f
def xz_bmarks (h : XH) (v : Nat → Int32) : XH := (h.1, h.2.1, h.2.2.1, v, h.2.2.2.2)
def xs_bmarks (h : XH) (j : Nat) (v : Int32) : XH := xz_bmarks h (va_up (xh_bmarks h) j v)
def xc_bmarks (h : XH) (f : Nat → Int32) : XH := xz_bmarks h f
def xz_signs (h : XH) (v : Nat → Int32) : XH := (h.1, h.2.1, h.2.2.1, h.2.2.2.1, v, h.2.2.2.2.2)
def xs_signs (h : XH) (j : Nat) (v : Int32) : XH := xz_signs h (va_up (xh_signs h) j v)
def xc_signs (h : XH) (f : Nat → Int32) : XH := xz_signs h f
def xz_living (h : XH) (v : Int32) : XH := (h.1, h.2.1, h.2.2.1, h.2.2.2.1, h.2.2.2.2.1, v, h.2.2.2.2.2.2)
def xs_living (h : XH) (v : Int32) : XH := xz_living h v
def xz_given (h : XH) (v : Int32) : XH := (h.1, h.2.1, h.2.2.1, h.2.2.2.1, h.2.2.2.2.1, h.2.2.2.2.2.1, v, h.2.2.2.2.2.2.2)
def xs_given (h : XH) (v : Int32) : XH := xz_given h v
def xz_read (h : XH) (v : Int32) : XH := (h.1, h.2.1, h.2.2.1, h.2.2.2.1, h.2.2.2.2.1, h.2.2.2.2.2.1, h.2.2.2.2.2.2.1, v, h.2.2.2.2.2.2.2.2)
def xs_read (h : XH) (v : Int32) : XH := xz_read h v
def xz_steps (h : XH) (v : Int32) : XH := (h.1, h.2.1, h.2.2.1, h.2.2.2.1, h.2.2.2.2.1, h.2.2.2.2.2.1, h.2.2.2.2.2.2.1, h.2.2.2.2.2.2.2.1, v, h.2.2.2.2.2.2.2.2.2)
def xs_steps (h : XH) (v : Int32) : XH := xz_steps h v
def xz_stopped (h : XH) (v : Int32) : XH := (h.1, h.2.1, h.2.2.1, h.2.2.2.1, h.2.2.2.2.1, h.2.2.2.2.2.1, h.2.2.2.2.2.2.1, h.2.2.2.2.2.2.2.1, h.2.2.2.2.2.2.2.2.1, v, h.2.2.2.2.2.2.2.2.2.2)
def xs_stopped (h : XH) (v : Int32) : XH := xz_stopped h v
def xz_ptrs (h : XH) (v : Nat → Nat) : XH := (h.1, h.2.1, h.2.2.1, h.2.2.2.1, h.2.2.2.2.1, h.2.2.2.2.2.1, h.2.2.2.2.2.2.1, h.2.2.2.2.2.2.2.1, h.2.2.2.2.2.2.2.2.1, h.2.2.2.2.2.2.2.2.2.1, v, h.2.2.2.2.2.2.2.2.2.2.2)
def xs_ptrs (h : XH) (j : Nat) (v : Nat) : XH := xz_ptrs h (va_up (xh_ptrs h) j v)
def xc_ptrs (h : XH) (f : Nat → Nat) : XH := xz_ptrs h f
def xz_innums (h : XH) (v : Nat → Int64) : XH := (h.1, h.2.1, h.2.2.1, h.2.2.2.1, h.2.2.2.2.1, h.2.2.2.2.2.1, h.2.2.2.2.2.2.1, h.2.2.2.2.2.2.2.1, h.2.2.2.2.2.2.2.2.1, h.2.2.2.2.2.2.2.2.2.1, h.2.2.2.2.2.2.2.2.2.2.1, v, h.2.2.2.2.2.2.2.2.2.2.2.2)
def xs_innums (h : XH) (j : Nat) (v : Int64) : XH := xz_innums h (va_up (xh_innums h) j v)
def xc_innums (h : XH) (f : Nat → Int64) : XH := xz_innums h f
def xz_digits (h : XH) (v : Nat → Int32) : XH := (h.1, h.2.1, h.2.2.1, h.2.2.2.1, h.2.2.2.2.1, h.2.2.2.2.2.1, h.2.2.2.2.2.2.1, h.2.2.2.2.2.2.2.1, h.2.2.2.2.2.2.2.2.1, h.2.2.2.2.2.2.2.2.2.1, h.2.2.2.2.2.2.2.2.2.2.1, h.2.2.2.2.2.2.2.2.2.2.2.1, v, h.2.2.2.2.2.2.2.2.2.2.2.2.2)
def xs_digits (h : XH) (j : Nat) (v : Int32) : XH := xz_digits h (va_up (xh_digits h) j v)
def xc_digits (h : XH) (f : Nat → Int32) : XH := xz_digits h f
def xz_ssize (h : XH) (v : Int32) : XH := (h.1, h.2.1, h.2.2.1, h.2.2.2.1, h.2.2.2.2.1, h.2.2.2.2.2.1, h.2.2.2.2.2.2.1, h.2.2.2.2.2.2.2.1, h.2.2.2.2.2.2.2.2.1, h.2.2.2.2.2.2.2.2.2.1, h.2.2.2.2.2.2.2.2.2.2.1, h.2.2.2.2.2.2.2.2.2.2.2.1, h.2.2.2.2.2.2.2.2.2.2.2.2.1, v, h.2.2.2.2.2.2.2.2.2.2.2.2.2.2)
def xs_ssize (h : XH) (v : Int32) : XH := xz_ssize h v
def xz_smarks (h : XH) (v : Nat → Int32) : XH := (h.1, h.2.1, h.2.2.1, h.2.2.2.1, h.2.2.2.2.1, h.2.2.2.2.2.1, h.2.2.2.2.2.2.1, h.2.2.2.2.2.2.2.1, h.2.2.2.2.2.2.2.2.1, h.2.2.2.2.2.2.2.2.2.1, h.2.2.2.2.2.2.2.2.2.2.1, h.2.2.2.2.2.2.2.2.2.2.2.1, h.2.2.2.2.2.2.2.2.2.2.2.2.1, h.2.2.2.2.2.2.2.2.2.2.2.2.2.1, v, h.2.2.2.2.2.2.2.2.2.2.2.2.2.2.2)
def xs_smarks (h : XH) (j : Nat) (v : Int32) : XH := xz_smarks h (va_up (xh_smarks h) j v)
def xc_smarks (h : XH) (f : Nat → Int32) : XH := xz_smarks h f
def xz_sfound (h : XH) (v : Nat → Int32) : XH := (h.1, h.2.1, h.2.2.1, h.2.2.2.1, h.2.2.2.2.1, h.2.2.2.2.2.1, h.2.2.2.2.2.2.1, h.2.2.2.2.2.2.2.1, h.2.2.2.2.2.2.2.2.1, h.2.2.2.2.2.2.2.2.2.1, h.2.2.2.2.2.2.2.2.2.2.1, h.2.2.2.2.2.2.2.2.2.2.2.1, h.2.2.2.2.2.2.2.2.2.2.2.2.1, h.2.2.2.2.2.2.2.2.2.2.2.2.2.1, h.2.2.2.2.2.2.2.2.2.2.2.2.2.2.1, v, h.2.2.2.2.2.2.2.2.2.2.2.2.2.2.2.2)
def xs_sfound (h : XH) (j : Nat) (v : Int32) : XH := xz_sfound h (va_up (xh_sfound h) j v)
def xc_sfound (h : XH) (f : Nat → Int32) : XH := xz_sfound h f
def xz_lsize (h : XH) (v : Nat → Int32) : XH := (h.1, h.2.1, h.2.2.1, h.2.2.2.1, h.2.2.2.2.1, h.2.2.2.2.2.1, h.2.2.2.2.2.2.1, h.2.2.2.2.2.2.2.1, h.2.2.2.2.2.2.2.2.1, h.2.2.2.2.2.2.2.2.2.1, h.2.2.2.2.2.2.2.2.2.2.1, h.2.2.2.2.2.2.2.2.2.2.2.1, h.2.2.2.2.2.2.2.2.2.2.2.2.1, h.2.2.2.2.2.2.2.2.2.2.2.2.2.1, h.2.2.2.2.2.2.2.2.2.2.2.2.2.2.1, h.2.2.2.2.2.2.2.2.2.2.2.2.2.2.2.1, v, h.2.2.2.2.2.2.2.2.2.2.2.2.2.2.2.2.2)
def xs_lsize (h : XH) (k : Nat) (v : Int32) : XH := xz_lsize h (va_up (xh_lsize h) k v)
def xz_lchars (h : XH) (v : Nat → Nat → Int32) : XH := (h.1, h.2.1, h.2.2.1, h.2.2.2.1, h.2.2.2.2.1, h.2.2.2.2.2.1, h.2.2.2.2.2.2.1, h.2.2.2.2.2.2.2.1, h.2.2.2.2.2.2.2.2.1, h.2.2.2.2.2.2.2.2.2.1, h.2.2.2.2.2.2.2.2.2.2.1, h.2.2.2.2.2.2.2.2.2.2.2.1, h.2.2.2.2.2.2.2.2.2.2.2.2.1, h.2.2.2.2.2.2.2.2.2.2.2.2.2.1, h.2.2.2.2.2.2.2.2.2.2.2.2.2.2.1, h.2.2.2.2.2.2.2.2.2.2.2.2.2.2.2.1, h.2.2.2.2.2.2.2.2.2.2.2.2.2.2.2.2.1, v, h.2.2.2.2.2.2.2.2.2.2.2.2.2.2.2.2.2.2)
def xs_lchars (h : XH) (k j : Nat) (v : Int32) : XH := xz_lchars h (va_up (xh_lchars h) k (va_up (xh_lchars h k) j v))
def xc_lchars (h : XH) (k : Nat) (f : Nat → Int32) : XH := xz_lchars h (va_up (xh_lchars h) k f)
def xz_pway (h : XH) (v : Nat → Int32) : XH := (h.1, h.2.1, h.2.2.1, h.2.2.2.1, h.2.2.2.2.1, h.2.2.2.2.2.1, h.2.2.2.2.2.2.1, h.2.2.2.2.2.2.2.1, h.2.2.2.2.2.2.2.2.1, h.2.2.2.2.2.2.2.2.2.1, h.2.2.2.2.2.2.2.2.2.2.1, h.2.2.2.2.2.2.2.2.2.2.2.1, h.2.2.2.2.2.2.2.2.2.2.2.2.1, h.2.2.2.2.2.2.2.2.2.2.2.2.2.1, h.2.2.2.2.2.2.2.2.2.2.2.2.2.2.1, h.2.2.2.2.2.2.2.2.2.2.2.2.2.2.2.1, h.2.2.2.2.2.2.2.2.2.2.2.2.2.2.2.2.1, h.2.2.2.2.2.2.2.2.2.2.2.2.2.2.2.2.2.1, v, h.2.2.2.2.2.2.2.2.2.2.2.2.2.2.2.2.2.2.2)
def xs_pway (h : XH) (k : Nat) (v : Int32) : XH := xz_pway h (va_up (xh_pway h) k v)
def xz_pdepth (h : XH) (v : Nat → Int32) : XH := (h.1, h.2.1, h.2.2.1, h.2.2.2.1, h.2.2.2.2.1, h.2.2.2.2.2.1, h.2.2.2.2.2.2.1, h.2.2.2.2.2.2.2.1, h.2.2.2.2.2.2.2.2.1, h.2.2.2.2.2.2.2.2.2.1, h.2.2.2.2.2.2.2.2.2.2.1, h.2.2.2.2.2.2.2.2.2.2.2.1, h.2.2.2.2.2.2.2.2.2.2.2.2.1, h.2.2.2.2.2.2.2.2.2.2.2.2.2.1, h.2.2.2.2.2.2.2.2.2.2.2.2.2.2.1, h.2.2.2.2.2.2.2.2.2.2.2.2.2.2.2.1, h.2.2.2.2.2.2.2.2.2.2.2.2.2.2.2.2.1, h.2.2.2.2.2.2.2.2.2.2.2.2.2.2.2.2.2.1, h.2.2.2.2.2.2.2.2.2.2.2.2.2.2.2.2.2.2.1, v, h.2.2.2.2.2.2.2.2.2.2.2.2.2.2.2.2.2.2.2.2)
def xs_pdepth (h : XH) (k : Nat) (v : Int32) : XH := xz_pdepth h (va_up (xh_pdepth h) k v)
def xz_pret (h : XH) (v : Nat → Int32) : XH := (h.1, h.2.1, h.2.2.1, h.2.2.2.1, h.2.2.2.2.1, h.2.2.2.2.2.1, h.2.2.2.2.2.2.1, h.2.2.2.2.2.2.2.1, h.2.2.2.2.2.2.2.2.1, h.2.2.2.2.2.2.2.2.2.1, h.2.2.2.2.2.2.2.2.2.2.1, h.2.2.2.2.2.2.2.2.2.2.2.1, h.2.2.2.2.2.2.2.2.2.2.2.2.1, h.2.2.2.2.2.2.2.2.2.2.2.2.2.1, h.2.2.2.2.2.2.2.2.2.2.2.2.2.2.1, h.2.2.2.2.2.2.2.2.2.2.2.2.2.2.2.1, h.2.2.2.2.2.2.2.2.2.2.2.2.2.2.2.2.1, h.2.2.2.2.2.2.2.2.2.2.2.2.2.2.2.2.2.1, h.2.2.2.2.2.2.2.2.2.2.2.2.2.2.2.2.2.2.1, h.2.2.2.2.2.2.2.2.2.2.2.2.2.2.2.2.2.2.2.1, v, h.2.2.2.2.2.2.2.2.2.2.2.2.2.2.2.2.2.2.2.2.2)
def xs_pret (h : XH) (k : Nat) (v : Int32) : XH := xz_pret h (va_up (xh_pret h) k v)
def xz_pnums (h : XH) (v : Nat → Nat → Int64) : XH := (h.1, h.2.1, h.2.2.1, h.2.2.2.1, h.2.2.2.2.1, h.2.2.2.2.2.1, h.2.2.2.2.2.2.1, h.2.2.2.2.2.2.2.1, h.2.2.2.2.2.2.2.2.1, h.2.2.2.2.2.2.2.2.2.1, h.2.2.2.2.2.2.2.2.2.2.1, h.2.2.2.2.2.2.2.2.2.2.2.1, h.2.2.2.2.2.2.2.2.2.2.2.2.1, h.2.2.2.2.2.2.2.2.2.2.2.2.2.1, h.2.2.2.2.2.2.2.2.2.2.2.2.2.2.1, h.2.2.2.2.2.2.2.2.2.2.2.2.2.2.2.1, h.2.2.2.2.2.2.2.2.2.2.2.2.2.2.2.2.1, h.2.2.2.2.2.2.2.2.2.2.2.2.2.2.2.2.2.1, h.2.2.2.2.2.2.2.2.2.2.2.2.2.2.2.2.2.2.1, h.2.2.2.2.2.2.2.2.2.2.2.2.2.2.2.2.2.2.2.1, h.2.2.2.2.2.2.2.2.2.2.2.2.2.2.2.2.2.2.2.2.1, v, h.2.2.2.2.2.2.2.2.2.2.2.2.2.2.2.2.2.2.2.2.2.2)
def xs_pnums (h : XH) (k j : Nat) (v : Int64) : XH := xz_pnums h (va_up (xh_pnums h) k (va_up (xh_pnums h k) j v))
def xc_pnums (h : XH) (k : Nat) (f : Nat → Int64) : XH := xz_pnums h (va_up (xh_pnums h) k f)
def xz_prets (h : XH) (v : Nat → Nat → Int32) : XH := (h.1, h.2.1, h.2.2.1, h.2.2.2.1, h.2.2.2.2.1, h.2.2.2.2.2.1, h.2.2.2.2.2.2.1, h.2.2.2.2.2.2.2.1, h.2.2.2.2.2.2.2.2.1, h.2.2.2.2.2.2.2.2.2.1, h.2.2.2.2.2.2.2.2.2.2.1, h.2.2.2.2.2.2.2.2.2.2.2.1, h.2.2.2.2.2.2.2.2.2.2.2.2.1, h.2.2.2.2.2.2.2.2.2.2.2.2.2.1, h.2.2.2.2.2.2.2.2.2.2.2.2.2.2.1, h.2.2.2.2.2.2.2.2.2.2.2.2.2.2.2.1, h.2.2.2.2.2.2.2.2.2.2.2.2.2.2.2.2.1, h.2.2.2.2.2.2.2.2.2.2.2.2.2.2.2.2.2.1, h.2.2.2.2.2.2.2.2.2.2.2.2.2.2.2.2.2.2.1, h.2.2.2.2.2.2.2.2.2.2.2.2.2.2.2.2.2.2.2.1, h.2.2.2.2.2.2.2.2.2.2.2.2.2.2.2.2.2.2.2.2.1, h.2.2.2.2.2.2.2.2.2.2.2.2.2.2.2.2.2.2.2.2.2.1, v, h.2.2.2.2.2.2.2.2.2.2.2.2.2.2.2.2.2.2.2.2.2.2.2)
def xs_prets (h : XH) (k j : Nat) (v : Int32) : XH := xz_prets h (va_up (xh_prets h) k (va_up (xh_prets h k) j v))
def xc_prets (h : XH) (k : Nat) (f : Nat → Int32) : XH := xz_prets h (va_up (xh_prets h) k f)
def xz_bbegin (h : XH) (v : Nat → Int32) : XH := (h.1, h.2.1, h.2.2.1, h.2.2.2.1, h.2.2.2.2.1, h.2.2.2.2.2.1, h.2.2.2.2.2.2.1, h.2.2.2.2.2.2.2.1, h.2.2.2.2.2.2.2.2.1, h.2.2.2.2.2.2.2.2.2.1, h.2.2.2.2.2.2.2.2.2.2.1, h.2.2.2.2.2.2.2.2.2.2.2.1, h.2.2.2.2.2.2.2.2.2.2.2.2.1, h.2.2.2.2.2.2.2.2.2.2.2.2.2.1, h.2.2.2.2.2.2.2.2.2.2.2.2.2.2.1, h.2.2.2.2.2.2.2.2.2.2.2.2.2.2.2.1, h.2.2.2.2.2.2.2.2.2.2.2.2.2.2.2.2.1, h.2.2.2.2.2.2.2.2.2.2.2.2.2.2.2.2.2.1, h.2.2.2.2.2.2.2.2.2.2.2.2.2.2.2.2.2.2.1, h.2.2.2.2.2.2.2.2.2.2.2.2.2.2.2.2.2.2.2.1, h.2.2.2.2.2.2.2.2.2.2.2.2.2.2.2.2.2.2.2.2.1, h.2.2.2.2.2.2.2.2.2.2.2.2.2.2.2.2.2.2.2.2.2.1, h.2.2.2.2.2.2.2.2.2.2.2.2.2.2.2.2.2.2.2.2.2.2.1, v, h.2.2.2.2.2.2.2.2.2.2.2.2.2.2.2.2.2.2.2.2.2.2.2.2)
def xs_bbegin (h : XH) (k : Nat) (v : Int32) : XH := xz_bbegin h (va_up (xh_bbegin h) k v)
def xz_bbehind (h : XH) (v : Nat → Int32) : XH := (h.1, h.2.1, h.2.2.1, h.2.2.2.1, h.2.2.2.2.1, h.2.2.2.2.2.1, h.2.2.2.2.2.2.1, h.2.2.2.2.2.2.2.1, h.2.2.2.2.2.2.2.2.1, h.2.2.2.2.2.2.2.2.2.1, h.2.2.2.2.2.2.2.2.2.2.1, h.2.2.2.2.2.2.2.2.2.2.2.1, h.2.2.2.2.2.2.2.2.2.2.2.2.1, h.2.2.2.2.2.2.2.2.2.2.2.2.2.1, h.2.2.2.2.2.2.2.2.2.2.2.2.2.2.1, h.2.2.2.2.2.2.2.2.2.2.2.2.2.2.2.1, h.2.2.2.2.2.2.2.2.2.2.2.2.2.2.2.2.1, h.2.2.2.2.2.2.2.2.2.2.2.2.2.2.2.2.2.1, h.2.2.2.2.2.2.2.2.2.2.2.2.2.2.2.2.2.2.1, h.2.2.2.2.2.2.2.2.2.2.2.2.2.2.2.2.2.2.2.1, h.2.2.2.2.2.2.2.2.2.2.2.2.2.2.2.2.2.2.2.2.1, h.2.2.2.2.2.2.2.2.2.2.2.2.2.2.2.2.2.2.2.2.2.1, h.2.2.2.2.2.2.2.2.2.2.2.2.2.2.2.2.2.2.2.2.2.2.1, h.2.2.2.2.2.2.2.2.2.2.2.2.2.2.2.2.2.2.2.2.2.2.2.1, v, h.2.2.2.2.2.2.2.2.2.2.2.2.2.2.2.2.2.2.2.2.2.2.2.2.2)
def xs_bbehind (h : XH) (k : Nat) (v : Int32) : XH := xz_bbehind h (va_up (xh_bbehind h) k v)
def xz_bsize (h : XH) (v : Nat → Int32) : XH := (h.1, h.2.1, h.2.2.1, h.2.2.2.1, h.2.2.2.2.1, h.2.2.2.2.2.1, h.2.2.2.2.2.2.1, h.2.2.2.2.2.2.2.1, h.2.2.2.2.2.2.2.2.1, h.2.2.2.2.2.2.2.2.2.1, h.2.2.2.2.2.2.2.2.2.2.1, h.2.2.2.2.2.2.2.2.2.2.2.1, h.2.2.2.2.2.2.2.2.2.2.2.2.1, h.2.2.2.2.2.2.2.2.2.2.2.2.2.1, h.2.2.2.2.2.2.2.2.2.2.2.2.2.2.1, h.2.2.2.2.2.2.2.2.2.2.2.2.2.2.2.1, h.2.2.2.2.2.2.2.2.2.2.2.2.2.2.2.2.1, h.2.2.2.2.2.2.2.2.2.2.2.2.2.2.2.2.2.1, h.2.2.2.2.2.2.2.2.2.2.2.2.2.2.2.2.2.2.1, h.2.2.2.2.2.2.2.2.2.2.2.2.2.2.2.2.2.2.2.1, h.2.2.2.2.2.2.2.2.2.2.2.2.2.2.2.2.2.2.2.2.1, h.2.2.2.2.2.2.2.2.2.2.2.2.2.2.2.2.2.2.2.2.2.1, h.2.2.2.2.2.2.2.2.2.2.2.2.2.2.2.2.2.2.2.2.2.2.1, h.2.2.2.2.2.2.2.2.2.2.2.2.2.2.2.2.2.2.2.2.2.2.2.1, h.2.2.2.2.2.2.2.2.2.2.2.2.2.2.2.2.2.2.2.2.2.2.2.2.1, v, h.2.2.2.2.2.2.2.2.2.2.2.2.2.2.2.2.2.2.2.2.2.2.2.2.2.2)
def xs_bsize (h : XH) (k : Nat) (v : Int32) : XH := xz_bsize h (va_up (xh_bsize h) k v)
def xz_blow (h : XH) (v : Nat → Int64) : XH := (h.1, h.2.1, h.2.2.1, h.2.2.2.1, h.2.2.2.2.1, h.2.2.2.2.2.1, h.2.2.2.2.2.2.1, h.2.2.2.2.2.2.2.1, h.2.2.2.2.2.2.2.2.1, h.2.2.2.2.2.2.2.2.2.1, h.2.2.2.2.2.2.2.2.2.2.1, h.2.2.2.2.2.2.2.2.2.2.2.1, h.2.2.2.2.2.2.2.2.2.2.2.2.1, h.2.2.2.2.2.2.2.2.2.2.2.2.2.1, h.2.2.2.2.2.2.2.2.2.2.2.2.2.2.1, h.2.2.2.2.2.2.2.2.2.2.2.2.2.2.2.1, h.2.2.2.2.2.2.2.2.2.2.2.2.2.2.2.2.1, h.2.2.2.2.2.2.2.2.2.2.2.2.2.2.2.2.2.1, h.2.2.2.2.2.2.2.2.2.2.2.2.2.2.2.2.2.2.1, h.2.2.2.2.2.2.2.2.2.2.2.2.2.2.2.2.2.2.2.1, h.2.2.2.2.2.2.2.2.2.2.2.2.2.2.2.2.2.2.2.2.1, h.2.2.2.2.2.2.2.2.2.2.2.2.2.2.2.2.2.2.2.2.2.1, h.2.2.2.2.2.2.2.2.2.2.2.2.2.2.2.2.2.2.2.2.2.2.1, h.2.2.2.2.2.2.2.2.2.2.2.2.2.2.2.2.2.2.2.2.2.2.2.1, h.2.2.2.2.2.2.2.2.2.2.2.2.2.2.2.2.2.2.2.2.2.2.2.2.1, h.2.2.2.2.2.2.2.2.2.2.2.2.2.2.2.2.2.2.2.2.2.2.2.2.2.1, v, h.2.2.2.2.2.2.2.2.2.2.2.2.2.2.2.2.2.2.2.2.2.2.2.2.2.2.2)
def xs_blow (h : XH) (k : Nat) (v : Int64) : XH := xz_blow h (va_up (xh_blow h) k v)
def xz_bhigh (h : XH) (v : Nat → Int64) : XH := (h.1, h.2.1, h.2.2.1, h.2.2.2.1, h.2.2.2.2.1, h.2.2.2.2.2.1, h.2.2.2.2.2.2.1, h.2.2.2.2.2.2.2.1, h.2.2.2.2.2.2.2.2.1, h.2.2.2.2.2.2.2.2.2.1, h.2.2.2.2.2.2.2.2.2.2.1, h.2.2.2.2.2.2.2.2.2.2.2.1, h.2.2.2.2.2.2.2.2.2.2.2.2.1, h.2.2.2.2.2.2.2.2.2.2.2.2.2.1, h.2.2.2.2.2.2.2.2.2.2.2.2.2.2.1, h.2.2.2.2.2.2.2.2.2.2.2.2.2.2.2.1, h.2.2.2.2.2.2.2.2.2.2.2.2.2.2.2.2.1, h.2.2.2.2.2.2.2.2.2.2.2.2.2.2.2.2.2.1, h.2.2.2.2.2.2.2.2.2.2.2.2.2.2.2.2.2.2.1, h.2.2.2.2.2.2.2.2.2.2.2.2.2.2.2.2.2.2.2.1, h.2.2.2.2.2.2.2.2.2.2.2.2.2.2.2.2.2.2.2.2.1, h.2.2.2.2.2.2.2.2.2.2.2.2.2.2.2.2.2.2.2.2.2.1, h.2.2.2.2.2.2.2.2.2.2.2.2.2.2.2.2.2.2.2.2.2.2.1, h.2.2.2.2.2.2.2.2.2.2.2.2.2.2.2.2.2.2.2.2.2.2.2.1, h.2.2.2.2.2.2.2.2.2.2.2.2.2.2.2.2.2.2.2.2.2.2.2.2.1, h.2.2.2.2.2.2.2.2.2.2.2.2.2.2.2.2.2.2.2.2.2.2.2.2.2.1, h.2.2.2.2.2.2.2.2.2.2.2.2.2.2.2.2.2.2.2.2.2.2.2.2.2.2.1, v)
def xs_bhigh (h : XH) (k : Nat) (v : Int64) : XH := xz_bhigh h (va_up (xh_bhigh h) k v)
def xf_Field_wipe_L2 (fuel : Nat) : Nat → Int32 → XH → Option (XH)
  | 0, _, _ => none
  | n + 1, v1, h => if (96 : Int32) ≤ v1 then some (h) else (gd 96 v1).bind fun j1 => (some (xs_signs h j1 (vp_nar .char (32 : Int32)))).bind fun g2 => (xf_Field_wipe_L2 fuel n) (v1 + (1 : Int32)) g2
def xf_Field_wipe (fuel : Nat) (h : XH) : Option (XH) :=
  xf_Field_wipe_L2 fuel fuel (0 : Int32) h
def xf_P_placeAt (a0 : Int32) (a1 : Int32) : Nat ⊕ (Int32) :=
  if a0 < 0 then Sum.inl 1 else if (12 : Int32) ≤ a0 then Sum.inl 1 else if a1 < 0 then Sum.inl 1 else if a1 < (8 : Int32) then Sum.inr (((a1 * (12 : Int32)) + a0)) else Sum.inl 1
def xf_P_isSign (a0 : Int32) : Int32 :=
  if a0 < (32 : Int32) then (0 : Int32) else if (126 : Int32) < a0 then (0 : Int32) else (1 : Int32)
def xf_Block_isOver_J17 (v1 : Int32) (w0 : Int64) (h : XH) : Int32 :=
  if (lg_cmp ((w0.toUInt64 >>> ((v1 &&& (63 : Int32)).toInt64.toUInt64 &&& Int64.toUInt64 63)).toInt64 &&& (1 : Int64)) (1 : Int64)) = 0 then (1 : Int32) else (0 : Int32)
def xf_Block_isOver (k0 : Nat) (a1 : Int32) (h : XH) : Int32 :=
  if (64 : Int32) ≤ a1 then xf_Block_isOver_J17 a1 (xh_bhigh h k0) h else xf_Block_isOver_J17 a1 (xh_blow h k0) h
def xf_Blocks_drop_J58 (fuel : Nat) (recL10 : Int32 → Int32 → Int32 → Int32 → XH → Option (XH)) (v1 : Int32) (v2 : Int32) (v3 : Int32) (v4 : Int32) (h : XH) : Option (XH) :=
  recL10 v1 v2 v3 (v4 + (1 : Int32)) h
def xf_Blocks_drop_L10 (fuel : Nat) : Nat → Int32 → Int32 → Int32 → Int32 → XH → Option (XH)
  | 0, _, _, _, _, _ => none
  | n + 1, v1, v2, v3, v4, h => if v3 ≤ v4 then (some (xs_dropped h ((xh_dropped h) + (v3 - v2)))).bind fun g1 => (some (xs_held g1 v2)).bind fun g2 => some (g2) else (gd 30 v4).bind fun j3 => (gn 30 (xh_row h j3)).bind fun k4 => if (xf_Block_isOver k4 v1 h) = 0 then (gd 30 v2).bind fun j5 => (gn 30 (xh_row h j5)).bind fun k6 => (gd 30 v4).bind fun j7 => (some (xs_row h j7 k6)).bind fun g8 => (gd 30 v2).bind fun j9 => (some (xs_row g8 j9 k4)).bind fun g10 => xf_Blocks_drop_J58 fuel (xf_Blocks_drop_L10 fuel n) v1 (v2 + (1 : Int32)) v3 v4 g10 else xf_Blocks_drop_J58 fuel (xf_Blocks_drop_L10 fuel n) v1 v2 v3 v4 h
def xf_Blocks_drop (fuel : Nat) (a1 : Int32) (h : XH) : Option (XH) :=
  xf_Blocks_drop_L10 fuel fuel a1 (0 : Int32) (xh_held h) (0 : Int32) h
def xf_Field_write (fuel : Nat) (a1 : Int32) (a2 : Int32) (h : XH) : Option (XH) :=
  (gd 96 a1).bind fun j1 => if (xh_signs h j1) = a2 then some (h) else (gd 96 a1).bind fun j2 => (some (xs_signs h j2 (vp_nar .char a2))).bind fun g3 => (xf_Blocks_drop fuel a1 g3).bind fun q4 => some (q4)
def xf_P_put (fuel : Nat) (a1 : Int32) (a2 : Int32) (a3 : Int32) (h : XH) : Option (Nat ⊕ (Int32 × XH)) :=
  sbd (xf_P_placeAt a1 a2) fun q1 => if (xf_P_isSign a3) = 0 then some (Sum.inl 2) else ((gd 96 q1).bind fun j2 => (xf_Field_write fuel q1 a3 h).bind fun q3 => (nc (xh_signs h j2)).bind fun r4 => some ((r4, q3))).map Sum.inr
def xf_P_sign (a1 : Int32) (a2 : Int32) (h : XH) : Option (Nat ⊕ (Int32)) :=
  sbd (xf_P_placeAt a1 a2) fun q1 => ((gd 96 q1).bind fun j2 => (nc (xh_signs h j2)).bind fun r3 => some (r3)).map Sum.inr
def xf_Line_hasRoom (k0 : Nat) (a1 : Int32) (h : XH) : Int32 :=
  if ((nI (xh_cap k0)) - (xh_lsize h k0)) < a1 then (0 : Int32) else (1 : Int32)
def xf_Line_add (k0 : Nat) (a1 : Int32) (h : XH) : Option (XH) :=
  if (nI (xh_cap k0)) ≤ (xh_lsize h k0) then some (h) else (gd (xh_cap k0) (xh_lsize h k0)).bind fun j1 => (some (xs_lchars h k0 j1 (vp_nar .char a1))).bind fun g2 => (some (xs_lsize g2 k0 ((xh_lsize g2 k0) + (1 : Int32)))).bind fun g3 => some (g3)
def xf_P_type (a1 : Int32) (h : XH) : Option (Int32 × XH) :=
  if (xf_P_isSign a1) = 0 then some (((0 : Int32), h)) else if (xf_Line_hasRoom 1 (1 : Int32) h) = 0 then some (((0 : Int32), h)) else (xf_Line_add 1 a1 h).bind fun q1 => some (((1 : Int32), q1))
def xf_Line_at (k0 : Nat) (a1 : Int32) (h : XH) : Option (Int32) :=
  if a1 < 0 then some ((32 : Int32)) else if (xh_lsize h k0) ≤ a1 then some ((32 : Int32)) else (gd (xh_cap k0) a1).bind fun j1 => (nc (xh_lchars h k0 j1)).bind fun r2 => some (r2)
def xf_Line_empty (k0 : Nat) (h : XH) : XH :=
  (xs_lsize h k0 (0 : Int32))
def xf_P_lay_L17 (fuel : Nat) : Nat → Int32 → Int32 → Int32 → XH → Option (Int32 × XH)
  | 0, _, _, _, _ => none
  | n + 1, v2, v3, v4, h => if (12 : Int32) ≤ v4 then some ((v3, (xf_Line_empty 1 h))) else (xf_Line_at 1 v4 h).bind fun q2 => (xf_Field_write fuel (v2 + v4) q2 h).bind fun q3 => (xf_P_lay_L17 fuel n) v2 v3 (v4 + (1 : Int32)) q3
def xf_P_lay (fuel : Nat) (a1 : Int32) (h : XH) : Option (Nat ⊕ (Int32 × XH)) :=
  sbd (xf_P_placeAt (0 : Int32) a1) fun q1 => (xf_P_lay_L17 fuel fuel q1 (xh_lsize h 1) (0 : Int32) h).map Sum.inr
def xf_Run_give (a1 : Int64) (h : XH) : Option (XH) :=
  if (40 : Int32) ≤ (xh_given h) then some (h) else (gd 40 (xh_given h)).bind fun j1 => (some (xs_innums h j1 a1)).bind fun g2 => (some (xs_given g2 ((xh_given g2) + (1 : Int32)))).bind fun g3 => some (g3)
def xf_P_input (a1 : Int64) (h : XH) : Option (Nat ⊕ (Int32 × XH)) :=
  if (xh_given h) = (40 : Int32) then some (Sum.inl 3) else ((xf_Run_give a1 h).bind fun q1 => some (((xh_given q1), q1))).map Sum.inr
def xf_Blocks_forget (h : XH) : XH :=
  (xs_dropped (xs_held h (0 : Int32)) (0 : Int32))
def xf_Run_forget (h : XH) : XH :=
  (xf_Line_empty 0 (xs_stopped (xs_steps (xs_read (xs_given (xs_living h (0 : Int32)) (0 : Int32)) (0 : Int32)) (0 : Int32)) (0 : Int32)))
def xf_P_clear (fuel : Nat) (h : XH) : Option (XH) :=
  (xf_Field_wipe fuel h).bind fun q1 => some ((xf_Run_forget (xf_Blocks_forget q1)))
def xf_Way_of (a0 : Int32) (a1 : Int32) (a2 : Int32) : Int32 :=
  (((a0 * (8 : Int32)) + (a1 * (2 : Int32))) + a2)
def xf_Ptr_begin (k0 : Nat) (a1 : Int32) (h : XH) : XH :=
  (xs_pret (xs_pdepth (xs_pway h k0 a1) k0 (0 : Int32)) k0 (0 : Int32))
def xf_Run_begin (h : XH) : Option (XH) :=
  (gd 4 (0 : Int32)).bind fun j1 => (gn 4 (xh_ptrs h j1)).bind fun k2 => (some (xs_living (xf_Ptr_begin k2 (xf_Way_of (0 : Int32) (0 : Int32) (0 : Int32)) h) (1 : Int32))).bind fun g3 => (some (xs_read g3 (0 : Int32))).bind fun g4 => (some (xs_steps g4 (0 : Int32))).bind fun g5 => (some (xs_stopped g5 (0 : Int32))).bind fun g6 => some ((xf_Line_empty 0 g6))
def xf_P_start (h : XH) : Option (XH) :=
  (xf_Run_begin h).bind fun q1 => some (q1)
def xf_P_checkSteps (a0 : Int32) : Nat ⊕ (Unit) :=
  if a0 < (1 : Int32) then Sum.inl 2 else if a0 ≤ (1000 : Int32) then Sum.inr (()) else Sum.inl 2
def xf_Run_state (h : XH) : Int32 :=
  if (xh_stopped h) = 0 then if (xh_living h) ≤ 0 then (1 : Int32) else (0 : Int32) else (xh_stopped h)
def xf_Way_place (a0 : Int32) : Int32 :=
  (a0 >>> ((3 : Int32) &&& 31))
def xf_Way_quotes (a0 : Int32) : Int32 :=
  (a0 &&& (1 : Int32))
def xf_P_isAct (a0 : Int32) (a1 : Int32) : Int32 :=
  if (xf_Way_quotes a0) = (1 : Int32) then (0 : Int32) else if a1 = (63 : Int32) then (1 : Int32) else if a1 = (64 : Int32) then (1 : Int32) else if a1 = (67 : Int32) then (1 : Int32) else if a1 = (82 : Int32) then (1 : Int32) else if a1 = (98 : Int32) then (1 : Int32) else if a1 = (102 : Int32) then (1 : Int32) else if a1 = (105 : Int32) then (1 : Int32) else if a1 = (110 : Int32) then (1 : Int32) else if a1 = (119 : Int32) then (1 : Int32) else (0 : Int32)
def xf_Ptr_pop (k0 : Nat) (h : XH) : Option (Int64 × XH) :=
  if (xh_pdepth h k0) = 0 then some (((0 : Int64), h)) else (some (xs_pdepth h k0 ((xh_pdepth h k0) - (1 : Int32)))).bind fun g1 => (gd 24 (xh_pdepth g1 k0)).bind fun j2 => some (((xh_pnums g1 k0 j2), g1))
def xf_Way_direction (a0 : Int32) : Int32 :=
  ((a0 >>> ((1 : Int32) &&& 31)) &&& (3 : Int32))
def xf_Way_directed (a0 : Int32) (a1 : Int32) : Int32 :=
  ((a0 &&& (-7 : Int32)) ||| (a1 <<< ((1 : Int32) &&& 31)))
def xf_Way_turned (a0 : Int32) (a1 : Int32) : Int32 :=
  (xf_Way_directed a0 (((xf_Way_direction a0) + a1) &&& (3 : Int32)))
def xf_Way_ahead_J111 (v0 : Int32) (v1 : Int32) (v2 : Int32) : Int32 :=
  ((((v2 * (12 : Int32)) + v1) * (8 : Int32)) + (v0 &&& (7 : Int32)))
def xf_Way_ahead_J61 (v0 : Int32) (v2 : Int32) (w0 : Int32) : Int32 :=
  xf_Way_ahead_J111 v0 w0 v2
def xf_Way_ahead_J78 (v0 : Int32) (v1 : Int32) (w0 : Int32) : Int32 :=
  xf_Way_ahead_J111 v0 v1 w0
def xf_Way_ahead_J94 (v0 : Int32) (v2 : Int32) (w0 : Int32) : Int32 :=
  xf_Way_ahead_J111 v0 w0 v2
def xf_Way_ahead_J110 (v0 : Int32) (v1 : Int32) (w0 : Int32) : Int32 :=
  xf_Way_ahead_J111 v0 v1 w0
def xf_Way_ahead (a0 : Int32) : Int32 :=
  if (xf_Way_direction a0) = (0 : Int32) then if ((xf_Way_place a0) - (xf_Way_place a0) / (12 : Int32) * (12 : Int32)) = (11 : Int32) then xf_Way_ahead_J61 a0 ((xf_Way_place a0) / (12 : Int32)) (0 : Int32) else xf_Way_ahead_J61 a0 ((xf_Way_place a0) / (12 : Int32)) (((xf_Way_place a0) - (xf_Way_place a0) / (12 : Int32) * (12 : Int32)) + (1 : Int32)) else if (xf_Way_direction a0) = (1 : Int32) then if ((xf_Way_place a0) / (12 : Int32)) = (7 : Int32) then xf_Way_ahead_J78 a0 ((xf_Way_place a0) - (xf_Way_place a0) / (12 : Int32) * (12 : Int32)) (0 : Int32) else xf_Way_ahead_J78 a0 ((xf_Way_place a0) - (xf_Way_place a0) / (12 : Int32) * (12 : Int32)) (((xf_Way_place a0) / (12 : Int32)) + (1 : Int32)) else if (xf_Way_direction a0) = (2 : Int32) then if ((xf_Way_place a0) - (xf_Way_place a0) / (12 : Int32) * (12 : Int32)) = 0 then xf_Way_ahead_J94 a0 ((xf_Way_place a0) / (12 : Int32)) (11 : Int32) else xf_Way_ahead_J94 a0 ((xf_Way_place a0) / (12 : Int32)) (((xf_Way_place a0) - (xf_Way_place a0) / (12 : Int32) * (12 : Int32)) - (1 : Int32)) else if ((xf_Way_place a0) / (12 : Int32)) = 0 then xf_Way_ahead_J110 a0 ((xf_Way_place a0) - (xf_Way_place a0) / (12 : Int32) * (12 : Int32)) (7 : Int32) else xf_Way_ahead_J110 a0 ((xf_Way_place a0) - (xf_Way_place a0) / (12 : Int32) * (12 : Int32)) (((xf_Way_place a0) / (12 : Int32)) - (1 : Int32))
def xf_Run_turn (k0 : Nat) (h : XH) : Option (Int32 × XH) :=
  (xf_Ptr_pop k0 h).bind fun q1 => if (lg_cmp q1.1 (0 : Int64)) ≤ 0 then if 0 ≤ (lg_cmp q1.1 (0 : Int64)) then (some (xs_pway q1.2 k0 (xf_Way_ahead (xh_pway q1.2 k0)))).bind fun g2 => some (((0 : Int32), g2)) else (some (xs_pway q1.2 k0 (xf_Way_turned (xh_pway q1.2 k0) (3 : Int32)))).bind fun g3 => (some (xs_pway g3 k0 (xf_Way_ahead (xh_pway g3 k0)))).bind fun g4 => some (((0 : Int32), g4)) else (some (xs_pway q1.2 k0 (xf_Way_turned (xh_pway q1.2 k0) (1 : Int32)))).bind fun g5 => (some (xs_pway g5 k0 (xf_Way_ahead (xh_pway g5 k0)))).bind fun g6 => some (((0 : Int32), g6))
def xf_Ptr_fromTop (k0 : Nat) (a1 : Int64) (h : XH) : Option (Int64) :=
  if (lg_cmp a1 (0 : Int64)) < 0 then some ((0 : Int64)) else if 0 ≤ (lg_cmp a1 ((xh_pdepth h k0).toInt64)) then some ((0 : Int64)) else (gd 24 (((xh_pdepth h k0) - (1 : Int32)) - a1.toInt32)).bind fun j1 => some ((xh_pnums h k0 j1))
def xf_Run_spell_J54 (fuel : Nat) (v1 : Int64) (v3 : Int32) (h : XH) : Option (Int32 × XH) :=
  if 0 ≤ (lg_cmp v1 (0 : Int64)) then some ((v3, h)) else (gd 20 (v3 + (-1 : Int32))).bind fun j3 => (some (xs_digits h j3 (vp_nar .char (45 : Int32)))).bind fun g4 => some (((v3 + (-1 : Int32)), g4))
def xf_Run_spell_L6 (fuel : Nat) : Nat → Int64 → Int32 → Int64 → XH → Option (Int32 × XH)
  | 0, _, _, _, _ => none
  | n + 1, v1, v3, v4, h => (gd 20 (v3 + (-1 : Int32))).bind fun j1 => (some (xs_digits h j1 (vp_nar .char (((((48 : Int64) + (jk_abs (v4 - v4 / (10 : Int64) * (10 : Int64)))).toInt32).toUInt32 % 65536).toInt32)))).bind fun g2 => if (lg_cmp (v4 / (10 : Int64)) (0 : Int64)) = 0 then xf_Run_spell_J54 fuel v1 (v3 + (-1 : Int32)) g2 else if (1 : Int32) < (v3 + (-1 : Int32)) then (xf_Run_spell_L6 fuel n) v1 (v3 + (-1 : Int32)) (v4 / (10 : Int64)) g2 else xf_Run_spell_J54 fuel v1 (v3 + (-1 : Int32)) g2
def xf_Run_spell (fuel : Nat) (a1 : Int64) (h : XH) : Option (Int32 × XH) :=
  xf_Run_spell_L6 fuel fuel a1 (20 : Int32) a1 h
def xf_Run_writeNumber_L35 (fuel : Nat) : Nat → Nat → Int32 → XH → Option (Int32 × XH)
  | 0, _, _, _ => none
  | n + 1, v1, v3, h => if (20 : Int32) ≤ v3 then (xf_Line_add 0 (32 : Int32) h).bind fun q4 => (some (xs_pway q4 v1 (xf_Way_ahead (xh_pway q4 v1)))).bind fun g5 => some (((0 : Int32), g5)) else (gd 20 v3).bind fun j6 => (xf_Line_add 0 (xh_digits h j6) h).bind fun q7 => (xf_Run_writeNumber_L35 fuel n) v1 (v3 + (1 : Int32)) q7
def xf_Run_writeNumber (fuel : Nat) (k1 : Nat) (h : XH) : Option (Int32 × XH) :=
  (xf_Ptr_fromTop k1 (0 : Int64) h).bind fun q1 => (xf_Run_spell fuel q1 h).bind fun q2 => if (xf_Line_hasRoom 0 (((20 : Int32) - q2.1) + (1 : Int32)) q2.2) = 0 then some (((3 : Int32), q2.2)) else (xf_Ptr_pop k1 q2.2).bind fun q3 => xf_Run_writeNumber_L35 fuel fuel k1 q2.1 q3.2
def xf_P_signOf (a0 : Int64) : Int32 :=
  if (xf_P_isSign ((((a0 &&& (127 : Int64)).toInt32).toUInt32 % 65536).toInt32)) = 0 then (32 : Int32) else (((a0 &&& (127 : Int64)).toInt32).toUInt32 % 65536).toInt32
def xf_Run_writeCharacter (k1 : Nat) (h : XH) : Option (Int32 × XH) :=
  if (xf_Line_hasRoom 0 (1 : Int32) h) = 0 then some (((3 : Int32), h)) else (xf_Ptr_pop k1 h).bind fun q1 => (xf_Line_add 0 (xf_P_signOf q1.1) q1.2).bind fun q2 => (some (xs_pway q2 k1 (xf_Way_ahead (xh_pway q2 k1)))).bind fun g3 => some (((0 : Int32), g3))
def xf_Ptr_isFull (k0 : Nat) (h : XH) : Int32 :=
  if (xh_pdepth h k0) = (24 : Int32) then (1 : Int32) else (0 : Int32)
def xf_Ptr_push (k0 : Nat) (a1 : Int64) (h : XH) : Option (XH) :=
  if (24 : Int32) ≤ (xh_pdepth h k0) then some (h) else (gd 24 (xh_pdepth h k0)).bind fun j1 => (some (xs_pnums h k0 j1 a1)).bind fun g2 => (some (xs_pdepth g2 k0 ((xh_pdepth g2 k0) + (1 : Int32)))).bind fun g3 => some (g3)
def xf_Run_readNumber (k1 : Nat) (h : XH) : Option (Int32 × XH) :=
  if (xf_Ptr_isFull k1 h) = 0 then if (xh_given h) ≤ (xh_read h) then (xf_Ptr_push k1 (-1 : Int64) h).bind fun q1 => (some (xs_pway q1 k1 (xf_Way_ahead (xh_pway q1 k1)))).bind fun g2 => some (((0 : Int32), g2)) else (gd 40 (xh_read h)).bind fun j3 => (xf_Ptr_push k1 (xh_innums h j3) h).bind fun q4 => (some (xs_read q4 ((xh_read q4) + (1 : Int32)))).bind fun g5 => (some (xs_pway g5 k1 (xf_Way_ahead (xh_pway g5 k1)))).bind fun g6 => some (((0 : Int32), g6)) else some (((2 : Int32), h))
def xf_Math_floorMod (a0 : Int64) (a2 : Int64) : Option (Int64) :=
  if a2 = 0 then none else if 0 ≤ (lg_cmp (a0 ^^^ a2) (0 : Int64)) then some ((a0 - a0 / a2 * a2)) else if (lg_cmp (a0 - a0 / a2 * a2) (0 : Int64)) = 0 then some ((a0 - a0 / a2 * a2)) else some (((a0 - a0 / a2 * a2) + a2))
def xf_P_joinedPlace (a0 : Int64) (a2 : Int64) : Option (Int32) :=
  (xf_Math_floorMod a0 (12 : Int64)).bind fun q1 => (xf_Math_floorMod a2 (8 : Int64)).bind fun q2 => some (((q2.toInt32 * (12 : Int32)) + q1.toInt32))
def xf_Run_popPlace (k0 : Nat) (h : XH) : Option (Int32 × XH) :=
  (xf_Ptr_pop k0 h).bind fun q1 => (xf_Ptr_pop k0 q1.2).bind fun q2 => (xf_P_joinedPlace q2.1 q1.1).bind fun q3 => some ((q3, q2.2))
def xf_Run_writeSign (fuel : Nat) (k1 : Nat) (h : XH) : Option (Int32 × XH) :=
  (xf_Run_popPlace k1 h).bind fun q1 => (xf_Ptr_pop k1 q1.2).bind fun q2 => (xf_Field_write fuel q1.1 (xf_P_signOf q2.1) q2.2).bind fun q3 => (some (xs_pway q3 k1 (xf_Way_ahead (xh_pway q3 k1)))).bind fun g4 => some (((0 : Int32), g4))
def xf_Run_goAway (k0 : Nat) (h : XH) : Option (Int32 × XH) :=
  if (xh_pret h k0) = (8 : Int32) then some (((2 : Int32), h)) else (xf_Run_popPlace k0 h).bind fun q1 => (gd 8 (xh_pret q1.2 k0)).bind fun j2 => (some (xs_prets q1.2 k0 j2 (xf_Way_ahead (xh_pway q1.2 k0)))).bind fun g3 => (some (xs_pret g3 k0 ((xh_pret g3 k0) + (1 : Int32)))).bind fun g4 => (some (xs_pway g4 k0 (xf_Way_of q1.1 (xf_Way_direction (xh_pway g4 k0)) (0 : Int32)))).bind fun g5 => some (((0 : Int32), g5))
def xf_Run_goBack (k0 : Nat) (h : XH) : Option (Int32 × XH) :=
  if (xh_pret h k0) = 0 then some (((1 : Int32), h)) else (some (xs_pret h k0 ((xh_pret h k0) - (1 : Int32)))).bind fun g1 => (gd 8 (xh_pret g1 k0)).bind fun j2 => (some (xs_pway g1 k0 (xh_prets g1 k0 j2))).bind fun g3 => some (((0 : Int32), g3))
def xf_Run_fork (k1 : Nat) (h : XH) : Option (Int32 × XH) :=
  (xf_Ptr_pop k1 h).bind fun q1 => if (4 : Int32) ≤ (xh_living q1.2) then (some (xs_pway q1.2 k1 (xf_Way_ahead (xh_pway q1.2 k1)))).bind fun g2 => some (((0 : Int32), g2)) else (gd 4 (xh_living q1.2)).bind fun j3 => (gn 4 (xh_ptrs q1.2 j3)).bind fun k4 => (some (xs_living q1.2 ((xh_living q1.2) + (1 : Int32)))).bind fun g5 => (xf_Ptr_push k4 q1.1 (xf_Ptr_begin k4 (xf_Way_ahead (xf_Way_turned (xh_pway g5 k1) (3 : Int32))) g5)).bind fun q6 => (some (xs_pway q6 k1 (xf_Way_ahead (xh_pway q6 k1)))).bind fun g7 => some (((0 : Int32), g7))
def xf_Run_act (fuel : Nat) (k1 : Nat) (a2 : Int32) (h : XH) : Option (Int32 × XH) :=
  if a2 = (63 : Int32) then (xf_Run_turn k1 h).bind fun q1 => some ((q1.1, q1.2)) else if a2 = (67 : Int32) then (xf_Run_goAway k1 h).bind fun q2 => some ((q2.1, q2.2)) else if a2 = (82 : Int32) then (xf_Run_goBack k1 h).bind fun q3 => some ((q3.1, q3.2)) else if a2 = (98 : Int32) then (xf_Run_writeCharacter k1 h).bind fun q4 => some ((q4.1, q4.2)) else if a2 = (102 : Int32) then (xf_Run_fork k1 h).bind fun q5 => some ((q5.1, q5.2)) else if a2 = (105 : Int32) then (xf_Run_readNumber k1 h).bind fun q6 => some ((q6.1, q6.2)) else if a2 = (110 : Int32) then (xf_Run_writeNumber fuel k1 h).bind fun q7 => some ((q7.1, q7.2)) else if a2 = (119 : Int32) then (xf_Run_writeSign fuel k1 h).bind fun q8 => some ((q8.1, q8.2)) else some (((1 : Int32), h))
def xf_Run_pushesMore (a0 : Int32) (a1 : Int32) : Int32 :=
  if (xf_Way_quotes a0) = (1 : Int32) then if a1 = (34 : Int32) then (0 : Int32) else (1 : Int32) else if a1 < (48 : Int32) then if a1 = (99 : Int32) then (1 : Int32) else (0 : Int32) else if a1 ≤ (57 : Int32) then (1 : Int32) else if a1 = (99 : Int32) then (1 : Int32) else (0 : Int32)
def xf_Run_join (k0 : Nat) (a1 : Int32) (h : XH) : Option (XH) :=
  (xf_Ptr_pop k0 h).bind fun q1 => (xf_Ptr_pop k0 q1.2).bind fun q2 => if a1 = (42 : Int32) then (xf_Ptr_push k0 (q2.1 * q1.1) q2.2).bind fun q3 => some (q3) else if a1 = (43 : Int32) then (xf_Ptr_push k0 (q2.1 + q1.1) q2.2).bind fun q4 => some (q4) else if a1 = (45 : Int32) then (xf_Ptr_push k0 (q2.1 - q1.1) q2.2).bind fun q5 => some (q5) else if a1 = (100 : Int32) then if (lg_cmp q1.1 (0 : Int64)) = 0 then (xf_Ptr_push k0 (0 : Int64) q2.2).bind fun q7 => some (q7) else if q1.1 = 0 then none else (xf_Ptr_push k0 (q2.1 / q1.1) q2.2).bind fun q6 => some (q6) else if (lg_cmp q1.1 (0 : Int64)) = 0 then (xf_Ptr_push k0 (0 : Int64) q2.2).bind fun q9 => some (q9) else if q1.1 = 0 then none else (xf_Ptr_push k0 (q2.1 - q2.1 / q1.1 * q1.1) q2.2).bind fun q8 => some (q8)
def xf_Run_reckon_J22 (v1 : Nat) (v2 : Int32) (h : XH) : Option (XH) :=
  if v2 = (42 : Int32) then (xf_Run_join v1 v2 h).bind fun q1 => some (q1) else if v2 = (43 : Int32) then (xf_Run_join v1 v2 h).bind fun q2 => some (q2) else if v2 = (45 : Int32) then (xf_Run_join v1 v2 h).bind fun q3 => some (q3) else if v2 = (99 : Int32) then (xf_Ptr_pop v1 h).bind fun q4 => (xf_Ptr_push v1 q4.1 q4.2).bind fun q5 => (xf_Ptr_push v1 q4.1 q5).bind fun q6 => some (q6) else if v2 = (100 : Int32) then (xf_Run_join v1 v2 h).bind fun q7 => some (q7) else if v2 = (103 : Int32) then (xf_Run_popPlace v1 h).bind fun q8 => (gd 96 q8.1).bind fun j9 => (xf_Ptr_push v1 ((xh_signs q8.2 j9).toInt64) q8.2).bind fun q10 => some (q10) else if v2 = (109 : Int32) then (xf_Run_join v1 v2 h).bind fun q11 => some (q11) else if v2 = (114 : Int32) then (xf_Ptr_pop v1 h).bind fun q12 => (xf_Ptr_fromTop v1 q12.1 q12.2).bind fun q13 => (xf_Ptr_push v1 q13 q12.2).bind fun q14 => some (q14) else if v2 = (115 : Int32) then (xf_Ptr_pop v1 h).bind fun q15 => (xf_Ptr_pop v1 q15.2).bind fun q16 => (xf_Ptr_push v1 q15.1 q16.2).bind fun q17 => (xf_Ptr_push v1 q16.1 q17).bind fun q18 => some (q18) else if v2 = (120 : Int32) then (xf_Ptr_pop v1 h).bind fun q19 => some (q19.2) else some (h)
def xf_Run_reckon (k1 : Nat) (a2 : Int32) (h : XH) : Option (XH) :=
  if a2 < (48 : Int32) then xf_Run_reckon_J22 k1 a2 h else if (57 : Int32) < a2 then xf_Run_reckon_J22 k1 a2 h else (xf_Ptr_push k1 ((a2 - (48 : Int32)).toInt64) h).bind fun q20 => some (q20)
def xf_Way_behind (a0 : Int32) (a1 : Int32) : Int32 :=
  if a1 = (34 : Int32) then (xf_Way_ahead (a0 ^^^ (1 : Int32))) else if (xf_Way_quotes a0) = (1 : Int32) then (xf_Way_ahead a0) else if a1 = (35 : Int32) then (xf_Way_ahead (xf_Way_ahead a0)) else if a1 = (47 : Int32) then (xf_Way_ahead (xf_Way_directed a0 ((3 : Int32) - (xf_Way_direction a0)))) else if a1 = (60 : Int32) then (xf_Way_ahead (xf_Way_directed a0 (2 : Int32))) else if a1 = (62 : Int32) then (xf_Way_ahead (xf_Way_directed a0 (0 : Int32))) else if a1 = (92 : Int32) then (xf_Way_ahead (xf_Way_directed a0 ((xf_Way_direction a0) ^^^ (1 : Int32)))) else if a1 = (94 : Int32) then (xf_Way_ahead (xf_Way_directed a0 (3 : Int32))) else if a1 = (118 : Int32) then (xf_Way_ahead (xf_Way_directed a0 (1 : Int32))) else (xf_Way_ahead a0)
def xf_Run_pass_J20 (v1 : Nat) (v2 : Int32) (h : XH) : Option (Int32 × XH) :=
  if (xf_Way_quotes (xh_pway h v1)) = 0 then (xf_Run_reckon v1 v2 h).bind fun q4 => (some (xs_pway q4 v1 (xf_Way_behind (xh_pway q4 v1) v2))).bind fun g5 => some (((0 : Int32), g5)) else if v2 = (34 : Int32) then (some (xs_pway h v1 (xf_Way_behind (xh_pway h v1) v2))).bind fun g1 => some (((0 : Int32), g1)) else (xf_Ptr_push v1 v2.toInt64 h).bind fun q2 => (some (xs_pway q2 v1 (xf_Way_behind (xh_pway q2 v1) v2))).bind fun g3 => some (((0 : Int32), g3))
def xf_Run_pass (k1 : Nat) (a2 : Int32) (h : XH) : Option (Int32 × XH) :=
  if (xf_Run_pushesMore (xh_pway h k1) a2) = 0 then xf_Run_pass_J20 k1 a2 h else if (xf_Ptr_isFull k1 h) = 0 then xf_Run_pass_J20 k1 a2 h else some (((2 : Int32), h))
def xf_Run_remove_L11 (fuel : Nat) : Nat → Nat → Int32 → XH → Option (XH)
  | 0, _, _, _ => none
  | n + 1, v2, v3, h => if (xh_living h) ≤ v3 then (some (xs_living h ((xh_living h) - (1 : Int32)))).bind fun g3 => (gd 4 (xh_living g3)).bind fun j4 => (some (xs_ptrs g3 j4 v2)).bind fun g5 => some (g5) else (gd 4 v3).bind fun j6 => (gn 4 (xh_ptrs h j6)).bind fun k7 => (gd 4 (v3 - (1 : Int32))).bind fun j8 => (some (xs_ptrs h j8 k7)).bind fun g9 => (xf_Run_remove_L11 fuel n) v2 (v3 + (1 : Int32)) g9
def xf_Run_remove (fuel : Nat) (a1 : Int32) (h : XH) : Option (XH) :=
  (gd 4 a1).bind fun j1 => (gn 4 (xh_ptrs h j1)).bind fun k2 => xf_Run_remove_L11 fuel fuel k2 (a1 + (1 : Int32)) h
def xf_Run_advance_J106 (fuel : Nat) (recL9 : Int32 → Int32 → Int32 → XH → Option (XH)) (v1 : Int32) (v2 : Int32) (v3 : Int32) (h : XH) : Option (XH) :=
  recL9 v1 v2 (v3 + (1 : Int32)) h
def xf_Run_advance_J72 (fuel : Nat) (recL9 : Int32 → Int32 → Int32 → XH → Option (XH)) (v1 : Int32) (v2 : Int32) (v3 : Int32) (w0 : Int32) (h : XH) : Option (XH) :=
  if w0 = 0 then xf_Run_advance_J106 fuel recL9 v1 (v2 + (1 : Int32)) v3 h else if w0 = (1 : Int32) then (xf_Run_remove fuel v2 h).bind fun q7 => xf_Run_advance_J106 fuel recL9 v1 v2 v3 q7 else (some (xs_stopped h w0)).bind fun g6 => some (g6)
def xf_Run_advance_L9 (fuel : Nat) : Nat → Int32 → Int32 → Int32 → XH → Option (XH)
  | 0, _, _, _, _ => none
  | n + 1, v1, v2, v3, h => if v1 ≤ v3 then (some (xs_steps h ((xh_steps h) + (1 : Int32)))).bind fun g1 => some (g1) else (gd 4 v2).bind fun j2 => (gn 4 (xh_ptrs h j2)).bind fun k3 => (gd 96 (xf_Way_place (xh_pway h k3))).bind fun j4 => if (xf_P_isAct (xh_pway h k3) (xh_signs h j4)) = 0 then (xf_Run_pass k3 (xh_signs h j4) h).bind fun q5 => xf_Run_advance_J72 fuel (xf_Run_advance_L9 fuel n) v1 v2 v3 q5.1 q5.2 else (xf_Run_act fuel k3 (xh_signs h j4) h).bind fun q8 => xf_Run_advance_J72 fuel (xf_Run_advance_L9 fuel n) v1 v2 v3 q8.1 q8.2
def xf_Run_advance (fuel : Nat) (h : XH) : Option (XH) :=
  xf_Run_advance_L9 fuel fuel (xh_living h) (0 : Int32) (0 : Int32) h
def xf_P_step_L6 (fuel : Nat) : Nat → Int32 → Int32 → XH → Option (Int32 × XH)
  | 0, _, _, _ => none
  | n + 1, v1, v2, h => if v1 ≤ v2 then some (((xf_Run_state h), h)) else if (xf_Run_state h) = 0 then (xf_Run_advance fuel h).bind fun q2 => (xf_P_step_L6 fuel n) v1 (v2 + (1 : Int32)) q2 else some (((xf_Run_state h), h))
def xf_P_step (fuel : Nat) (a1 : Int32) (h : XH) : Option (Nat ⊕ (Int32 × XH)) :=
  sbd (xf_P_checkSteps a1) fun q1 => (xf_P_step_L6 fuel fuel a1 (0 : Int32) h).map Sum.inr
def xf_Blocks_find_L2 (fuel : Nat) : Nat → Int32 → Int32 → XH → Option (Option Nat)
  | 0, _, _, _ => none
  | n + 1, v1, v2, h => if (xh_held h) ≤ v2 then some (none) else (gd 30 v2).bind fun j1 => (gn 30 (xh_row h j1)).bind fun k2 => if (xh_bbegin h k2) = v1 then (gd 30 v2).bind fun j3 => (gn 30 (xh_row h j3)).bind fun k4 => some (some (k4)) else (xf_Blocks_find_L2 fuel n) v1 (v2 + (1 : Int32)) h
def xf_Blocks_find (fuel : Nat) (a1 : Int32) (h : XH) : Option (Option Nat) :=
  xf_Blocks_find_L2 fuel fuel a1 (0 : Int32) h
def xf_Block_addPlace (k0 : Nat) (a1 : Int32) (h : XH) : XH :=
  if (64 : Int32) ≤ a1 then (xs_bhigh h k0 ((xh_bhigh h k0) ||| ((1 : Int64) <<< ((a1 - (64 : Int32)).toInt64 &&& 63)))) else (xs_blow h k0 ((xh_blow h k0) ||| ((1 : Int64) <<< (a1.toInt64 &&& 63))))
def xf_Block_trace_L21 (fuel : Nat) : Nat → Nat → Int32 → Int32 → XH → Option (XH)
  | 0, _, _, _, _ => none
  | n + 1, v0, v4, v5, h => if (32 : Int32) ≤ v5 then (some (xs_bsize h v0 v5)).bind fun g4 => (some (xs_bbehind g4 v0 v4)).bind fun g5 => some (g5) else (gd 96 (xf_Way_place v4)).bind fun j6 => if ((xh_bmarks h j6) &&& ((1 : Int32) <<< ((v4 &&& (7 : Int32)) &&& 31))) = 0 then (gd 96 (xf_Way_place v4)).bind fun j9 => if (xf_P_isAct v4 (xh_signs h j9)) = 0 then (gd 96 (xf_Way_place v4)).bind fun j10 => (gd 96 (xf_Way_place v4)).bind fun j11 => (some (xs_bmarks h j11 ((xh_bmarks h j10) ||| ((1 : Int32) <<< ((v4 &&& (7 : Int32)) &&& 31))))).bind fun g12 => (gd 96 (xf_Way_place v4)).bind fun j13 => (xf_Block_trace_L21 fuel n) v0 (xf_Way_behind v4 (xh_signs (xf_Block_addPlace v0 (xf_Way_place v4) g12) j13)) (v5 + (1 : Int32)) (xf_Block_addPlace v0 (xf_Way_place v4) g12) else (some (xs_bsize h v0 v5)).bind fun g14 => (some (xs_bbehind g14 v0 v4)).bind fun g15 => some (g15) else (some (xs_bsize h v0 v5)).bind fun g7 => (some (xs_bbehind g7 v0 v4)).bind fun g8 => some (g8)
def xf_Block_trace (fuel : Nat) (k0 : Nat) (a1 : Int32) (h : XH) : Option (XH) :=
  (some (xs_bbegin h k0 a1)).bind fun g1 => (some (xs_blow g1 k0 (0 : Int64))).bind fun g2 => (some (xs_bhigh g2 k0 (0 : Int64))).bind fun g3 => xf_Block_trace_L21 fuel fuel k0 a1 (0 : Int32) g3
def xf_Blocks_make_L13 (fuel : Nat) : Nat → Int32 → Int32 → XH → Option (Option Nat × XH)
  | 0, _, _, _ => none
  | n + 1, v1, v3, h => if (96 : Int32) ≤ v3 then (gd 30 (xh_held h)).bind fun j1 => (gn 30 (xh_row h j1)).bind fun k2 => (some (xs_held h ((xh_held h) + (1 : Int32)))).bind fun g3 => (xf_Block_trace fuel k2 v1 g3).bind fun q4 => some ((some (k2), q4)) else (gd 96 v3).bind fun j5 => (some (xs_bmarks h j5 (0 : Int32))).bind fun g6 => (xf_Blocks_make_L13 fuel n) v1 (v3 + (1 : Int32)) g6
def xf_Blocks_make (fuel : Nat) (a1 : Int32) (h : XH) : Option (Option Nat × XH) :=
  if (xh_held h) = (30 : Int32) then some ((none, h)) else xf_Blocks_make_L13 fuel fuel a1 (0 : Int32) h
def xf_Run_signsTogether_J83 (fuel : Nat) (v1 : Int32) (v2 : Nat) (h : XH) : Option (Int32 × XH) :=
  some (((1 : Int32), h))
def xf_Run_signsTogether_J83a (fuel : Nat) (v1 : Int32) (v2 : Nat) (v3 : Nat) (h : XH) : Option (Int32 × XH) :=
  if v1 < (xh_bsize h v3) then some (((1 : Int32), h)) else if ((xh_bsize h v3) + (xh_pdepth h v2)) < (24 : Int32) then some (((xh_bsize h v3), h)) else some (((1 : Int32), h))
def xf_Run_signsTogether (fuel : Nat) (a1 : Int32) (h : XH) : Option (Int32 × XH) :=
  (gd 4 (0 : Int32)).bind fun j1 => (gn 4 (xh_ptrs h j1)).bind fun k2 => if (xh_living h) = (1 : Int32) then (gd 96 (xf_Way_place (xh_pway h k2))).bind fun j3 => if (xf_P_isAct (xh_pway h k2) (xh_signs h j3)) = 0 then (xf_Blocks_find fuel (xh_pway h k2) h).bind fun q4 => obr q4 ((xf_Blocks_make fuel (xh_pway h k2) h).bind fun q6 => obr q6.1 (xf_Run_signsTogether_J83 fuel a1 k2 q6.2) (fun o8 => (gn 30 o8).bind fun k7 => xf_Run_signsTogether_J83a fuel a1 k2 k7 q6.2)) (fun o9 => (gn 30 o9).bind fun k5 => xf_Run_signsTogether_J83a fuel a1 k2 k5 h) else some (((1 : Int32), h)) else some (((1 : Int32), h))
def xf_P_fast_J38 (fuel : Nat) (recL8 : Int32 → Int32 → Int32 → XH → Option (Int32 × XH)) (v1 : Int32) (v2 : Int32) (v3 : Int32) (h : XH) : Option (Int32 × XH) :=
  (xf_Run_advance fuel h).bind fun q2 => recL8 v1 (v2 + (-1 : Int32)) (v3 + (1 : Int32)) q2
def xf_P_fast_L8 (fuel : Nat) : Nat → Int32 → Int32 → Int32 → XH → Option (Int32 × XH)
  | 0, _, _, _, _ => none
  | n + 1, v1, v2, v3, h => if v1 ≤ v3 then some (((xf_Run_state h), h)) else if (xf_Run_state h) = 0 then if v2 = 0 then (xf_Run_signsTogether fuel (v1 - v3) h).bind fun q3 => xf_P_fast_J38 fuel (xf_P_fast_L8 fuel n) v1 q3.1 v3 q3.2 else xf_P_fast_J38 fuel (xf_P_fast_L8 fuel n) v1 v2 v3 h else some (((xf_Run_state h), h))
def xf_P_fast (fuel : Nat) (a1 : Int32) (h : XH) : Option (Nat ⊕ (Int32 × XH)) :=
  sbd (xf_P_checkSteps a1) fun q1 => (xf_P_fast_L8 fuel fuel a1 (0 : Int32) (0 : Int32) h).map Sum.inr
def xf_P_livingPointer (a1 : Int32) (h : XH) : Option (Nat ⊕ (Nat)) :=
  if a1 < 0 then some (Sum.inl 1) else if a1 < (xh_living h) then ((gd 4 a1).bind fun j1 => (gn 4 (xh_ptrs h j1)).bind fun k2 => some (k2)).map Sum.inr else some (Sum.inl 1)
def xf_P_pointer (a1 : Int32) (a2 : Int32) (h : XH) : Option (Nat ⊕ (Int32)) :=
  obd (xf_P_livingPointer a1 h) fun q1 => (gn 4 q1).bind fun k2 => if a2 = (0 : Int32) then (some (((xf_Way_place (xh_pway h q1)) - (xf_Way_place (xh_pway h q1)) / (12 : Int32) * (12 : Int32)))).map Sum.inr else if a2 = (1 : Int32) then (some (((xf_Way_place (xh_pway h q1)) / (12 : Int32)))).map Sum.inr else if a2 = (2 : Int32) then (some ((xf_Way_direction (xh_pway h q1)))).map Sum.inr else if a2 = (3 : Int32) then (some ((xf_Way_quotes (xh_pway h q1)))).map Sum.inr else if a2 = (4 : Int32) then (some ((xh_pdepth h q1))).map Sum.inr else if a2 = (5 : Int32) then (some ((xh_pret h q1))).map Sum.inr else some (Sum.inl 2)
def xf_P_value (a1 : Int32) (a2 : Int32) (h : XH) : Option (Nat ⊕ (Int64)) :=
  obd (xf_P_livingPointer a1 h) fun q1 => (gn 4 q1).bind fun k2 => if a2 < 0 then some (Sum.inl 1) else if a2 < (xh_pdepth h q1) then ((xf_Ptr_fromTop q1 a2.toInt64 h).bind fun q3 => some (q3)).map Sum.inr else some (Sum.inl 1)
def xf_Search_reach (a1 : Int32) (h : XH) : Option (XH) :=
  (gd 96 (xf_Way_place a1)).bind fun j1 => if ((xh_smarks h j1) &&& ((1 : Int32) <<< ((a1 &&& (7 : Int32)) &&& 31))) = 0 then if (768 : Int32) ≤ (xh_ssize h) then some (h) else (gd 96 (xf_Way_place a1)).bind fun j2 => (gd 96 (xf_Way_place a1)).bind fun j3 => (some (xs_smarks h j3 ((xh_smarks h j2) ||| ((1 : Int32) <<< ((a1 &&& (7 : Int32)) &&& 31))))).bind fun g4 => (gd 768 (xh_ssize g4)).bind fun j5 => (some (xs_sfound g4 j5 a1)).bind fun g6 => (some (xs_ssize g6 ((xh_ssize g6) + (1 : Int32)))).bind fun g7 => some (g7) else some (h)
def xf_Search_follow_J51 (v1 : Int32) (v2 : Int32) (v3 : Int32) (h : XH) : Option (XH) :=
  if v3 = 0 then (xf_Search_reach (xf_Way_behind v1 v2) h).bind fun q1 => some (q1) else if v2 = (63 : Int32) then (xf_Search_reach (xf_Way_ahead (xf_Way_turned v1 (1 : Int32))) h).bind fun q3 => (xf_Search_reach (xf_Way_behind v1 v2) q3).bind fun q4 => some (q4) else (xf_Search_reach (xf_Way_behind v1 v2) h).bind fun q2 => some (q2)
def xf_Search_follow_J39 (v1 : Int32) (v2 : Int32) (v3 : Int32) (h : XH) : Option (XH) :=
  (xf_Search_reach (xf_Way_ahead (xf_Way_turned v1 (3 : Int32))) h).bind fun q5 => xf_Search_follow_J51 v1 v2 v3 q5
def xf_Search_follow_J23 (v1 : Int32) (v2 : Int32) (v3 : Int32) (h : XH) : Option (XH) :=
  if v3 = 0 then xf_Search_follow_J51 v1 v2 v3 h else if v2 = (63 : Int32) then xf_Search_follow_J39 v1 v2 v3 h else if v2 = (102 : Int32) then xf_Search_follow_J39 v1 v2 v3 h else xf_Search_follow_J51 v1 v2 v3 h
def xf_Search_follow (a1 : Int32) (a2 : Int32) (h : XH) : Option (XH) :=
  if (xf_P_isAct a1 a2) = 0 then xf_Search_follow_J23 a1 a2 (xf_P_isAct a1 a2) h else if a2 = (82 : Int32) then some (h) else if a2 = (64 : Int32) then some (h) else xf_Search_follow_J23 a1 a2 (xf_P_isAct a1 a2) h
def xf_Search_explore_L38 (fuel : Nat) : Nat → Int32 → XH → Option (XH)
  | 0, _, _ => none
  | n + 1, v2, h => if (768 : Int32) ≤ v2 then some (h) else if (xh_ssize h) ≤ v2 then some (h) else (gd 768 v2).bind fun j3 => (gd 768 v2).bind fun j4 => (gd 96 (xf_Way_place (xh_sfound h j4))).bind fun j5 => (xf_Search_follow (xh_sfound h j3) (xh_signs h j5) h).bind fun q6 => (xf_Search_explore_L38 fuel n) (v2 + (1 : Int32)) q6
def xf_Search_explore_L2 (fuel : Nat) : Nat → Int32 → XH → Option (XH)
  | 0, _, _ => none
  | n + 1, v2, h => if (96 : Int32) ≤ v2 then (some (xs_ssize h (0 : Int32))).bind fun g1 => (xf_Search_reach (xf_Way_of (0 : Int32) (0 : Int32) (0 : Int32)) g1).bind fun q2 => xf_Search_explore_L38 fuel fuel (0 : Int32) q2 else (gd 96 v2).bind fun j7 => (some (xs_smarks h j7 (0 : Int32))).bind fun g8 => (xf_Search_explore_L2 fuel n) (v2 + (1 : Int32)) g8
def xf_Search_explore (fuel : Nat) (h : XH) : Option (XH) :=
  xf_Search_explore_L2 fuel fuel (0 : Int32) h
def xf_Search_cameTo (a1 : Int32) (h : XH) : Option (Int32) :=
  (gd 96 a1).bind fun j1 => if (xh_smarks h j1) = 0 then some ((0 : Int32)) else some ((1 : Int32))
def xf_P_lostPlaces_J52 (fuel : Nat) (recL18 : Int32 → Int32 → XH → Option (Int32 × XH)) (v1 : Int32) (v2 : Int32) (h : XH) : Option (Int32 × XH) :=
  recL18 v1 (v2 + (1 : Int32)) h
def xf_P_lostPlaces_L18 (fuel : Nat) : Nat → Int32 → Int32 → XH → Option (Int32 × XH)
  | 0, _, _, _ => none
  | n + 1, v1, v2, h => if (96 : Int32) ≤ v2 then some ((v1, h)) else (gd 96 v2).bind fun j2 => if (xh_signs h j2) = (32 : Int32) then xf_P_lostPlaces_J52 fuel (xf_P_lostPlaces_L18 fuel n) v1 v2 h else (xf_Search_cameTo v2 h).bind fun q3 => if q3 = 0 then xf_P_lostPlaces_J52 fuel (xf_P_lostPlaces_L18 fuel n) (v1 + (1 : Int32)) v2 h else xf_P_lostPlaces_J52 fuel (xf_P_lostPlaces_L18 fuel n) v1 v2 h
def xf_P_lostPlaces (fuel : Nat) (h : XH) : Option (Int32 × XH) :=
  (xf_Search_explore fuel h).bind fun q1 => xf_P_lostPlaces_L18 fuel fuel (0 : Int32) (0 : Int32) q1
def xf_P_count (fuel : Nat) (a1 : Int32) (h : XH) : Option (Int32 × XH) :=
  if a1 = (0 : Int32) then some (((xh_living h), h)) else if a1 = (1 : Int32) then some (((xh_steps h), h)) else if a1 = (2 : Int32) then some (((xh_held h), h)) else if a1 = (3 : Int32) then some (((xh_dropped h), h)) else if a1 = (4 : Int32) then some ((((xh_given h) - (xh_read h)), h)) else if a1 = (5 : Int32) then some (((xf_Run_state h), h)) else if a1 = (6 : Int32) then (xf_P_lostPlaces fuel h).bind fun q1 => some ((q1.1, q1.2)) else some (((-1 : Int32), h))
def xf_Blocks_over_J28 (fuel : Nat) (recL4 : Int32 → Int32 → Int32 → XH → Option (Int32)) (v1 : Int32) (v2 : Int32) (v3 : Int32) (h : XH) : Option (Int32) :=
  recL4 v1 v2 (v3 + (1 : Int32)) h
def xf_Blocks_over_L4 (fuel : Nat) : Nat → Int32 → Int32 → Int32 → XH → Option (Int32)
  | 0, _, _, _, _ => none
  | n + 1, v1, v2, v3, h => if (xh_held h) ≤ v3 then some (v2) else (gd 30 v3).bind fun j1 => (gn 30 (xh_row h j1)).bind fun k2 => if (xf_Block_isOver k2 v1 h) = 0 then xf_Blocks_over_J28 fuel (xf_Blocks_over_L4 fuel n) v1 v2 v3 h else xf_Blocks_over_J28 fuel (xf_Blocks_over_L4 fuel n) v1 (v2 + (1 : Int32)) v3 h
def xf_Blocks_over (fuel : Nat) (a1 : Int32) (h : XH) : Option (Int32) :=
  xf_Blocks_over_L4 fuel fuel a1 (0 : Int32) (0 : Int32) h
def xf_P_covers (fuel : Nat) (a1 : Int32) (a2 : Int32) (h : XH) : Option (Nat ⊕ (Int32)) :=
  sbd (xf_P_placeAt a1 a2) fun q1 => ((xf_Blocks_over fuel q1 h).bind fun q2 => some (q2)).map Sum.inr
def xf_P_block_J54 (fuel : Nat) (v5 : Int32) (w1 : Int32) (w2 : Int32) (w3 : Int32) (h : XH) : Option (Int32) :=
  (xf_Blocks_find fuel (xf_Way_of w1 w2 w3) h).bind fun q2 => obr q2 (some ((-1 : Int32))) (fun o4 => (gn 30 o4).bind fun k3 => if v5 = (0 : Int32) then some ((xh_bsize h k3)) else if v5 = (1 : Int32) then some (((xf_Way_place (xh_bbehind h k3)) - (xf_Way_place (xh_bbehind h k3)) / (12 : Int32) * (12 : Int32))) else if v5 = (2 : Int32) then some (((xf_Way_place (xh_bbehind h k3)) / (12 : Int32))) else if v5 = (3 : Int32) then some ((xf_Way_direction (xh_bbehind h k3))) else some ((xf_Way_quotes (xh_bbehind h k3))))
def xf_P_block (fuel : Nat) (a1 : Int32) (a2 : Int32) (a3 : Int32) (a4 : Int32) (a5 : Int32) (h : XH) : Option (Nat ⊕ (Int32)) :=
  sbd (xf_P_placeAt a1 a2) fun q1 => if a3 < 0 then some (Sum.inl 2) else if (4 : Int32) ≤ a3 then some (Sum.inl 2) else if a5 < 0 then some (Sum.inl 2) else if a5 ≤ (4 : Int32) then (if a4 = 0 then xf_P_block_J54 fuel a5 q1 a3 (0 : Int32) h else xf_P_block_J54 fuel a5 q1 a3 (1 : Int32) h).map Sum.inr else some (Sum.inl 2)
def xf_P_lost (fuel : Nat) (a1 : Int32) (a2 : Int32) (h : XH) : Option (Nat ⊕ (Int32 × XH)) :=
  sbd (xf_P_placeAt a1 a2) fun q1 => ((gd 96 q1).bind fun j2 => if (xh_signs h j2) = (32 : Int32) then some (((0 : Int32), h)) else (xf_Search_explore fuel h).bind fun q3 => (xf_Search_cameTo q1 q3).bind fun q4 => if q4 = 0 then some (((1 : Int32), q3)) else some (((0 : Int32), q3))).map Sum.inr
def xf_Line_copy (k0 : Nat) (k1 : Nat) (h : XH) : Option (XH) :=
  (some (xs_lsize h k0 (jk_min (xh_lsize h k1) (nI (xh_cap k0))))).bind fun g1 => (gc (xh_cap k1) (xh_cap k0) (xh_lchars g1 k1) (0 : Int32) (0 : Int32) (xh_lsize g1 k0)).bind fun j2 => (some (xc_lchars g1 k0 (va_cpy (xh_lchars g1 k1) (xh_lchars g1 k0) j2.1 j2.2.1 j2.2.2))).bind fun g3 => some (g3)
def xf_P_output (h : XH) : Option (Int32 × XH) :=
  (xf_Line_copy 2 0 h).bind fun q1 => some (((xh_lsize q1 2), q1))
def xf_P_length (h : XH) : Int32 :=
  (xh_lsize h 2)
def xf_P_charAt (a1 : Int32) (h : XH) : Option (Int32) :=
  (xf_Line_at 2 a1 h).bind fun q1 => (nc q1).bind fun r2 => some (r2)
