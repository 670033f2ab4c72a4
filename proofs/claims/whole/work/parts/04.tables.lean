def nR_P : String := "DrawnPaths"
def nT_P : u_T := fun k => match k with
  | 0 => ("DrawnPaths", "blocks", "LDrawnPaths$Blocks;", true)
  | 1 => ("DrawnPaths", "field", "LDrawnPaths$Field;", true)
  | 2 => ("DrawnPaths", "run", "LDrawnPaths$Run;", true)
  | 3 => ("DrawnPaths", "search", "LDrawnPaths$Search;", true)
  | 4 => ("DrawnPaths", "text", "LDrawnPaths$Line;", true)
  | _ => ("DrawnPaths", "page", "LDrawnPaths$Line;", true)
def nY_P : Nat → FieldType := fun k => match k with
  | 0 => .object "DrawnPaths$Blocks"
  | 1 => .object "DrawnPaths$Field"
  | 2 => .object "DrawnPaths$Run"
  | 3 => .object "DrawnPaths$Search"
  | 4 => .object "DrawnPaths$Line"
  | _ => .object "DrawnPaths$Line"
theorem nN_P : ∀ a, a < 6 → ∀ b, b < 6 → a ≠ b → (nT_P a).2.1 ≠ (nT_P b).2.1 := by decide +kernel
theorem nY_P_ok : ∀ k, k < 6 → parseFieldDescriptor (nT_P k).2.2.1 = some (nY_P k) := by decide +kernel
theorem nu_P : ∀ w ∈ u_ws nR_P nT_P 6, w ∈ lw_wd := by decide +kernel
def nR_Block : String := "DrawnPaths$Block"
def nT_Block : u_T := fun k => match k with
  | 0 => ("DrawnPaths$Block", "begin", "I", false)
  | 1 => ("DrawnPaths$Block", "behind", "I", false)
  | 2 => ("DrawnPaths$Block", "size", "I", false)
  | 3 => ("DrawnPaths$Block", "lowPlaces", "J", false)
  | _ => ("DrawnPaths$Block", "highPlaces", "J", false)
def nY_Block : Nat → FieldType := fun k => match k with
  | 0 => .int
  | 1 => .int
  | 2 => .int
  | 3 => .long
  | _ => .long
theorem nN_Block : ∀ a, a < 5 → ∀ b, b < 5 → a ≠ b → (nT_Block a).2.1 ≠ (nT_Block b).2.1 := by decide +kernel
theorem nY_Block_ok : ∀ k, k < 5 → parseFieldDescriptor (nT_Block k).2.2.1 = some (nY_Block k) := by decide +kernel
theorem nu_Block : ∀ w ∈ u_ws nR_Block nT_Block 5, w ∈ lw_wd := by decide +kernel
def nR_Blocks : String := "DrawnPaths$Blocks"
def nT_Blocks : u_T := fun k => match k with
  | 0 => ("DrawnPaths$Blocks", "row", "[LDrawnPaths$Block;", true)
  | 1 => ("DrawnPaths$Blocks", "marks", "[I", true)
  | 2 => ("DrawnPaths$Blocks", "held", "I", false)
  | _ => ("DrawnPaths$Blocks", "dropped", "I", false)
def nY_Blocks : Nat → FieldType := fun k => match k with
  | 0 => .array (.object "DrawnPaths$Block")
  | 1 => .array (.int)
  | 2 => .int
  | _ => .int
theorem nN_Blocks : ∀ a, a < 4 → ∀ b, b < 4 → a ≠ b → (nT_Blocks a).2.1 ≠ (nT_Blocks b).2.1 := by decide +kernel
theorem nY_Blocks_ok : ∀ k, k < 4 → parseFieldDescriptor (nT_Blocks k).2.2.1 = some (nY_Blocks k) := by decide +kernel
theorem nu_Blocks : ∀ w ∈ u_ws nR_Blocks nT_Blocks 4, w ∈ lw_wd := by decide +kernel
def nR_Field : String := "DrawnPaths$Field"
def nT_Field : u_T := fun k => match k with
  | 0 => ("DrawnPaths$Field", "signs", "[C", true)
  | _ => ("DrawnPaths$Field", "blocks", "LDrawnPaths$Blocks;", true)
def nY_Field : Nat → FieldType := fun k => match k with
  | 0 => .array (.char)
  | _ => .object "DrawnPaths$Blocks"
theorem nN_Field : ∀ a, a < 2 → ∀ b, b < 2 → a ≠ b → (nT_Field a).2.1 ≠ (nT_Field b).2.1 := by decide +kernel
theorem nY_Field_ok : ∀ k, k < 2 → parseFieldDescriptor (nT_Field k).2.2.1 = some (nY_Field k) := by decide +kernel
theorem nu_Field : ∀ w ∈ u_ws nR_Field nT_Field 2, w ∈ lw_wd := by decide +kernel
def nR_Line : String := "DrawnPaths$Line"
def nT_Line : u_T := fun k => match k with
  | 0 => ("DrawnPaths$Line", "characters", "[C", true)
  | _ => ("DrawnPaths$Line", "size", "I", false)
def nY_Line : Nat → FieldType := fun k => match k with
  | 0 => .array (.char)
  | _ => .int
theorem nN_Line : ∀ a, a < 2 → ∀ b, b < 2 → a ≠ b → (nT_Line a).2.1 ≠ (nT_Line b).2.1 := by decide +kernel
theorem nY_Line_ok : ∀ k, k < 2 → parseFieldDescriptor (nT_Line k).2.2.1 = some (nY_Line k) := by decide +kernel
theorem nu_Line : ∀ w ∈ u_ws nR_Line nT_Line 2, w ∈ lw_wd := by decide +kernel
def nR_Ptr : String := "DrawnPaths$Pointer"
def nT_Ptr : u_T := fun k => match k with
  | 0 => ("DrawnPaths$Pointer", "numbers", "[J", true)
  | 1 => ("DrawnPaths$Pointer", "returns", "[I", true)
  | 2 => ("DrawnPaths$Pointer", "way", "I", false)
  | 3 => ("DrawnPaths$Pointer", "depth", "I", false)
  | _ => ("DrawnPaths$Pointer", "returning", "I", false)
def nY_Ptr : Nat → FieldType := fun k => match k with
  | 0 => .array (.long)
  | 1 => .array (.int)
  | 2 => .int
  | 3 => .int
  | _ => .int
theorem nN_Ptr : ∀ a, a < 5 → ∀ b, b < 5 → a ≠ b → (nT_Ptr a).2.1 ≠ (nT_Ptr b).2.1 := by decide +kernel
theorem nY_Ptr_ok : ∀ k, k < 5 → parseFieldDescriptor (nT_Ptr k).2.2.1 = some (nY_Ptr k) := by decide +kernel
theorem nu_Ptr : ∀ w ∈ u_ws nR_Ptr nT_Ptr 5, w ∈ lw_wd := by decide +kernel
def nR_Run : String := "DrawnPaths$Run"
def nT_Run : u_T := fun k => match k with
  | 0 => ("DrawnPaths$Run", "field", "LDrawnPaths$Field;", true)
  | 1 => ("DrawnPaths$Run", "pointers", "[LDrawnPaths$Pointer;", true)
  | 2 => ("DrawnPaths$Run", "numbers", "[J", true)
  | 3 => ("DrawnPaths$Run", "digits", "[C", true)
  | 4 => ("DrawnPaths$Run", "written", "LDrawnPaths$Line;", true)
  | 5 => ("DrawnPaths$Run", "living", "I", false)
  | 6 => ("DrawnPaths$Run", "given", "I", false)
  | 7 => ("DrawnPaths$Run", "read", "I", false)
  | 8 => ("DrawnPaths$Run", "steps", "I", false)
  | _ => ("DrawnPaths$Run", "stopped", "I", false)
def nY_Run : Nat → FieldType := fun k => match k with
  | 0 => .object "DrawnPaths$Field"
  | 1 => .array (.object "DrawnPaths$Pointer")
  | 2 => .array (.long)
  | 3 => .array (.char)
  | 4 => .object "DrawnPaths$Line"
  | 5 => .int
  | 6 => .int
  | 7 => .int
  | 8 => .int
  | _ => .int
theorem nN_Run : ∀ a, a < 10 → ∀ b, b < 10 → a ≠ b → (nT_Run a).2.1 ≠ (nT_Run b).2.1 := by decide +kernel
theorem nY_Run_ok : ∀ k, k < 10 → parseFieldDescriptor (nT_Run k).2.2.1 = some (nY_Run k) := by decide +kernel
theorem nu_Run : ∀ w ∈ u_ws nR_Run nT_Run 10, w ∈ lw_wd := by decide +kernel
def nR_Search : String := "DrawnPaths$Search"
def nT_Search : u_T := fun k => match k with
  | 0 => ("DrawnPaths$Search", "marks", "[I", true)
  | 1 => ("DrawnPaths$Search", "found", "[I", true)
  | _ => ("DrawnPaths$Search", "size", "I", false)
def nY_Search : Nat → FieldType := fun k => match k with
  | 0 => .array (.int)
  | 1 => .array (.int)
  | _ => .int
theorem nN_Search : ∀ a, a < 3 → ∀ b, b < 3 → a ≠ b → (nT_Search a).2.1 ≠ (nT_Search b).2.1 := by decide +kernel
theorem nY_Search_ok : ∀ k, k < 3 → parseFieldDescriptor (nT_Search k).2.2.1 = some (nY_Search k) := by decide +kernel
theorem nu_Search : ∀ w ∈ u_ws nR_Search nT_Search 3, w ∈ lw_wd := by decide +kernel
abbrev vwCl : List vw_C := [(nR_P, nT_P, 6), (nR_Block, nT_Block, 5), (nR_Blocks, nT_Blocks, 4), (nR_Field, nT_Field, 2), (nR_Line, nT_Line, 2), (nR_Ptr, nT_Ptr, 5), (nR_Run, nT_Run, 10), (nR_Search, nT_Search, 3)]
