/-- the words of the tables that stay true while the machine warms up -/
def am_ww (w : Jvm.Cond) : Bool := goodWord w || (match w with
  | .castable _ _ => true
  | .declares _ => true
  | .fieldLinkNest _ _ _ _ _ _ => true
  | .methodLinkNest _ _ _ _ => true
  | _ => false)
theorem am_ww_use {w : Jvm.Cond} (h : am_ww w = true) {args a' : Array Value} {s U : State} (hW : s.WarmedH U.vm) (hs : w.before args s = true) : w.before a' U = true := by
  unfold am_ww at h
  simp only [Bool.or_eq_true] at h
  rcases h with h | h
  · exact word_at hW (good_of_word h) hs
  · split at h
    · exact va_Nw.use rfl (va_Nw.warmC hW (va_Nw.of rfl hs))
    · exact va_Nw.use rfl (va_Nw.warmD hW (va_Nw.of rfl hs))
    · exact va_Nw.use rfl (va_Nw.warmF hW (va_Nw.of rfl hs))
    · exact va_Nw.use rfl (va_Nw.warmM hW (va_Nw.of rfl hs))
    · cases h
def lw_tblG : List Jvm.Cond := lw_tbl.filter am_ww
theorem am_gmem {w : Jvm.Cond} (h : w ∈ lw_tbl) (g : am_ww w = true) : w ∈ lw_tblG := List.mem_filter.mpr ⟨h, g⟩
theorem am_tblw {w : Jvm.Cond} (h : w ∈ lw_tblG) : am_ww w = true := (List.mem_filter.mp h).2
theorem am_tblm {w : Jvm.Cond} (h : w ∈ lw_tblG) : w ∈ lw_tbl := (List.mem_filter.mp h).1
/-! the classes: names, fields, their types; where the tables speak of them -/
def RX0 : String := "DelegationShop$Code"
def TX0 : u_T := fun k => match k with
  | 0 => ("DelegationShop$Code", "orders", "[I", true)
  | 1 => ("DelegationShop$Code", "arguments", "[I", true)
  | 2 => ("DelegationShop$Code", "size", "I", false)
  | 3 => ("DelegationShop$Code", "guardFirstOn", "[I", true)
  | 4 => ("DelegationShop$Code", "guardEnsure", "[I", true)
  | 5 => ("DelegationShop$Code", "guardEnd", "[I", true)
  | 6 => ("DelegationShop$Code", "guards", "I", false)
  | 7 => ("DelegationShop$Code", "onKind", "[I", true)
  | 8 => ("DelegationShop$Code", "onWord", "[I", true)
  | 9 => ("DelegationShop$Code", "onStart", "[I", true)
  | 10 => ("DelegationShop$Code", "onGuard", "[I", true)
  | _ => ("DelegationShop$Code", "ons", "I", false)
def tyX0 : Nat → FieldType := fun k => match k with
  | 0 => .array .int
  | 1 => .array .int
  | 2 => .int
  | 3 => .array .int
  | 4 => .array .int
  | 5 => .array .int
  | 6 => .int
  | 7 => .array .int
  | 8 => .array .int
  | 9 => .array .int
  | 10 => .array .int
  | _ => .int
theorem am_nm0 : ∀ a, a < 12 → ∀ b, b < 12 → a ≠ b → (TX0 a).2.1 ≠ (TX0 b).2.1 := by decide +kernel
theorem am_ty0 : ∀ k, k < 12 → parseFieldDescriptor (TX0 k).2.2.1 = some (tyX0 k) := by decide +kernel
def am_ix0 : List Nat := [322, 324, 326, 328, 330, 332, 334, 336, 338, 340, 342, 344]
theorem am_lay0 : ∀ k, k < 12 → lw_tbl[am_ix0.getD k 0]? = some (u_lay RX0 TX0 k) := by decide +kernel
theorem am_lyg0 : ∀ k, k < 12 → am_ww (u_lay RX0 TX0 k) = true := by decide +kernel
theorem am_in0 : ∀ w ∈ u_ws RX0 TX0 12, w ∈ lw_tblG := fun w hw => by
  obtain ⟨k, hk, rfl⟩ := List.mem_map.mp hw
  have hk := List.mem_range.mp hk
  exact am_gmem (List.mem_of_getElem? (am_lay0 k hk)) (am_lyg0 k hk)
def RX1 : String := "DelegationShop$Compiler"
def TX1 : u_T := fun k => match k with
  | 0 => ("DelegationShop$Compiler", "tape", "LDelegationShop$Tape;", true)
  | 1 => ("DelegationShop$Compiler", "text", "LDelegationShop$Text;", false)
  | 2 => ("DelegationShop$Compiler", "code", "LDelegationShop$Code;", false)
  | 3 => ("DelegationShop$Compiler", "words", "[J", true)
  | 4 => ("DelegationShop$Compiler", "declared", "[I", true)
  | 5 => ("DelegationShop$Compiler", "level", "I", false)
  | _ => ("DelegationShop$Compiler", "method", "I", false)
def tyX1 : Nat → FieldType := fun k => match k with
  | 0 => .object "DelegationShop$Tape"
  | 1 => .object "DelegationShop$Text"
  | 2 => .object "DelegationShop$Code"
  | 3 => .array .long
  | 4 => .array .int
  | 5 => .int
  | _ => .int
theorem am_nm1 : ∀ a, a < 7 → ∀ b, b < 7 → a ≠ b → (TX1 a).2.1 ≠ (TX1 b).2.1 := by decide +kernel
theorem am_ty1 : ∀ k, k < 7 → parseFieldDescriptor (TX1 k).2.2.1 = some (tyX1 k) := by decide +kernel
def am_ix1 : List Nat := [425, 427, 429, 431, 433, 435, 437]
theorem am_lay1 : ∀ k, k < 7 → lw_tbl[am_ix1.getD k 0]? = some (u_lay RX1 TX1 k) := by decide +kernel
theorem am_lyg1 : ∀ k, k < 7 → am_ww (u_lay RX1 TX1 k) = true := by decide +kernel
theorem am_in1 : ∀ w ∈ u_ws RX1 TX1 7, w ∈ lw_tblG := fun w hw => by
  obtain ⟨k, hk, rfl⟩ := List.mem_map.mp hw
  have hk := List.mem_range.mp hk
  exact am_gmem (List.mem_of_getElem? (am_lay1 k hk)) (am_lyg1 k hk)
def RX2 : String := "DelegationShop$Frames"
def TX2 : u_T := fun k => match k with
  | 0 => ("DelegationShop$Frames", "room", "[I", true)
  | 1 => ("DelegationShop$Frames", "method", "[I", true)
  | 2 => ("DelegationShop$Frames", "next", "[I", true)
  | 3 => ("DelegationShop$Frames", "statement", "[I", true)
  | 4 => ("DelegationShop$Frames", "base", "[I", true)
  | 5 => ("DelegationShop$Frames", "guardsBelow", "[I", true)
  | 6 => ("DelegationShop$Frames", "isHandler", "[Z", true)
  | 7 => ("DelegationShop$Frames", "many", "I", false)
  | _ => ("DelegationShop$Frames", "handlers", "I", false)
def tyX2 : Nat → FieldType := fun k => match k with
  | 0 => .array .int
  | 1 => .array .int
  | 2 => .array .int
  | 3 => .array .int
  | 4 => .array .int
  | 5 => .array .int
  | 6 => .array .boolean
  | 7 => .int
  | _ => .int
theorem am_nm2 : ∀ a, a < 9 → ∀ b, b < 9 → a ≠ b → (TX2 a).2.1 ≠ (TX2 b).2.1 := by decide +kernel
theorem am_ty2 : ∀ k, k < 9 → parseFieldDescriptor (TX2 k).2.2.1 = some (tyX2 k) := by decide +kernel
def am_ix2 : List Nat := [653, 655, 657, 659, 661, 663, 665, 667, 669]
theorem am_lay2 : ∀ k, k < 9 → lw_tbl[am_ix2.getD k 0]? = some (u_lay RX2 TX2 k) := by decide +kernel
theorem am_lyg2 : ∀ k, k < 9 → am_ww (u_lay RX2 TX2 k) = true := by decide +kernel
theorem am_in2 : ∀ w ∈ u_ws RX2 TX2 9, w ∈ lw_tblG := fun w hw => by
  obtain ⟨k, hk, rfl⟩ := List.mem_map.mp hw
  have hk := List.mem_range.mp hk
  exact am_gmem (List.mem_of_getElem? (am_lay2 k hk)) (am_lyg2 k hk)
def RX3 : String := "DelegationShop$Guards"
def TX3 : u_T := fun k => match k with
  | 0 => ("DelegationShop$Guards", "part", "[I", true)
  | 1 => ("DelegationShop$Guards", "guard", "[I", true)
  | 2 => ("DelegationShop$Guards", "frame", "[I", true)
  | 3 => ("DelegationShop$Guards", "cause", "[I", true)
  | 4 => ("DelegationShop$Guards", "many", "I", false)
  | 5 => ("DelegationShop$Guards", "keptGoing", "[I", true)
  | 6 => ("DelegationShop$Guards", "keptKind", "[I", true)
  | 7 => ("DelegationShop$Guards", "keptSort", "[I", true)
  | 8 => ("DelegationShop$Guards", "keptWorth", "[J", true)
  | 9 => ("DelegationShop$Guards", "keptNumber", "[I", true)
  | 10 => ("DelegationShop$Guards", "going", "I", false)
  | 11 => ("DelegationShop$Guards", "kind", "I", false)
  | 12 => ("DelegationShop$Guards", "sort", "I", false)
  | 13 => ("DelegationShop$Guards", "worth", "J", false)
  | _ => ("DelegationShop$Guards", "number", "I", false)
def tyX3 : Nat → FieldType := fun k => match k with
  | 0 => .array .int
  | 1 => .array .int
  | 2 => .array .int
  | 3 => .array .int
  | 4 => .int
  | 5 => .array .int
  | 6 => .array .int
  | 7 => .array .int
  | 8 => .array .long
  | 9 => .array .int
  | 10 => .int
  | 11 => .int
  | 12 => .int
  | 13 => .long
  | _ => .int
theorem am_nm3 : ∀ a, a < 15 → ∀ b, b < 15 → a ≠ b → (TX3 a).2.1 ≠ (TX3 b).2.1 := by decide +kernel
theorem am_ty3 : ∀ k, k < 15 → parseFieldDescriptor (TX3 k).2.2.1 = some (tyX3 k) := by decide +kernel
def am_ix3 : List Nat := [703, 705, 707, 709, 711, 713, 715, 717, 719, 721, 723, 725, 727, 729, 731]
theorem am_lay3 : ∀ k, k < 15 → lw_tbl[am_ix3.getD k 0]? = some (u_lay RX3 TX3 k) := by decide +kernel
theorem am_lyg3 : ∀ k, k < 15 → am_ww (u_lay RX3 TX3 k) = true := by decide +kernel
theorem am_in3 : ∀ w ∈ u_ws RX3 TX3 15, w ∈ lw_tblG := fun w hw => by
  obtain ⟨k, hk, rfl⟩ := List.mem_map.mp hw
  have hk := List.mem_range.mp hk
  exact am_gmem (List.mem_of_getElem? (am_lay3 k hk)) (am_lyg3 k hk)
def RX4 : String := "DelegationShop$Journal"
def TX4 : u_T := fun k => match k with
  | 0 => ("DelegationShop$Journal", "sums", "[J", true)
  | 1 => ("DelegationShop$Journal", "writtenRows", "[J", true)
  | 2 => ("DelegationShop$Journal", "begunRows", "[J", true)
  | 3 => ("DelegationShop$Journal", "failureRows", "[J", true)
  | _ => ("DelegationShop$Journal", "methodCalls", "[I", true)
def tyX4 : Nat → FieldType := fun k => match k with
  | 0 => .array .long
  | 1 => .array .long
  | 2 => .array .long
  | 3 => .array .long
  | _ => .array .int
theorem am_nm4 : ∀ a, a < 5 → ∀ b, b < 5 → a ≠ b → (TX4 a).2.1 ≠ (TX4 b).2.1 := by decide +kernel
theorem am_ty4 : ∀ k, k < 5 → parseFieldDescriptor (TX4 k).2.2.1 = some (tyX4 k) := by decide +kernel
def am_ix4 : List Nat := [619, 621, 623, 625, 627]
theorem am_lay4 : ∀ k, k < 5 → lw_tbl[am_ix4.getD k 0]? = some (u_lay RX4 TX4 k) := by decide +kernel
theorem am_lyg4 : ∀ k, k < 5 → am_ww (u_lay RX4 TX4 k) = true := by decide +kernel
theorem am_in4 : ∀ w ∈ u_ws RX4 TX4 5, w ∈ lw_tblG := fun w hw => by
  obtain ⟨k, hk, rfl⟩ := List.mem_map.mp hw
  have hk := List.mem_range.mp hk
  exact am_gmem (List.mem_of_getElem? (am_lay4 k hk)) (am_lyg4 k hk)
def RX5 : String := "DelegationShop$Machine"
def TX5 : u_T := fun k => match k with
  | 0 => ("DelegationShop$Machine", "world", "LDelegationShop$World;", true)
  | 1 => ("DelegationShop$Machine", "sites", "LDelegationShop$Sites;", true)
  | 2 => ("DelegationShop$Machine", "words", "LDelegationShop$Words;", true)
  | 3 => ("DelegationShop$Machine", "journal", "LDelegationShop$Journal;", true)
  | 4 => ("DelegationShop$Machine", "frames", "LDelegationShop$Frames;", true)
  | 5 => ("DelegationShop$Machine", "guards", "LDelegationShop$Guards;", true)
  | 6 => ("DelegationShop$Machine", "text", "LDelegationShop$Text;", false)
  | 7 => ("DelegationShop$Machine", "code", "LDelegationShop$Code;", false)
  | 8 => ("DelegationShop$Machine", "sorts", "[I", true)
  | 9 => ("DelegationShop$Machine", "worths", "[J", true)
  | 10 => ("DelegationShop$Machine", "size", "I", false)
  | 11 => ("DelegationShop$Machine", "outcome", "I", false)
  | 12 => ("DelegationShop$Machine", "top", "I", false)
  | 13 => ("DelegationShop$Machine", "newArguments", "I", false)
  | 14 => ("DelegationShop$Machine", "newPlace", "I", false)
  | 15 => ("DelegationShop$Machine", "newHolder", "I", false)
  | _ => ("DelegationShop$Machine", "newHandles", "Z", false)
def tyX5 : Nat → FieldType := fun k => match k with
  | 0 => .object "DelegationShop$World"
  | 1 => .object "DelegationShop$Sites"
  | 2 => .object "DelegationShop$Words"
  | 3 => .object "DelegationShop$Journal"
  | 4 => .object "DelegationShop$Frames"
  | 5 => .object "DelegationShop$Guards"
  | 6 => .object "DelegationShop$Text"
  | 7 => .object "DelegationShop$Code"
  | 8 => .array .int
  | 9 => .array .long
  | 10 => .int
  | 11 => .int
  | 12 => .int
  | 13 => .int
  | 14 => .int
  | 15 => .int
  | _ => .boolean
theorem am_nm5 : ∀ a, a < 17 → ∀ b, b < 17 → a ≠ b → (TX5 a).2.1 ≠ (TX5 b).2.1 := by decide +kernel
theorem am_ty5 : ∀ k, k < 17 → parseFieldDescriptor (TX5 k).2.2.1 = some (tyX5 k) := by decide +kernel
def am_ix5 : List Nat := [758, 760, 762, 764, 766, 768, 770, 772, 774, 776, 778, 780, 782, 784, 786, 788, 790]
theorem am_lay5 : ∀ k, k < 17 → lw_tbl[am_ix5.getD k 0]? = some (u_lay RX5 TX5 k) := by decide +kernel
theorem am_lyg5 : ∀ k, k < 17 → am_ww (u_lay RX5 TX5 k) = true := by decide +kernel
theorem am_in5 : ∀ w ∈ u_ws RX5 TX5 17, w ∈ lw_tblG := fun w hw => by
  obtain ⟨k, hk, rfl⟩ := List.mem_map.mp hw
  have hk := List.mem_range.mp hk
  exact am_gmem (List.mem_of_getElem? (am_lay5 k hk)) (am_lyg5 k hk)
def RX6 : String := "DelegationShop$Sites"
def TX6 : u_T := fun k => match k with
  | 0 => ("DelegationShop$Sites", "rows", "[I", true)
  | 1 => ("DelegationShop$Sites", "rests", "[J", true)
  | 2 => ("DelegationShop$Sites", "facts", "[I", true)
  | 3 => ("DelegationShop$Sites", "goneRows", "[I", true)
  | 4 => ("DelegationShop$Sites", "tableSize", "I", false)
  | 5 => ("DelegationShop$Sites", "goneSize", "I", false)
  | 6 => ("DelegationShop$Sites", "manner", "I", false)
  | 7 => ("DelegationShop$Sites", "place", "I", false)
  | _ => ("DelegationShop$Sites", "holder", "I", false)
def tyX6 : Nat → FieldType := fun k => match k with
  | 0 => .array .int
  | 1 => .array .long
  | 2 => .array .int
  | 3 => .array .int
  | 4 => .int
  | 5 => .int
  | 6 => .int
  | 7 => .int
  | _ => .int
theorem am_nm6 : ∀ a, a < 9 → ∀ b, b < 9 → a ≠ b → (TX6 a).2.1 ≠ (TX6 b).2.1 := by decide +kernel
theorem am_ty6 : ∀ k, k < 9 → parseFieldDescriptor (TX6 k).2.2.1 = some (tyX6 k) := by decide +kernel
def am_ix6 : List Nat := [524, 526, 528, 530, 532, 534, 536, 538, 540]
theorem am_lay6 : ∀ k, k < 9 → lw_tbl[am_ix6.getD k 0]? = some (u_lay RX6 TX6 k) := by decide +kernel
theorem am_lyg6 : ∀ k, k < 9 → am_ww (u_lay RX6 TX6 k) = true := by decide +kernel
theorem am_in6 : ∀ w ∈ u_ws RX6 TX6 9, w ∈ lw_tblG := fun w hw => by
  obtain ⟨k, hk, rfl⟩ := List.mem_map.mp hw
  have hk := List.mem_range.mp hk
  exact am_gmem (List.mem_of_getElem? (am_lay6 k hk)) (am_lyg6 k hk)
def RX7 : String := "DelegationShop$Tape"
def TX7 : u_T := fun k => match k with
  | 0 => ("DelegationShop$Tape", "bytes", "[B", true)
  | 1 => ("DelegationShop$Tape", "length", "I", false)
  | 2 => ("DelegationShop$Tape", "keywords", "[J", true)
  | 3 => ("DelegationShop$Tape", "kinds", "[I", true)
  | 4 => ("DelegationShop$Tape", "places", "[I", true)
  | 5 => ("DelegationShop$Tape", "values", "[J", true)
  | 6 => ("DelegationShop$Tape", "tokens", "I", false)
  | 7 => ("DelegationShop$Tape", "at", "I", false)
  | 8 => ("DelegationShop$Tape", "kind", "I", false)
  | 9 => ("DelegationShop$Tape", "place", "I", false)
  | _ => ("DelegationShop$Tape", "value", "J", false)
def tyX7 : Nat → FieldType := fun k => match k with
  | 0 => .array .byte
  | 1 => .int
  | 2 => .array .long
  | 3 => .array .int
  | 4 => .array .int
  | 5 => .array .long
  | 6 => .int
  | 7 => .int
  | 8 => .int
  | 9 => .int
  | _ => .long
theorem am_nm7 : ∀ a, a < 11 → ∀ b, b < 11 → a ≠ b → (TX7 a).2.1 ≠ (TX7 b).2.1 := by decide +kernel
theorem am_ty7 : ∀ k, k < 11 → parseFieldDescriptor (TX7 k).2.2.1 = some (tyX7 k) := by decide +kernel
def am_ix7 : List Nat := [262, 264, 266, 268, 270, 272, 274, 276, 278, 280, 282]
theorem am_lay7 : ∀ k, k < 11 → lw_tbl[am_ix7.getD k 0]? = some (u_lay RX7 TX7 k) := by decide +kernel
theorem am_lyg7 : ∀ k, k < 11 → am_ww (u_lay RX7 TX7 k) = true := by decide +kernel
theorem am_in7 : ∀ w ∈ u_ws RX7 TX7 11, w ∈ lw_tblG := fun w hw => by
  obtain ⟨k, hk, rfl⟩ := List.mem_map.mp hw
  have hk := List.mem_range.mp hk
  exact am_gmem (List.mem_of_getElem? (am_lay7 k hk)) (am_lyg7 k hk)
def RX8 : String := "DelegationShop$Text"
def TX8 : u_T := fun k => match k with
  | 0 => ("DelegationShop$Text", "code", "LDelegationShop$Code;", true)
  | 1 => ("DelegationShop$Text", "methodWord", "[J", true)
  | 2 => ("DelegationShop$Text", "methodParameters", "[I", true)
  | 3 => ("DelegationShop$Text", "methodStart", "[I", true)
  | 4 => ("DelegationShop$Text", "methods", "I", false)
  | 5 => ("DelegationShop$Text", "nameWord", "[J", true)
  | 6 => ("DelegationShop$Text", "names", "I", false)
  | 7 => ("DelegationShop$Text", "siteKind", "[I", true)
  | 8 => ("DelegationShop$Text", "siteName", "[I", true)
  | 9 => ("DelegationShop$Text", "sitePlace", "[I", true)
  | 10 => ("DelegationShop$Text", "sites", "I", false)
  | 11 => ("DelegationShop$Text", "literalParameters", "[I", true)
  | 12 => ("DelegationShop$Text", "literalStart", "[I", true)
  | 13 => ("DelegationShop$Text", "literalMethod", "[I", true)
  | _ => ("DelegationShop$Text", "literals", "I", false)
def tyX8 : Nat → FieldType := fun k => match k with
  | 0 => .object "DelegationShop$Code"
  | 1 => .array .long
  | 2 => .array .int
  | 3 => .array .int
  | 4 => .int
  | 5 => .array .long
  | 6 => .int
  | 7 => .array .int
  | 8 => .array .int
  | 9 => .array .int
  | 10 => .int
  | 11 => .array .int
  | 12 => .array .int
  | 13 => .array .int
  | _ => .int
theorem am_nm8 : ∀ a, a < 15 → ∀ b, b < 15 → a ≠ b → (TX8 a).2.1 ≠ (TX8 b).2.1 := by decide +kernel
theorem am_ty8 : ∀ k, k < 15 → parseFieldDescriptor (TX8 k).2.2.1 = some (tyX8 k) := by decide +kernel
def am_ix8 : List Nat := [385, 387, 389, 391, 393, 395, 397, 399, 401, 403, 405, 407, 409, 411, 413]
theorem am_lay8 : ∀ k, k < 15 → lw_tbl[am_ix8.getD k 0]? = some (u_lay RX8 TX8 k) := by decide +kernel
theorem am_lyg8 : ∀ k, k < 15 → am_ww (u_lay RX8 TX8 k) = true := by decide +kernel
theorem am_in8 : ∀ w ∈ u_ws RX8 TX8 15, w ∈ lw_tblG := fun w hw => by
  obtain ⟨k, hk, rfl⟩ := List.mem_map.mp hw
  have hk := List.mem_range.mp hk
  exact am_gmem (List.mem_of_getElem? (am_lay8 k hk)) (am_lyg8 k hk)
def RX9 : String := "DelegationShop$Words"
def TX9 : u_T := fun k => match k with
  | 0 => ("DelegationShop$Words", "sorts", "[I", true)
  | 1 => ("DelegationShop$Words", "worths", "[J", true)
  | 2 => ("DelegationShop$Words", "outer", "[I", true)
  | 3 => ("DelegationShop$Words", "home", "[I", true)
  | 4 => ("DelegationShop$Words", "frame", "[I", true)
  | 5 => ("DelegationShop$Words", "seenByBlock", "[Z", true)
  | 6 => ("DelegationShop$Words", "selfSort", "[I", true)
  | 7 => ("DelegationShop$Words", "selfWorth", "[J", true)
  | 8 => ("DelegationShop$Words", "foundAt", "[I", true)
  | 9 => ("DelegationShop$Words", "holder", "[I", true)
  | 10 => ("DelegationShop$Words", "free", "[I", true)
  | 11 => ("DelegationShop$Words", "freeRooms", "I", false)
  | 12 => ("DelegationShop$Words", "blockLiteral", "[I", true)
  | 13 => ("DelegationShop$Words", "blockRoom", "[I", true)
  | _ => ("DelegationShop$Words", "blocks", "I", false)
def tyX9 : Nat → FieldType := fun k => match k with
  | 0 => .array .int
  | 1 => .array .long
  | 2 => .array .int
  | 3 => .array .int
  | 4 => .array .int
  | 5 => .array .boolean
  | 6 => .array .int
  | 7 => .array .long
  | 8 => .array .int
  | 9 => .array .int
  | 10 => .array .int
  | 11 => .int
  | 12 => .array .int
  | 13 => .array .int
  | _ => .int
theorem am_nm9 : ∀ a, a < 15 → ∀ b, b < 15 → a ≠ b → (TX9 a).2.1 ≠ (TX9 b).2.1 := by decide +kernel
theorem am_ty9 : ∀ k, k < 15 → parseFieldDescriptor (TX9 k).2.2.1 = some (tyX9 k) := by decide +kernel
def am_ix9 : List Nat := [574, 576, 578, 580, 582, 584, 586, 588, 590, 592, 594, 596, 598, 600, 602]
theorem am_lay9 : ∀ k, k < 15 → lw_tbl[am_ix9.getD k 0]? = some (u_lay RX9 TX9 k) := by decide +kernel
theorem am_lyg9 : ∀ k, k < 15 → am_ww (u_lay RX9 TX9 k) = true := by decide +kernel
theorem am_in9 : ∀ w ∈ u_ws RX9 TX9 15, w ∈ lw_tblG := fun w hw => by
  obtain ⟨k, hk, rfl⟩ := List.mem_map.mp hw
  have hk := List.mem_range.mp hk
  exact am_gmem (List.mem_of_getElem? (am_lay9 k hk)) (am_lyg9 k hk)
def RX10 : String := "DelegationShop$World"
def TX10 : u_T := fun k => match k with
  | 0 => ("DelegationShop$World", "objects", "I", false)
  | 1 => ("DelegationShop$World", "shapeOf", "[I", true)
  | 2 => ("DelegationShop$World", "sorts", "[I", true)
  | 3 => ("DelegationShop$World", "worths", "[J", true)
  | 4 => ("DelegationShop$World", "shapes", "I", false)
  | 5 => ("DelegationShop$World", "sizes", "[I", true)
  | 6 => ("DelegationShop$World", "before", "[I", true)
  | 7 => ("DelegationShop$World", "kinds", "[I", true)
  | 8 => ("DelegationShop$World", "whats", "[I", true)
  | 9 => ("DelegationShop$World", "place", "I", false)
  | 10 => ("DelegationShop$World", "holder", "I", false)
  | 11 => ("DelegationShop$World", "seen", "[J", true)
  | 12 => ("DelegationShop$World", "openShape", "[I", true)
  | 13 => ("DelegationShop$World", "openItem", "[I", true)
  | _ => ("DelegationShop$World", "open", "I", false)
def tyX10 : Nat → FieldType := fun k => match k with
  | 0 => .int
  | 1 => .array .int
  | 2 => .array .int
  | 3 => .array .long
  | 4 => .int
  | 5 => .array .int
  | 6 => .array .int
  | 7 => .array .int
  | 8 => .array .int
  | 9 => .int
  | 10 => .int
  | 11 => .array .long
  | 12 => .array .int
  | 13 => .array .int
  | _ => .int
theorem am_nm10 : ∀ a, a < 15 → ∀ b, b < 15 → a ≠ b → (TX10 a).2.1 ≠ (TX10 b).2.1 := by decide +kernel
theorem am_ty10 : ∀ k, k < 15 → parseFieldDescriptor (TX10 k).2.2.1 = some (tyX10 k) := by decide +kernel
def am_ix10 : List Nat := [475, 477, 479, 481, 483, 485, 487, 489, 491, 493, 495, 497, 499, 501, 503]
theorem am_lay10 : ∀ k, k < 15 → lw_tbl[am_ix10.getD k 0]? = some (u_lay RX10 TX10 k) := by decide +kernel
theorem am_lyg10 : ∀ k, k < 15 → am_ww (u_lay RX10 TX10 k) = true := by decide +kernel
theorem am_in10 : ∀ w ∈ u_ws RX10 TX10 15, w ∈ lw_tblG := fun w hw => by
  obtain ⟨k, hk, rfl⟩ := List.mem_map.mp hw
  have hk := List.mem_range.mp hk
  exact am_gmem (List.mem_of_getElem? (am_lay10 k hk)) (am_lyg10 k hk)
def RX11 : String := "DelegationShop"
def TX11 : u_T := fun k => match k with
  | 0 => ("DelegationShop", "compiler", "LDelegationShop$Compiler;", true)
  | 1 => ("DelegationShop", "machine", "LDelegationShop$Machine;", true)
  | 2 => ("DelegationShop", "tape", "LDelegationShop$Tape;", true)
  | 3 => ("DelegationShop", "world", "LDelegationShop$World;", true)
  | 4 => ("DelegationShop", "sites", "LDelegationShop$Sites;", true)
  | 5 => ("DelegationShop", "words", "LDelegationShop$Words;", true)
  | 6 => ("DelegationShop", "journal", "LDelegationShop$Journal;", true)
  | 7 => ("DelegationShop", "text", "LDelegationShop$Text;", false)
  | _ => ("DelegationShop", "loaded", "Z", false)
def tyX11 : Nat → FieldType := fun k => match k with
  | 0 => .object "DelegationShop$Compiler"
  | 1 => .object "DelegationShop$Machine"
  | 2 => .object "DelegationShop$Tape"
  | 3 => .object "DelegationShop$World"
  | 4 => .object "DelegationShop$Sites"
  | 5 => .object "DelegationShop$Words"
  | 6 => .object "DelegationShop$Journal"
  | 7 => .object "DelegationShop$Text"
  | _ => .boolean
theorem am_nm11 : ∀ a, a < 9 → ∀ b, b < 9 → a ≠ b → (TX11 a).2.1 ≠ (TX11 b).2.1 := by decide +kernel
theorem am_ty11 : ∀ k, k < 9 → parseFieldDescriptor (TX11 k).2.2.1 = some (tyX11 k) := by decide +kernel
def am_ix11 : List Nat := [802, 804, 806, 808, 810, 812, 814, 816, 818]
theorem am_lay11 : ∀ k, k < 9 → lw_tbl[am_ix11.getD k 0]? = some (u_lay RX11 TX11 k) := by decide +kernel
theorem am_lyg11 : ∀ k, k < 9 → am_ww (u_lay RX11 TX11 k) = true := by decide +kernel
theorem am_in11 : ∀ w ∈ u_ws RX11 TX11 9, w ∈ lw_tblG := fun w hw => by
  obtain ⟨k, hk, rfl⟩ := List.mem_map.mp hw
  have hk := List.mem_range.mp hk
  exact am_gmem (List.mem_of_getElem? (am_lay11 k hk)) (am_lyg11 k hk)
theorem am_tcl0 : ∀ k, k < 12 → tyX0 k = .int ∨ tyX0 k = .long ∨ tyX0 k = .boolean ∨ (∃ t, tyX0 k = .object t) ∨ ∃ t, tyX0 k = .array t := fun k _ => by
  unfold tyX0
  split <;> first | exact Or.inl rfl | exact Or.inr (Or.inl rfl) | exact Or.inr (Or.inr (Or.inl rfl)) | exact Or.inr (Or.inr (Or.inr (Or.inl ⟨_, rfl⟩))) | exact Or.inr (Or.inr (Or.inr (Or.inr ⟨_, rfl⟩)))
theorem am_tcl1 : ∀ k, k < 7 → tyX1 k = .int ∨ tyX1 k = .long ∨ tyX1 k = .boolean ∨ (∃ t, tyX1 k = .object t) ∨ ∃ t, tyX1 k = .array t := fun k _ => by
  unfold tyX1
  split <;> first | exact Or.inl rfl | exact Or.inr (Or.inl rfl) | exact Or.inr (Or.inr (Or.inl rfl)) | exact Or.inr (Or.inr (Or.inr (Or.inl ⟨_, rfl⟩))) | exact Or.inr (Or.inr (Or.inr (Or.inr ⟨_, rfl⟩)))
theorem am_tcl2 : ∀ k, k < 9 → tyX2 k = .int ∨ tyX2 k = .long ∨ tyX2 k = .boolean ∨ (∃ t, tyX2 k = .object t) ∨ ∃ t, tyX2 k = .array t := fun k _ => by
  unfold tyX2
  split <;> first | exact Or.inl rfl | exact Or.inr (Or.inl rfl) | exact Or.inr (Or.inr (Or.inl rfl)) | exact Or.inr (Or.inr (Or.inr (Or.inl ⟨_, rfl⟩))) | exact Or.inr (Or.inr (Or.inr (Or.inr ⟨_, rfl⟩)))
theorem am_tcl3 : ∀ k, k < 15 → tyX3 k = .int ∨ tyX3 k = .long ∨ tyX3 k = .boolean ∨ (∃ t, tyX3 k = .object t) ∨ ∃ t, tyX3 k = .array t := fun k _ => by
  unfold tyX3
  split <;> first | exact Or.inl rfl | exact Or.inr (Or.inl rfl) | exact Or.inr (Or.inr (Or.inl rfl)) | exact Or.inr (Or.inr (Or.inr (Or.inl ⟨_, rfl⟩))) | exact Or.inr (Or.inr (Or.inr (Or.inr ⟨_, rfl⟩)))
theorem am_tcl4 : ∀ k, k < 5 → tyX4 k = .int ∨ tyX4 k = .long ∨ tyX4 k = .boolean ∨ (∃ t, tyX4 k = .object t) ∨ ∃ t, tyX4 k = .array t := fun k _ => by
  unfold tyX4
  split <;> first | exact Or.inl rfl | exact Or.inr (Or.inl rfl) | exact Or.inr (Or.inr (Or.inl rfl)) | exact Or.inr (Or.inr (Or.inr (Or.inl ⟨_, rfl⟩))) | exact Or.inr (Or.inr (Or.inr (Or.inr ⟨_, rfl⟩)))
theorem am_tcl5 : ∀ k, k < 17 → tyX5 k = .int ∨ tyX5 k = .long ∨ tyX5 k = .boolean ∨ (∃ t, tyX5 k = .object t) ∨ ∃ t, tyX5 k = .array t := fun k _ => by
  unfold tyX5
  split <;> first | exact Or.inl rfl | exact Or.inr (Or.inl rfl) | exact Or.inr (Or.inr (Or.inl rfl)) | exact Or.inr (Or.inr (Or.inr (Or.inl ⟨_, rfl⟩))) | exact Or.inr (Or.inr (Or.inr (Or.inr ⟨_, rfl⟩)))
theorem am_tcl6 : ∀ k, k < 9 → tyX6 k = .int ∨ tyX6 k = .long ∨ tyX6 k = .boolean ∨ (∃ t, tyX6 k = .object t) ∨ ∃ t, tyX6 k = .array t := fun k _ => by
  unfold tyX6
  split <;> first | exact Or.inl rfl | exact Or.inr (Or.inl rfl) | exact Or.inr (Or.inr (Or.inl rfl)) | exact Or.inr (Or.inr (Or.inr (Or.inl ⟨_, rfl⟩))) | exact Or.inr (Or.inr (Or.inr (Or.inr ⟨_, rfl⟩)))
theorem am_tcl7 : ∀ k, k < 11 → tyX7 k = .int ∨ tyX7 k = .long ∨ tyX7 k = .boolean ∨ (∃ t, tyX7 k = .object t) ∨ ∃ t, tyX7 k = .array t := fun k _ => by
  unfold tyX7
  split <;> first | exact Or.inl rfl | exact Or.inr (Or.inl rfl) | exact Or.inr (Or.inr (Or.inl rfl)) | exact Or.inr (Or.inr (Or.inr (Or.inl ⟨_, rfl⟩))) | exact Or.inr (Or.inr (Or.inr (Or.inr ⟨_, rfl⟩)))
theorem am_tcl8 : ∀ k, k < 15 → tyX8 k = .int ∨ tyX8 k = .long ∨ tyX8 k = .boolean ∨ (∃ t, tyX8 k = .object t) ∨ ∃ t, tyX8 k = .array t := fun k _ => by
  unfold tyX8
  split <;> first | exact Or.inl rfl | exact Or.inr (Or.inl rfl) | exact Or.inr (Or.inr (Or.inl rfl)) | exact Or.inr (Or.inr (Or.inr (Or.inl ⟨_, rfl⟩))) | exact Or.inr (Or.inr (Or.inr (Or.inr ⟨_, rfl⟩)))
theorem am_tcl9 : ∀ k, k < 15 → tyX9 k = .int ∨ tyX9 k = .long ∨ tyX9 k = .boolean ∨ (∃ t, tyX9 k = .object t) ∨ ∃ t, tyX9 k = .array t := fun k _ => by
  unfold tyX9
  split <;> first | exact Or.inl rfl | exact Or.inr (Or.inl rfl) | exact Or.inr (Or.inr (Or.inl rfl)) | exact Or.inr (Or.inr (Or.inr (Or.inl ⟨_, rfl⟩))) | exact Or.inr (Or.inr (Or.inr (Or.inr ⟨_, rfl⟩)))
theorem am_tcl10 : ∀ k, k < 15 → tyX10 k = .int ∨ tyX10 k = .long ∨ tyX10 k = .boolean ∨ (∃ t, tyX10 k = .object t) ∨ ∃ t, tyX10 k = .array t := fun k _ => by
  unfold tyX10
  split <;> first | exact Or.inl rfl | exact Or.inr (Or.inl rfl) | exact Or.inr (Or.inr (Or.inl rfl)) | exact Or.inr (Or.inr (Or.inr (Or.inl ⟨_, rfl⟩))) | exact Or.inr (Or.inr (Or.inr (Or.inr ⟨_, rfl⟩)))
theorem am_tcl11 : ∀ k, k < 9 → tyX11 k = .int ∨ tyX11 k = .long ∨ tyX11 k = .boolean ∨ (∃ t, tyX11 k = .object t) ∨ ∃ t, tyX11 k = .array t := fun k _ => by
  unfold tyX11
  split <;> first | exact Or.inl rfl | exact Or.inr (Or.inl rfl) | exact Or.inr (Or.inr (Or.inl rfl)) | exact Or.inr (Or.inr (Or.inr (Or.inl ⟨_, rfl⟩))) | exact Or.inr (Or.inr (Or.inr (Or.inr ⟨_, rfl⟩)))
def am_C : Nat → String := fun c => match c with
  | 0 => RX0
  | 1 => RX1
  | 2 => RX2
  | 3 => RX3
  | 4 => RX4
  | 5 => RX5
  | 6 => RX6
  | 7 => RX7
  | 8 => RX8
  | 9 => RX9
  | 10 => RX10
  | _ => RX11
def am_T : Nat → u_T := fun c => match c with
  | 0 => TX0
  | 1 => TX1
  | 2 => TX2
  | 3 => TX3
  | 4 => TX4
  | 5 => TX5
  | 6 => TX6
  | 7 => TX7
  | 8 => TX8
  | 9 => TX9
  | 10 => TX10
  | _ => TX11
def am_tyf : Nat → (Nat → FieldType) := fun c => match c with
  | 0 => tyX0
  | 1 => tyX1
  | 2 => tyX2
  | 3 => tyX3
  | 4 => tyX4
  | 5 => tyX5
  | 6 => tyX6
  | 7 => tyX7
  | 8 => tyX8
  | 9 => tyX9
  | 10 => tyX10
  | _ => tyX11
def am_nf : Nat → Nat := fun c => match c with
  | 0 => 12
  | 1 => 7
  | 2 => 9
  | 3 => 15
  | 4 => 5
  | 5 => 17
  | 6 => 9
  | 7 => 11
  | 8 => 15
  | 9 => 15
  | 10 => 15
  | _ => 9
/-- 0 int, 1 long, 2 reference, 3 boolean -/
def am_tc (t : FieldType) : Nat := match t with
  | .int => 0
  | .long => 1
  | .boolean => 3
  | .byte => 4
  | .object _ => 2
  | .array _ => 2
  | _ => 9
def am_fty (c k : Nat) : Nat := if c = 50 then (if k = 0 then 2 else 0) else am_tc (am_tyf c k)
abbrev am_cl : List vw_C := [(RX0, TX0, 12), (RX1, TX1, 7), (RX2, TX2, 9), (RX3, TX3, 15), (RX4, TX4, 5), (RX5, TX5, 17), (RX6, TX6, 9), (RX7, TX7, 11), (RX8, TX8, 15), (RX9, TX9, 15), (RX10, TX10, 15), (RX11, TX11, 9)]
theorem am_cl_at : ∀ c, c < 12 → am_cl[c]? = some (am_C c, am_T c, am_nf c)
  | 0, _ => rfl
  | 1, _ => rfl
  | 2, _ => rfl
  | 3, _ => rfl
  | 4, _ => rfl
  | 5, _ => rfl
  | 6, _ => rfl
  | 7, _ => rfl
  | 8, _ => rfl
  | 9, _ => rfl
  | 10, _ => rfl
  | 11, _ => rfl
  | _ + 12, h => absurd h (by omega)
theorem am_cl_nm : ∀ c, c < 12 → ∀ a, a < am_nf c → ∀ b, b < am_nf c → a ≠ b → (am_T c a).2.1 ≠ (am_T c b).2.1
  | 0, _ => am_nm0
  | 1, _ => am_nm1
  | 2, _ => am_nm2
  | 3, _ => am_nm3
  | 4, _ => am_nm4
  | 5, _ => am_nm5
  | 6, _ => am_nm6
  | 7, _ => am_nm7
  | 8, _ => am_nm8
  | 9, _ => am_nm9
  | 10, _ => am_nm10
  | 11, _ => am_nm11
  | _ + 12, h => absurd h (by omega)
theorem am_cl_ty : ∀ c, c < 12 → ∀ k, k < am_nf c → parseFieldDescriptor (am_T c k).2.2.1 = some (am_tyf c k)
  | 0, _ => am_ty0
  | 1, _ => am_ty1
  | 2, _ => am_ty2
  | 3, _ => am_ty3
  | 4, _ => am_ty4
  | 5, _ => am_ty5
  | 6, _ => am_ty6
  | 7, _ => am_ty7
  | 8, _ => am_ty8
  | 9, _ => am_ty9
  | 10, _ => am_ty10
  | 11, _ => am_ty11
  | _ + 12, h => absurd h (by omega)
theorem am_cl_in : ∀ c, c < 12 → ∀ w ∈ u_ws (am_C c) (am_T c) (am_nf c), w ∈ lw_tblG
  | 0, _ => am_in0
  | 1, _ => am_in1
  | 2, _ => am_in2
  | 3, _ => am_in3
  | 4, _ => am_in4
  | 5, _ => am_in5
  | 6, _ => am_in6
  | 7, _ => am_in7
  | 8, _ => am_in8
  | 9, _ => am_in9
  | 10, _ => am_in10
  | 11, _ => am_in11
  | _ + 12, h => absurd h (by omega)
theorem am_cl_tc : ∀ c, c < 12 → ∀ k, k < am_nf c → am_tyf c k = .int ∨ am_tyf c k = .long ∨ am_tyf c k = .boolean ∨ (∃ t, am_tyf c k = .object t) ∨ ∃ t, am_tyf c k = .array t
  | 0, _ => am_tcl0
  | 1, _ => am_tcl1
  | 2, _ => am_tcl2
  | 3, _ => am_tcl3
  | 4, _ => am_tcl4
  | 5, _ => am_tcl5
  | 6, _ => am_tcl6
  | 7, _ => am_tcl7
  | 8, _ => am_tcl8
  | 9, _ => am_tcl9
  | 10, _ => am_tcl10
  | 11, _ => am_tcl11
  | _ + 12, h => absurd h (by omega)
