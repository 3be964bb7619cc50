def RX1 : String := "NeedleShop$Law"
def TX1 : u_T := fun k => match k with
  | 0 => ("NeedleShop$Law", "lines", "I", false)
  | 1 => ("NeedleShop$Law", "steps", "I", false)
  | 2 => ("NeedleShop$Law", "verbs", "[I", true)
  | 3 => ("NeedleShop$Law", "amounts", "[I", true)
  | 4 => ("NeedleShop$Law", "ends", "[I", true)
  | 5 => ("NeedleShop$Law", "code", "[I", true)
  | 6 => ("NeedleShop$Law", "facts", "[I", true)
  | _ => ("NeedleShop$Law", "stack", "[I", true)
def tyX1 : Nat → FieldType := fun k => match k with
  | 0 => .int
  | 1 => .int
  | 2 => .array .int
  | 3 => .array .int
  | 4 => .array .int
  | 5 => .array .int
  | 6 => .array .int
  | _ => .array .int
abbrev wsX10 : List Cond := u_ws RX1 TX1 8
def RX4 : String := "NeedleShop$Past"
def TX4 : u_T := fun k => match k with
  | 0 => ("NeedleShop$Past", "states", "[LNeedleShop$State;", true)
  | 1 => ("NeedleShop$Past", "next", "I", false)
  | _ => ("NeedleShop$Past", "size", "I", false)
def tyX4 : Nat → FieldType := fun k => match k with
  | 0 => .array (.object "NeedleShop$State")
  | 1 => .int
  | _ => .int
abbrev wsX40 : List Cond := u_ws RX4 TX4 3
def RX5 : String := "NeedleShop$Planner"
def TX5 : u_T := fun k => match k with
  | _ => ("NeedleShop$Planner", "best", "[I", true)
def tyX5 : Nat → FieldType := fun k => match k with
  | _ => .array .int
abbrev wsX50 : List Cond := u_ws RX5 TX5 1
def RX8 : String := "NeedleShop$State"
def TX8 : u_T := fun k => match k with
  | 0 => ("NeedleShop$State", "marks", "[I", true)
  | 1 => ("NeedleShop$State", "tells", "[I", true)
  | 2 => ("NeedleShop$State", "holds", "[I", true)
  | 3 => ("NeedleShop$State", "under", "[I", true)
  | 4 => ("NeedleShop$State", "rubbed", "[I", true)
  | 5 => ("NeedleShop$State", "age", "[I", true)
  | 6 => ("NeedleShop$State", "luck", "[I", true)
  | 7 => ("NeedleShop$State", "done", "[I", true)
  | 8 => ("NeedleShop$State", "fame", "[I", true)
  | 9 => ("NeedleShop$State", "rows", "[I", true)
  | 10 => ("NeedleShop$State", "people", "I", false)
  | 11 => ("NeedleShop$State", "shake", "I", false)
  | 12 => ("NeedleShop$State", "year", "I", false)
  | 13 => ("NeedleShop$State", "purse", "I", false)
  | 14 => ("NeedleShop$State", "seed", "I", false)
  | 15 => ("NeedleShop$State", "texts", "I", false)
  | 16 => ("NeedleShop$State", "rowCount", "I", false)
  | _ => ("NeedleShop$State", "nextRow", "I", false)
def tyX8 : Nat → FieldType := fun k => match k with
  | 0 => .array .int
  | 1 => .array .int
  | 2 => .array .int
  | 3 => .array .int
  | 4 => .array .int
  | 5 => .array .int
  | 6 => .array .int
  | 7 => .array .int
  | 8 => .array .int
  | 9 => .array .int
  | 10 => .int
  | 11 => .int
  | 12 => .int
  | 13 => .int
  | 14 => .int
  | 15 => .int
  | 16 => .int
  | _ => .int
abbrev wsX80 : List Cond := u_ws RX8 TX8 18
def RX9 : String := "NeedleShop$Tape"
def TX9 : u_T := fun k => match k with
  | 0 => ("NeedleShop$Tape", "bytes", "[I", true)
  | 1 => ("NeedleShop$Tape", "size", "I", false)
  | 2 => ("NeedleShop$Tape", "length", "I", false)
  | 3 => ("NeedleShop$Tape", "at", "I", false)
  | _ => ("NeedleShop$Tape", "wrong", "I", false)
def tyX9 : Nat → FieldType := fun k => match k with
  | 0 => .array .int
  | 1 => .int
  | 2 => .int
  | 3 => .int
  | _ => .int
abbrev wsX90 : List Cond := u_ws RX9 TX9 5
def RX10 : String := "NeedleShop"
def TX10 : u_T := fun k => match k with
  | 0 => ("NeedleShop", "tape", "LNeedleShop$Tape;", true)
  | 1 => ("NeedleShop", "fault", "I", false)
  | 2 => ("NeedleShop", "state", "LNeedleShop$State;", true)
  | 3 => ("NeedleShop", "spare", "LNeedleShop$State;", true)
  | 4 => ("NeedleShop", "kept", "LNeedleShop$State;", true)
  | 5 => ("NeedleShop", "law", "LNeedleShop$Law;", true)
  | 6 => ("NeedleShop", "spareLaw", "LNeedleShop$Law;", true)
  | 7 => ("NeedleShop", "keptLaw", "LNeedleShop$Law;", true)
  | 8 => ("NeedleShop", "isKept", "Z", false)
  | 9 => ("NeedleShop", "past", "LNeedleShop$Past;", true)
  | _ => ("NeedleShop", "planner", "LNeedleShop$Planner;", true)
def tyX10 : Nat → FieldType := fun k => match k with
  | 0 => .object "NeedleShop$Tape"
  | 1 => .int
  | 2 => .object "NeedleShop$State"
  | 3 => .object "NeedleShop$State"
  | 4 => .object "NeedleShop$State"
  | 5 => .object "NeedleShop$Law"
  | 6 => .object "NeedleShop$Law"
  | 7 => .object "NeedleShop$Law"
  | 8 => .boolean
  | 9 => .object "NeedleShop$Past"
  | _ => .object "NeedleShop$Planner"
abbrev wsX100 : List Cond := u_ws RX10 TX10 11
def RX11 : String := "NeedleShopModel"
def TX11 : u_T := fun k => match k with
  | 0 => ("NeedleShopModel", "thrown", "I", false)
  | 1 => ("NeedleShopModel", "m", "[I", true)
  | 2 => ("NeedleShopModel", "kept", "[I", true)
  | 3 => ("NeedleShopModel", "hasImage", "Z", false)
  | 4 => ("NeedleShopModel", "aside", "[I", true)
  | 5 => ("NeedleShopModel", "acts", "[I", true)
  | 6 => ("NeedleShopModel", "acted", "I", false)
  | 7 => ("NeedleShopModel", "tape", "[I", true)
  | 8 => ("NeedleShopModel", "taped", "I", false)
  | 9 => ("NeedleShopModel", "base", "I", false)
  | 10 => ("NeedleShopModel", "end", "I", false)
  | 11 => ("NeedleShopModel", "at", "I", false)
  | 12 => ("NeedleShopModel", "fault", "I", false)
  | 13 => ("NeedleShopModel", "deep", "I", false)
  | 14 => ("NeedleShopModel", "fact", "[I", true)
  | 15 => ("NeedleShopModel", "isFound", "Z", false)
  | 16 => ("NeedleShopModel", "isKnown", "Z", false)
  | 17 => ("NeedleShopModel", "comes", "I", false)
  | 18 => ("NeedleShopModel", "fames", "I", false)
  | 19 => ("NeedleShopModel", "fits", "[Z", true)
  | 20 => ("NeedleShopModel", "berthed", "[I", true)
  | _ => ("NeedleShopModel", "best", "[I", true)
def tyX11 : Nat → FieldType := fun k => match k with
  | 0 => .int
  | 1 => .array .int
  | 2 => .array .int
  | 3 => .boolean
  | 4 => .array .int
  | 5 => .array .int
  | 6 => .int
  | 7 => .array .int
  | 8 => .int
  | 9 => .int
  | 10 => .int
  | 11 => .int
  | 12 => .int
  | 13 => .int
  | 14 => .array .int
  | 15 => .boolean
  | 16 => .boolean
  | 17 => .int
  | 18 => .int
  | 19 => .array .boolean
  | 20 => .array .int
  | _ => .array .int
abbrev wsX110 : List Cond := u_ws RX11 TX11 22
theorem nmX1 : ∀ a, a < 8 → ∀ b, b < 8 → a ≠ b → (TX1 a).2.1 ≠ (TX1 b).2.1 := by decide +kernel
theorem tyX1_ok : ∀ k, k < 8 → parseFieldDescriptor (TX1 k).2.2.1 = some (tyX1 k) := by decide +kernel
theorem nmX10 : ∀ a, a < 11 → ∀ b, b < 11 → a ≠ b → (TX10 a).2.1 ≠ (TX10 b).2.1 := by decide +kernel
theorem tyX10_ok : ∀ k, k < 11 → parseFieldDescriptor (TX10 k).2.2.1 = some (tyX10 k) := by decide +kernel
theorem nmX11 : ∀ a, a < 22 → ∀ b, b < 22 → a ≠ b → (TX11 a).2.1 ≠ (TX11 b).2.1 := by decide +kernel
theorem tyX11_ok : ∀ k, k < 22 → parseFieldDescriptor (TX11 k).2.2.1 = some (tyX11 k) := by decide +kernel
theorem nmX4 : ∀ a, a < 3 → ∀ b, b < 3 → a ≠ b → (TX4 a).2.1 ≠ (TX4 b).2.1 := by decide +kernel
theorem tyX4_ok : ∀ k, k < 3 → parseFieldDescriptor (TX4 k).2.2.1 = some (tyX4 k) := by decide +kernel
theorem nmX5 : ∀ a, a < 1 → ∀ b, b < 1 → a ≠ b → (TX5 a).2.1 ≠ (TX5 b).2.1 := by decide +kernel
theorem tyX5_ok : ∀ k, k < 1 → parseFieldDescriptor (TX5 k).2.2.1 = some (tyX5 k) := by decide +kernel
theorem nmX8 : ∀ a, a < 18 → ∀ b, b < 18 → a ≠ b → (TX8 a).2.1 ≠ (TX8 b).2.1 := by decide +kernel
theorem tyX8_ok : ∀ k, k < 18 → parseFieldDescriptor (TX8 k).2.2.1 = some (tyX8 k) := by decide +kernel
theorem nmX9 : ∀ a, a < 5 → ∀ b, b < 5 → a ≠ b → (TX9 a).2.1 ≠ (TX9 b).2.1 := by decide +kernel
theorem tyX9_ok : ∀ k, k < 5 → parseFieldDescriptor (TX9 k).2.2.1 = some (tyX9 k) := by decide +kernel
abbrev vwCl : List vw_C := [(RX1, TX1, 8), (RX4, TX4, 3), (RX5, TX5, 1), (RX8, TX8, 18), (RX9, TX9, 5), (RX10, TX10, 11), (RX11, TX11, 22)]
