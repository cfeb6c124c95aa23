def RX0 : String := "MeanMan$Acts"
def TX0 : u_T := fun k => match k with
  | 0 => ("MeanMan$Acts", "remembered", "I", false)
  | 1 => ("MeanMan$Acts", "next", "I", false)
  | _ => ("MeanMan$Acts", "halls", "[LMeanMan$Hall;", true)
def tyX0 : Nat → FieldType := fun k => match k with
  | 0 => .int
  | 1 => .int
  | _ => .array (.object "MeanMan$Hall")
abbrev wsX00 : List Cond := u_ws RX0 TX0 3
theorem nmX0 : ∀ a, a < 3 → ∀ b, b < 3 → a ≠ b → (TX0 a).2.1 ≠ (TX0 b).2.1 := by decide +kernel
theorem tyX0_ok : ∀ k, k < 3 → parseFieldDescriptor (TX0 k).2.2.1 = some (tyX0 k) := by decide +kernel
def RX1 : String := "MeanMan$Bag"
def TX1 : u_T := fun k => match k with
  | 0 => ("MeanMan$Bag", "size", "I", false)
  | 1 => ("MeanMan$Bag", "sum", "I", false)
  | 2 => ("MeanMan$Bag", "weights", "I", false)
  | 3 => ("MeanMan$Bag", "weighted", "I", false)
  | 4 => ("MeanMan$Bag", "sorted", "[I", true)
  | _ => ("MeanMan$Bag", "fitted", "[[I", true)
def tyX1 : Nat → FieldType := fun k => match k with
  | 0 => .int
  | 1 => .int
  | 2 => .int
  | 3 => .int
  | 4 => .array .int
  | _ => .array (.array .int)
abbrev wsX10 : List Cond := u_ws RX1 TX1 6
theorem nmX1 : ∀ a, a < 6 → ∀ b, b < 6 → a ≠ b → (TX1 a).2.1 ≠ (TX1 b).2.1 := by decide +kernel
theorem tyX1_ok : ∀ k, k < 6 → parseFieldDescriptor (TX1 k).2.2.1 = some (tyX1 k) := by decide +kernel
def RX2 : String := "MeanMan$Hall"
def TX2 : u_T := fun k => match k with
  | 0 => ("MeanMan$Hall", "people", "I", false)
  | 1 => ("MeanMan$Hall", "numbers", "[I", true)
  | 2 => ("MeanMan$Hall", "weights", "[I", true)
  | 3 => ("MeanMan$Hall", "stubbornBits", "I", false)
  | 4 => ("MeanMan$Hall", "rules", "[I", true)
  | 5 => ("MeanMan$Hall", "man", "[I", true)
  | 6 => ("MeanMan$Hall", "strike", "I", false)
  | 7 => ("MeanMan$Hall", "day", "I", false)
  | 8 => ("MeanMan$Hall", "seed", "I", false)
  | 9 => ("MeanMan$Hall", "texts", "I", false)
  | _ => ("MeanMan$Hall", "log", "LMeanMan$Log;", true)
def tyX2 : Nat → FieldType := fun k => match k with
  | 0 => .int
  | 1 => .array .int
  | 2 => .array .int
  | 3 => .int
  | 4 => .array .int
  | 5 => .array .int
  | 6 => .int
  | 7 => .int
  | 8 => .int
  | 9 => .int
  | _ => .object "MeanMan$Log"
abbrev wsX20 : List Cond := u_ws RX2 TX2 11
theorem nmX2 : ∀ a, a < 11 → ∀ b, b < 11 → a ≠ b → (TX2 a).2.1 ≠ (TX2 b).2.1 := by decide +kernel
theorem tyX2_ok : ∀ k, k < 11 → parseFieldDescriptor (TX2 k).2.2.1 = some (tyX2 k) := by decide +kernel
def RX3 : String := "MeanMan$HallText"
def TX3 : u_T := fun k => match k with
  | 0 => ("MeanMan$Lines", "tape", "LMeanMan$Tape;", true)
  | 1 => ("MeanMan$Lines", "taken", "I", false)
  | 2 => ("MeanMan$HallText", "told", "LMeanMan$Hall;", true)
  | _ => ("MeanMan$HallText", "four", "[I", true)
def tyX3 : Nat → FieldType := fun k => match k with
  | 0 => .object "MeanMan$Tape"
  | 1 => .int
  | 2 => .object "MeanMan$Hall"
  | _ => .array .int
abbrev wsX30 : List Cond := u_ws RX3 TX3 4
theorem nmX3 : ∀ a, a < 4 → ∀ b, b < 4 → a ≠ b → (TX3 a).2.1 ≠ (TX3 b).2.1 := by decide +kernel
theorem tyX3_ok : ∀ k, k < 4 → parseFieldDescriptor (TX3 k).2.2.1 = some (tyX3 k) := by decide +kernel
def RX4 : String := "MeanMan$Law"
def TX4 : u_T := fun k => match k with
  | 0 => ("MeanMan$Law", "told", "Z", false)
  | 1 => ("MeanMan$Law", "lines", "I", false)
  | 2 => ("MeanMan$Law", "length", "I", false)
  | 3 => ("MeanMan$Law", "ways", "[I", true)
  | 4 => ("MeanMan$Law", "steps", "[I", true)
  | 5 => ("MeanMan$Law", "ends", "[I", true)
  | 6 => ("MeanMan$Law", "signs", "[I", true)
  | 7 => ("MeanMan$Law", "parts", "[I", true)
  | _ => ("MeanMan$Law", "stack", "[I", true)
def tyX4 : Nat → FieldType := fun k => match k with
  | 0 => .boolean
  | 1 => .int
  | 2 => .int
  | 3 => .array .int
  | 4 => .array .int
  | 5 => .array .int
  | 6 => .array .int
  | 7 => .array .int
  | _ => .array .int
abbrev wsX40 : List Cond := u_ws RX4 TX4 9
theorem nmX4 : ∀ a, a < 9 → ∀ b, b < 9 → a ≠ b → (TX4 a).2.1 ≠ (TX4 b).2.1 := by decide +kernel
theorem tyX4_ok : ∀ k, k < 9 → parseFieldDescriptor (TX4 k).2.2.1 = some (tyX4 k) := by decide +kernel
def RX5 : String := "MeanMan$LawText"
def TX5 : u_T := fun k => match k with
  | 0 => ("MeanMan$Lines", "tape", "LMeanMan$Tape;", true)
  | 1 => ("MeanMan$Lines", "taken", "I", false)
  | _ => ("MeanMan$LawText", "told", "LMeanMan$Law;", true)
def tyX5 : Nat → FieldType := fun k => match k with
  | 0 => .object "MeanMan$Tape"
  | 1 => .int
  | _ => .object "MeanMan$Law"
abbrev wsX50 : List Cond := u_ws RX5 TX5 3
theorem nmX5 : ∀ a, a < 3 → ∀ b, b < 3 → a ≠ b → (TX5 a).2.1 ≠ (TX5 b).2.1 := by decide +kernel
theorem tyX5_ok : ∀ k, k < 3 → parseFieldDescriptor (TX5 k).2.2.1 = some (tyX5 k) := by decide +kernel
def RX6 : String := "MeanMan$Lines"
def TX6 : u_T := fun k => match k with
  | _ => ("", "", "", false)
def tyX6 : Nat → FieldType := fun k => match k with
  | _ => .int
abbrev wsX60 : List Cond := u_ws RX6 TX6 0
theorem nmX6 : ∀ a, a < 0 → ∀ b, b < 0 → a ≠ b → (TX6 a).2.1 ≠ (TX6 b).2.1 := by decide +kernel
theorem tyX6_ok : ∀ k, k < 0 → parseFieldDescriptor (TX6 k).2.2.1 = some (tyX6 k) := by decide +kernel
def RX7 : String := "MeanMan$Log"
def TX7 : u_T := fun k => match k with
  | 0 => ("MeanMan$Log", "rows", "I", false)
  | 1 => ("MeanMan$Log", "latest", "I", false)
  | 2 => ("MeanMan$Log", "days", "[I", true)
  | 3 => ("MeanMan$Log", "men", "[I", true)
  | _ => ("MeanMan$Log", "changes", "[I", true)
def tyX7 : Nat → FieldType := fun k => match k with
  | 0 => .int
  | 1 => .int
  | 2 => .array .int
  | 3 => .array .int
  | _ => .array .int
abbrev wsX70 : List Cond := u_ws RX7 TX7 5
theorem nmX7 : ∀ a, a < 5 → ∀ b, b < 5 → a ≠ b → (TX7 a).2.1 ≠ (TX7 b).2.1 := by decide +kernel
theorem tyX7_ok : ∀ k, k < 5 → parseFieldDescriptor (TX7 k).2.2.1 = some (tyX7 k) := by decide +kernel
def RX8 : String := "MeanMan$Sets"
def TX8 : u_T := fun k => match k with
  | 0 => ("MeanMan$Sets", "hall", "LMeanMan$Hall;", true)
  | 1 => ("MeanMan$Sets", "bag", "LMeanMan$Bag;", true)
  | _ => ("MeanMan$Sets", "middles", "[I", true)
def tyX8 : Nat → FieldType := fun k => match k with
  | 0 => .object "MeanMan$Hall"
  | 1 => .object "MeanMan$Bag"
  | _ => .array .int
abbrev wsX80 : List Cond := u_ws RX8 TX8 3
theorem nmX8 : ∀ a, a < 3 → ∀ b, b < 3 → a ≠ b → (TX8 a).2.1 ≠ (TX8 b).2.1 := by decide +kernel
theorem tyX8_ok : ∀ k, k < 3 → parseFieldDescriptor (TX8 k).2.2.1 = some (tyX8 k) := by decide +kernel
def RX9 : String := "MeanMan$Shams"
def TX9 : u_T := fun k => match k with
  | 0 => ("MeanMan$Shams", "hall", "LMeanMan$Hall;", true)
  | 1 => ("MeanMan$Shams", "bag", "LMeanMan$Bag;", true)
  | _ => ("MeanMan$Shams", "pulled", "[I", true)
def tyX9 : Nat → FieldType := fun k => match k with
  | 0 => .object "MeanMan$Hall"
  | 1 => .object "MeanMan$Bag"
  | _ => .array .int
abbrev wsX90 : List Cond := u_ws RX9 TX9 3
theorem nmX9 : ∀ a, a < 3 → ∀ b, b < 3 → a ≠ b → (TX9 a).2.1 ≠ (TX9 b).2.1 := by decide +kernel
theorem tyX9_ok : ∀ k, k < 3 → parseFieldDescriptor (TX9 k).2.2.1 = some (tyX9 k) := by decide +kernel
def RX10 : String := "MeanMan$Tape"
def TX10 : u_T := fun k => match k with
  | 0 => ("MeanMan$Tape", "bytes", "[I", true)
  | 1 => ("MeanMan$Tape", "length", "I", false)
  | 2 => ("MeanMan$Tape", "thing", "I", false)
  | 3 => ("MeanMan$Tape", "begin", "I", false)
  | 4 => ("MeanMan$Tape", "behind", "I", false)
  | _ => ("MeanMan$Tape", "value", "I", false)
def tyX10 : Nat → FieldType := fun k => match k with
  | 0 => .array .int
  | 1 => .int
  | 2 => .int
  | 3 => .int
  | 4 => .int
  | _ => .int
abbrev wsX100 : List Cond := u_ws RX10 TX10 6
theorem nmX10 : ∀ a, a < 6 → ∀ b, b < 6 → a ≠ b → (TX10 a).2.1 ≠ (TX10 b).2.1 := by decide +kernel
theorem tyX10_ok : ∀ k, k < 6 → parseFieldDescriptor (TX10 k).2.2.1 = some (tyX10 k) := by decide +kernel
def RX11 : String := "MeanMan"
def TX11 : u_T := fun k => match k with
  | 0 => ("MeanMan", "tape", "LMeanMan$Tape;", true)
  | 1 => ("MeanMan", "hall", "LMeanMan$Hall;", true)
  | 2 => ("MeanMan", "law", "LMeanMan$Law;", true)
  | 3 => ("MeanMan", "acts", "LMeanMan$Acts;", true)
  | 4 => ("MeanMan", "keptHall", "LMeanMan$Hall;", true)
  | 5 => ("MeanMan", "keptLaw", "LMeanMan$Law;", true)
  | 6 => ("MeanMan", "draft", "LMeanMan$Hall;", true)
  | 7 => ("MeanMan", "later", "LMeanMan$Hall;", true)
  | 8 => ("MeanMan", "draftLaw", "LMeanMan$Law;", true)
  | 9 => ("MeanMan", "hallText", "LMeanMan$HallText;", true)
  | 10 => ("MeanMan", "lawText", "LMeanMan$LawText;", true)
  | 11 => ("MeanMan", "bag", "LMeanMan$Bag;", true)
  | 12 => ("MeanMan", "shams", "LMeanMan$Shams;", true)
  | 13 => ("MeanMan", "sets", "LMeanMan$Sets;", true)
  | 14 => ("MeanMan", "kept", "Z", false)
  | _ => ("MeanMan", "wrongByte", "I", false)
def tyX11 : Nat → FieldType := fun k => match k with
  | 0 => .object "MeanMan$Tape"
  | 1 => .object "MeanMan$Hall"
  | 2 => .object "MeanMan$Law"
  | 3 => .object "MeanMan$Acts"
  | 4 => .object "MeanMan$Hall"
  | 5 => .object "MeanMan$Law"
  | 6 => .object "MeanMan$Hall"
  | 7 => .object "MeanMan$Hall"
  | 8 => .object "MeanMan$Law"
  | 9 => .object "MeanMan$HallText"
  | 10 => .object "MeanMan$LawText"
  | 11 => .object "MeanMan$Bag"
  | 12 => .object "MeanMan$Shams"
  | 13 => .object "MeanMan$Sets"
  | 14 => .boolean
  | _ => .int
abbrev wsX110 : List Cond := u_ws RX11 TX11 16
theorem nmX11 : ∀ a, a < 16 → ∀ b, b < 16 → a ≠ b → (TX11 a).2.1 ≠ (TX11 b).2.1 := by decide +kernel
theorem tyX11_ok : ∀ k, k < 16 → parseFieldDescriptor (TX11 k).2.2.1 = some (tyX11 k) := by decide +kernel
def RX12 : String := "MeanManModel"
def TX12 : u_T := fun k => match k with
  | 0 => ("MeanManModel", "thrown", "I", false)
  | 1 => ("MeanManModel", "world", "[I", true)
  | 2 => ("MeanManModel", "image", "[I", true)
  | 3 => ("MeanManModel", "before", "[I", true)
  | 4 => ("MeanManModel", "trial", "[I", true)
  | 5 => ("MeanManModel", "acts", "[I", true)
  | 6 => ("MeanManModel", "hasImage", "Z", false)
  | 7 => ("MeanManModel", "remembered", "I", false)
  | 8 => ("MeanManModel", "tape", "[B", true)
  | 9 => ("MeanManModel", "taped", "I", false)
  | 10 => ("MeanManModel", "point", "I", false)
  | 11 => ("MeanManModel", "end", "I", false)
  | 12 => ("MeanManModel", "begin", "I", false)
  | 13 => ("MeanManModel", "deep", "I", false)
  | 14 => ("MeanManModel", "faultAt", "I", false)
  | 15 => ("MeanManModel", "five", "[I", true)
  | 16 => ("MeanManModel", "steps", "I", false)
  | 17 => ("MeanManModel", "row", "[I", true)
  | 18 => ("MeanManModel", "sorted", "[I", true)
  | 19 => ("MeanManModel", "many", "I", false)
  | 20 => ("MeanManModel", "value", "[I", true)
  | 21 => ("MeanManModel", "states", "[I", true)
  | _ => ("MeanManModel", "fit", "[I", true)
def tyX12 : Nat → FieldType := fun k => match k with
  | 0 => .int
  | 1 => .array .int
  | 2 => .array .int
  | 3 => .array .int
  | 4 => .array .int
  | 5 => .array .int
  | 6 => .boolean
  | 7 => .int
  | 8 => .array .byte
  | 9 => .int
  | 10 => .int
  | 11 => .int
  | 12 => .int
  | 13 => .int
  | 14 => .int
  | 15 => .array .int
  | 16 => .int
  | 17 => .array .int
  | 18 => .array .int
  | 19 => .int
  | 20 => .array .int
  | 21 => .array .int
  | _ => .array .int
abbrev wsX120 : List Cond := u_ws RX12 TX12 23
theorem nmX12 : ∀ a, a < 23 → ∀ b, b < 23 → a ≠ b → (TX12 a).2.1 ≠ (TX12 b).2.1 := by decide +kernel
theorem tyX12_ok : ∀ k, k < 23 → parseFieldDescriptor (TX12 k).2.2.1 = some (tyX12 k) := by decide +kernel
abbrev mCl : List vw_C := [(RX0, TX0, 3), (RX1, TX1, 6), (RX2, TX2, 11), (RX3, TX3, 4), (RX4, TX4, 9), (RX5, TX5, 3), (RX6, TX6, 0), (RX7, TX7, 5), (RX8, TX8, 3), (RX9, TX9, 3), (RX10, TX10, 6), (RX11, TX11, 16), (RX12, TX12, 23)]
