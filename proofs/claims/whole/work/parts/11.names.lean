def RX0 : String := "EtaSeries$Leaf"
def TX0 : u_T := fun k => match k with
  | 0 => ("EtaSeries$Leaf", "items", "[J", true)
  | 1 => ("EtaSeries$Leaf", "held", "Z", false)
  | 2 => ("EtaSeries$Leaf", "lane", "I", false)
  | _ => ("EtaSeries$Leaf", "size", "I", false)
def tyX0 : Nat → FieldType := fun k => match k with
  | 0 => .array .long
  | 1 => .boolean
  | 2 => .int
  | _ => .int
theorem nmX0 : ∀ a, a < 4 → ∀ b, b < 4 → a ≠ b → (TX0 a).2.1 ≠ (TX0 b).2.1 := by decide +kernel
theorem tyX0_ok : ∀ k, k < 4 → parseFieldDescriptor (TX0 k).2.2.1 = some (tyX0 k) := by decide +kernel
def RX1 : String := "EtaSeries$Mill"
def TX1 : u_T := fun k => match k with
  | 0 => ("EtaSeries$Mill", "tape", "LEtaSeries$Tape;", true)
  | 1 => ("EtaSeries$Mill", "sums", "[LEtaSeries$Row;", true)
  | 2 => ("EtaSeries$Mill", "parts", "[LEtaSeries$Row;", true)
  | 3 => ("EtaSeries$Mill", "atoms", "[LEtaSeries$Row;", true)
  | 4 => ("EtaSeries$Mill", "joined", "LEtaSeries$Row;", true)
  | 5 => ("EtaSeries$Mill", "step", "LEtaSeries$Row;", true)
  | 6 => ("EtaSeries$Mill", "place", "I", false)
  | 7 => ("EtaSeries$Mill", "span", "I", false)
  | 8 => ("EtaSeries$Mill", "brackets", "I", false)
  | _ => ("EtaSeries$Mill", "letter", "I", false)
def tyX1 : Nat → FieldType := fun k => match k with
  | 0 => .object "EtaSeries$Tape"
  | 1 => .array (.object "EtaSeries$Row")
  | 2 => .array (.object "EtaSeries$Row")
  | 3 => .array (.object "EtaSeries$Row")
  | 4 => .object "EtaSeries$Row"
  | 5 => .object "EtaSeries$Row"
  | 6 => .int
  | 7 => .int
  | 8 => .int
  | _ => .int
theorem nmX1 : ∀ a, a < 10 → ∀ b, b < 10 → a ≠ b → (TX1 a).2.1 ≠ (TX1 b).2.1 := by decide +kernel
theorem tyX1_ok : ∀ k, k < 10 → parseFieldDescriptor (TX1 k).2.2.1 = some (tyX1 k) := by decide +kernel
def RX2 : String := "EtaSeries$Past"
def TX2 : u_T := fun k => match k with
  | 0 => ("EtaSeries$Past", "ring", "[LEtaSeries$Shelf;", true)
  | 1 => ("EtaSeries$Past", "held", "I", false)
  | _ => ("EtaSeries$Past", "next", "I", false)
def tyX2 : Nat → FieldType := fun k => match k with
  | 0 => .array (.object "EtaSeries$Shelf")
  | 1 => .int
  | _ => .int
theorem nmX2 : ∀ a, a < 3 → ∀ b, b < 3 → a ≠ b → (TX2 a).2.1 ≠ (TX2 b).2.1 := by decide +kernel
theorem tyX2_ok : ∀ k, k < 3 → parseFieldDescriptor (TX2 k).2.2.1 = some (tyX2 k) := by decide +kernel
def RX3 : String := "EtaSeries$Row"
def TX3 : u_T := fun k => match k with
  | 0 => ("EtaSeries$Row", "terms", "[I", true)
  | _ => ("EtaSeries$Row", "size", "I", false)
def tyX3 : Nat → FieldType := fun k => match k with
  | 0 => .array .int
  | _ => .int
theorem nmX3 : ∀ a, a < 2 → ∀ b, b < 2 → a ≠ b → (TX3 a).2.1 ≠ (TX3 b).2.1 := by decide +kernel
theorem tyX3_ok : ∀ k, k < 2 → parseFieldDescriptor (TX3 k).2.2.1 = some (tyX3 k) := by decide +kernel
def RX4 : String := "EtaSeries$Shelf"
def TX4 : u_T := fun k => match k with
  | 0 => ("EtaSeries$Shelf", "rows", "[LEtaSeries$Row;", true)
  | 1 => ("EtaSeries$Shelf", "span", "I", false)
  | _ => ("EtaSeries$Shelf", "draw", "I", false)
def tyX4 : Nat → FieldType := fun k => match k with
  | 0 => .array (.object "EtaSeries$Row")
  | 1 => .int
  | _ => .int
theorem nmX4 : ∀ a, a < 3 → ∀ b, b < 3 → a ≠ b → (TX4 a).2.1 ≠ (TX4 b).2.1 := by decide +kernel
theorem tyX4_ok : ∀ k, k < 3 → parseFieldDescriptor (TX4 k).2.2.1 = some (tyX4 k) := by decide +kernel
def RX5 : String := "EtaSeries$Tape"
def TX5 : u_T := fun k => match k with
  | 0 => ("EtaSeries$Tape", "letters", "[I", true)
  | 1 => ("EtaSeries$Tape", "size", "I", false)
  | 2 => ("EtaSeries$Tape", "place", "I", false)
  | 3 => ("EtaSeries$Tape", "open", "I", false)
  | 4 => ("EtaSeries$Tape", "signs", "[I", true)
  | 5 => ("EtaSeries$Tape", "values", "[I", true)
  | _ => ("EtaSeries$Tape", "signCount", "I", false)
def tyX5 : Nat → FieldType := fun k => match k with
  | 0 => .array .int
  | 1 => .int
  | 2 => .int
  | 3 => .int
  | 4 => .array .int
  | 5 => .array .int
  | _ => .int
theorem nmX5 : ∀ a, a < 7 → ∀ b, b < 7 → a ≠ b → (TX5 a).2.1 ≠ (TX5 b).2.1 := by decide +kernel
theorem tyX5_ok : ∀ k, k < 7 → parseFieldDescriptor (TX5 k).2.2.1 = some (tyX5 k) := by decide +kernel
def RX6 : String := "EtaSeries"
def TX6 : u_T := fun k => match k with
  | 0 => ("EtaSeries", "now", "LEtaSeries$Shelf;", true)
  | 1 => ("EtaSeries", "past", "LEtaSeries$Past;", true)
  | 2 => ("EtaSeries", "keptNow", "LEtaSeries$Shelf;", true)
  | 3 => ("EtaSeries", "keptPast", "LEtaSeries$Past;", true)
  | 4 => ("EtaSeries", "kept", "Z", false)
  | 5 => ("EtaSeries", "mill", "LEtaSeries$Mill;", true)
  | 6 => ("EtaSeries", "leaves", "[LEtaSeries$Leaf;", true)
  | 7 => ("EtaSeries", "made", "LEtaSeries$Row;", true)
  | _ => ("EtaSeries", "spare", "LEtaSeries$Row;", true)
def tyX6 : Nat → FieldType := fun k => match k with
  | 0 => .object "EtaSeries$Shelf"
  | 1 => .object "EtaSeries$Past"
  | 2 => .object "EtaSeries$Shelf"
  | 3 => .object "EtaSeries$Past"
  | 4 => .boolean
  | 5 => .object "EtaSeries$Mill"
  | 6 => .array (.object "EtaSeries$Leaf")
  | 7 => .object "EtaSeries$Row"
  | _ => .object "EtaSeries$Row"
theorem nmX6 : ∀ a, a < 9 → ∀ b, b < 9 → a ≠ b → (TX6 a).2.1 ≠ (TX6 b).2.1 := by decide +kernel
theorem tyX6_ok : ∀ k, k < 9 → parseFieldDescriptor (TX6 k).2.2.1 = some (tyX6 k) := by decide +kernel
def RX7 : String := "EtaSeriesModel"
def TX7 : u_T := fun k => match k with
  | 0 => ("EtaSeriesModel", "now", "[I", true)
  | 1 => ("EtaSeriesModel", "one", "[J", true)
  | 2 => ("EtaSeriesModel", "oneMany", "I", false)
  | 3 => ("EtaSeriesModel", "two", "[J", true)
  | 4 => ("EtaSeriesModel", "twoMany", "I", false)
  | 5 => ("EtaSeriesModel", "made", "[J", true)
  | 6 => ("EtaSeriesModel", "madeMany", "I", false)
  | 7 => ("EtaSeriesModel", "ahead", "[I", true)
  | 8 => ("EtaSeriesModel", "undos", "I", false)
  | 9 => ("EtaSeriesModel", "tape", "[I", true)
  | 10 => ("EtaSeriesModel", "taped", "I", false)
  | 11 => ("EtaSeriesModel", "place", "I", false)
  | 12 => ("EtaSeriesModel", "whyBrackets", "I", false)
  | 13 => ("EtaSeriesModel", "whyLetter", "I", false)
  | 14 => ("EtaSeriesModel", "atomKind", "I", false)
  | 15 => ("EtaSeriesModel", "atomNumber", "I", false)
  | 16 => ("EtaSeriesModel", "sums", "[J", true)
  | 17 => ("EtaSeriesModel", "parts", "[J", true)
  | 18 => ("EtaSeriesModel", "sumBy", "[I", true)
  | 19 => ("EtaSeriesModel", "partBy", "[I", true)
  | 20 => ("EtaSeriesModel", "level", "I", false)
  | 21 => ("EtaSeriesModel", "kept", "[I", true)
  | 22 => ("EtaSeriesModel", "keptAhead", "[I", true)
  | 23 => ("EtaSeriesModel", "keptUndos", "I", false)
  | 24 => ("EtaSeriesModel", "lanes", "[I", true)
  | 25 => ("EtaSeriesModel", "sizes", "[I", true)
  | 26 => ("EtaSeriesModel", "items", "[J", true)
  | _ => ("EtaSeriesModel", "moved", "[J", true)
def tyX7 : Nat → FieldType := fun k => match k with
  | 0 => .array .int
  | 1 => .array .long
  | 2 => .int
  | 3 => .array .long
  | 4 => .int
  | 5 => .array .long
  | 6 => .int
  | 7 => .array .int
  | 8 => .int
  | 9 => .array .int
  | 10 => .int
  | 11 => .int
  | 12 => .int
  | 13 => .int
  | 14 => .int
  | 15 => .int
  | 16 => .array .long
  | 17 => .array .long
  | 18 => .array .int
  | 19 => .array .int
  | 20 => .int
  | 21 => .array .int
  | 22 => .array .int
  | 23 => .int
  | 24 => .array .int
  | 25 => .array .int
  | 26 => .array .long
  | _ => .array .long
theorem nmX7 : ∀ a, a < 28 → ∀ b, b < 28 → a ≠ b → (TX7 a).2.1 ≠ (TX7 b).2.1 := by decide +kernel
theorem tyX7_ok : ∀ k, k < 28 → parseFieldDescriptor (TX7 k).2.2.1 = some (tyX7 k) := by decide +kernel
abbrev vwCl : List vw_C := [(RX0, TX0, 4), (RX1, TX1, 10), (RX2, TX2, 3), (RX3, TX3, 2), (RX4, TX4, 3), (RX5, TX5, 7), (RX6, TX6, 9), (RX7, TX7, 28)]
