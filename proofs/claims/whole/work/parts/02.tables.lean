/-! classes: names, fields by slot; printed by gen.py -/
def AF0 : u_T := fun k => match k with
  | 0 => ("CurveRooms$Adder", "rows", "LCurveRooms$Rows;", true)
  | 1 => ("CurveRooms$Adder", "onCurve", "LCurveRooms$Curve;", true)
  | 2 => ("CurveRooms$Adder", "u", "LCurveRooms$Row;", true)
  | 3 => ("CurveRooms$Adder", "v", "LCurveRooms$Row;", true)
  | 4 => ("CurveRooms$Adder", "first", "LCurveRooms$Row;", true)
  | 5 => ("CurveRooms$Adder", "second", "LCurveRooms$Row;", true)
  | 6 => ("CurveRooms$Adder", "common", "LCurveRooms$Row;", true)
  | 7 => ("CurveRooms$Adder", "work", "LCurveRooms$Row;", true)
  | 8 => ("CurveRooms$Adder", "more", "LCurveRooms$Row;", true)
  | 9 => ("CurveRooms$Adder", "base", "LCurveRooms$Pair;", true)
  | _ => ("CurveRooms$Adder", "walked", "LCurveRooms$Pair;", true)
def AT0 : Nat → FieldType := fun k => match k with
  | 0 => .object "CurveRooms$Rows"
  | 1 => .object "CurveRooms$Curve"
  | 2 => .object "CurveRooms$Row"
  | 3 => .object "CurveRooms$Row"
  | 4 => .object "CurveRooms$Row"
  | 5 => .object "CurveRooms$Row"
  | 6 => .object "CurveRooms$Row"
  | 7 => .object "CurveRooms$Row"
  | 8 => .object "CurveRooms$Row"
  | 9 => .object "CurveRooms$Pair"
  | _ => .object "CurveRooms$Pair"
theorem am_nm0 : ∀ a, a < 11 → ∀ b, b < 11 → a ≠ b → (AF0 a).2.1 ≠ (AF0 b).2.1 := by decide +kernel
theorem am_ty0 : ∀ k, k < 11 → parseFieldDescriptor (AF0 k).2.2.1 = some (AT0 k) := by decide +kernel
def AF1 : u_T := fun k => match k with
  | 0 => ("CurveRooms$Code", "rows", "LCurveRooms$Rows;", true)
  | 1 => ("CurveRooms$Code", "onCurve", "LCurveRooms$Curve;", true)
  | 2 => ("CurveRooms$Code", "told", "[I", true)
  | 3 => ("CurveRooms$Code", "words", "[[I", true)
  | 4 => ("CurveRooms$Code", "cleared", "[[I", true)
  | 5 => ("CurveRooms$Code", "poles", "[I", true)
  | 6 => ("CurveRooms$Code", "pivots", "[I", true)
  | 7 => ("CurveRooms$Code", "left", "I", false)
  | 8 => ("CurveRooms$Code", "length", "I", false)
  | 9 => ("CurveRooms$Code", "found", "Z", false)
  | 10 => ("CurveRooms$Code", "digits", "[I", true)
  | 11 => ("CurveRooms$Code", "apart", "[I", true)
  | 12 => ("CurveRooms$Code", "tally", "[I", true)
  | 13 => ("CurveRooms$Code", "nearWidth", "I", false)
  | 14 => ("CurveRooms$Code", "nearDistance", "I", false)
  | _ => ("CurveRooms$Code", "nearDigits", "[I", true)
def AT1 : Nat → FieldType := fun k => match k with
  | 0 => .object "CurveRooms$Rows"
  | 1 => .object "CurveRooms$Curve"
  | 2 => .array .int
  | 3 => .array (.array .int)
  | 4 => .array (.array .int)
  | 5 => .array .int
  | 6 => .array .int
  | 7 => .int
  | 8 => .int
  | 9 => .boolean
  | 10 => .array .int
  | 11 => .array .int
  | 12 => .array .int
  | 13 => .int
  | 14 => .int
  | _ => .array .int
theorem am_nm1 : ∀ a, a < 16 → ∀ b, b < 16 → a ≠ b → (AF1 a).2.1 ≠ (AF1 b).2.1 := by decide +kernel
theorem am_ty1 : ∀ k, k < 16 → parseFieldDescriptor (AF1 k).2.2.1 = some (AT1 k) := by decide +kernel
def AF2 : u_T := fun k => match k with
  | _ => ("CurveRooms$Cover", "amounts", "[I", true)
def AT2 : Nat → FieldType := fun k => match k with
  | _ => .array .int
theorem am_nm2 : ∀ a, a < 1 → ∀ b, b < 1 → a ≠ b → (AF2 a).2.1 ≠ (AF2 b).2.1 := by decide +kernel
theorem am_ty2 : ∀ k, k < 1 → parseFieldDescriptor (AF2 k).2.2.1 = some (AT2 k) := by decide +kernel
def AF3 : u_T := fun k => match k with
  | 0 => ("CurveRooms$Curve", "rows", "LCurveRooms$Rows;", true)
  | 1 => ("CurveRooms$Curve", "f", "LCurveRooms$Row;", true)
  | 2 => ("CurveRooms$Curve", "derived", "LCurveRooms$Row;", true)
  | 3 => ("CurveRooms$Curve", "genus", "I", false)
  | 4 => ("CurveRooms$Curve", "pointMany", "I", false)
  | 5 => ("CurveRooms$Curve", "xs", "[I", true)
  | 6 => ("CurveRooms$Curve", "ys", "[I", true)
  | 7 => ("CurveRooms$Curve", "countedWide", "I", false)
  | 8 => ("CurveRooms$Curve", "wideRoots", "[I", true)
  | 9 => ("CurveRooms$Curve", "nonSquare", "I", false)
  | 10 => ("CurveRooms$Curve", "shares", "[J", true)
  | 11 => ("CurveRooms$Curve", "over", "[J", true)
  | 12 => ("CurveRooms$Curve", "found", "[J", true)
  | _ => ("CurveRooms$Curve", "classMany", "I", false)
def AT3 : Nat → FieldType := fun k => match k with
  | 0 => .object "CurveRooms$Rows"
  | 1 => .object "CurveRooms$Row"
  | 2 => .object "CurveRooms$Row"
  | 3 => .int
  | 4 => .int
  | 5 => .array .int
  | 6 => .array .int
  | 7 => .int
  | 8 => .array .int
  | 9 => .int
  | 10 => .array .long
  | 11 => .array .long
  | 12 => .array .long
  | _ => .int
theorem am_nm3 : ∀ a, a < 14 → ∀ b, b < 14 → a ≠ b → (AF3 a).2.1 ≠ (AF3 b).2.1 := by decide +kernel
theorem am_ty3 : ∀ k, k < 14 → parseFieldDescriptor (AF3 k).2.2.1 = some (AT3 k) := by decide +kernel
def AF4 : u_T := fun k => match k with
  | 0 => ("CurveRooms$Group", "adder", "LCurveRooms$Adder;", true)
  | 1 => ("CurveRooms$Group", "listing", "LCurveRooms$Listing;", true)
  | 2 => ("CurveRooms$Group", "orders", "[I", true)
  | 3 => ("CurveRooms$Group", "path", "[I", true)
  | 4 => ("CurveRooms$Group", "numbers", "[I", true)
  | 5 => ("CurveRooms$Group", "many", "I", false)
  | 6 => ("CurveRooms$Group", "found", "Z", false)
  | 7 => ("CurveRooms$Group", "start", "LCurveRooms$Pair;", true)
  | _ => ("CurveRooms$Group", "walked", "LCurveRooms$Pair;", true)
def AT4 : Nat → FieldType := fun k => match k with
  | 0 => .object "CurveRooms$Adder"
  | 1 => .object "CurveRooms$Listing"
  | 2 => .array .int
  | 3 => .array .int
  | 4 => .array .int
  | 5 => .int
  | 6 => .boolean
  | 7 => .object "CurveRooms$Pair"
  | _ => .object "CurveRooms$Pair"
theorem am_nm4 : ∀ a, a < 9 → ∀ b, b < 9 → a ≠ b → (AF4 a).2.1 ≠ (AF4 b).2.1 := by decide +kernel
theorem am_ty4 : ∀ k, k < 9 → parseFieldDescriptor (AF4 k).2.2.1 = some (AT4 k) := by decide +kernel
def AF5 : u_T := fun k => match k with
  | 0 => ("CurveRooms$Listing", "rows", "LCurveRooms$Rows;", true)
  | 1 => ("CurveRooms$Listing", "onCurve", "LCurveRooms$Curve;", true)
  | 2 => ("CurveRooms$Listing", "tokens", "[I", true)
  | 3 => ("CurveRooms$Listing", "many", "I", false)
  | 4 => ("CurveRooms$Listing", "line", "LCurveRooms$Row;", true)
  | _ => ("CurveRooms$Listing", "rest", "LCurveRooms$Row;", true)
def AT5 : Nat → FieldType := fun k => match k with
  | 0 => .object "CurveRooms$Rows"
  | 1 => .object "CurveRooms$Curve"
  | 2 => .array .int
  | 3 => .int
  | 4 => .object "CurveRooms$Row"
  | _ => .object "CurveRooms$Row"
theorem am_nm5 : ∀ a, a < 6 → ∀ b, b < 6 → a ≠ b → (AF5 a).2.1 ≠ (AF5 b).2.1 := by decide +kernel
theorem am_ty5 : ∀ k, k < 6 → parseFieldDescriptor (AF5 k).2.2.1 = some (AT5 k) := by decide +kernel
def AF6 : u_T := fun k => match k with
  | 0 => ("CurveRooms$Pair", "u", "LCurveRooms$Row;", true)
  | _ => ("CurveRooms$Pair", "v", "LCurveRooms$Row;", true)
def AT6 : Nat → FieldType := fun k => match k with
  | 0 => .object "CurveRooms$Row"
  | _ => .object "CurveRooms$Row"
theorem am_nm6 : ∀ a, a < 2 → ∀ b, b < 2 → a ≠ b → (AF6 a).2.1 ≠ (AF6 b).2.1 := by decide +kernel
theorem am_ty6 : ∀ k, k < 2 → parseFieldDescriptor (AF6 k).2.2.1 = some (AT6 k) := by decide +kernel
def AF7 : u_T := fun k => match k with
  | 0 => ("CurveRooms$Room", "adder", "LCurveRooms$Adder;", true)
  | 1 => ("CurveRooms$Room", "onCurve", "LCurveRooms$Curve;", true)
  | 2 => ("CurveRooms$Room", "amounts", "[I", true)
  | 3 => ("CurveRooms$Room", "single", "LCurveRooms$Pair;", true)
  | _ => ("CurveRooms$Room", "all", "LCurveRooms$Pair;", true)
def AT7 : Nat → FieldType := fun k => match k with
  | 0 => .object "CurveRooms$Adder"
  | 1 => .object "CurveRooms$Curve"
  | 2 => .array .int
  | 3 => .object "CurveRooms$Pair"
  | _ => .object "CurveRooms$Pair"
theorem am_nm7 : ∀ a, a < 5 → ∀ b, b < 5 → a ≠ b → (AF7 a).2.1 ≠ (AF7 b).2.1 := by decide +kernel
theorem am_ty7 : ∀ k, k < 5 → parseFieldDescriptor (AF7 k).2.2.1 = some (AT7 k) := by decide +kernel
def AF8 : u_T := fun k => match k with
  | 0 => ("CurveRooms$Row", "c", "[I", false)
  | _ => ("CurveRooms$Row", "degree", "I", false)
def AT8 : Nat → FieldType := fun k => match k with
  | 0 => .array .int
  | _ => .int
theorem am_nm8 : ∀ a, a < 2 → ∀ b, b < 2 → a ≠ b → (AF8 a).2.1 ≠ (AF8 b).2.1 := by decide +kernel
theorem am_ty8 : ∀ k, k < 2 → parseFieldDescriptor (AF8 k).2.2.1 = some (AT8 k) := by decide +kernel
def AF9 : u_T := fun k => match k with
  | 0 => ("CurveRooms$Rows", "p", "I", false)
  | 1 => ("CurveRooms$Rows", "inverses", "[I", true)
  | 2 => ("CurveRooms$Rows", "quotient", "LCurveRooms$Row;", true)
  | 3 => ("CurveRooms$Rows", "part", "LCurveRooms$Row;", true)
  | 4 => ("CurveRooms$Rows", "left", "LCurveRooms$Row;", true)
  | 5 => ("CurveRooms$Rows", "right", "LCurveRooms$Row;", true)
  | 6 => ("CurveRooms$Rows", "nextPart", "LCurveRooms$Row;", true)
  | 7 => ("CurveRooms$Rows", "nextLeft", "LCurveRooms$Row;", true)
  | _ => ("CurveRooms$Rows", "nextRight", "LCurveRooms$Row;", true)
def AT9 : Nat → FieldType := fun k => match k with
  | 0 => .int
  | 1 => .array .int
  | 2 => .object "CurveRooms$Row"
  | 3 => .object "CurveRooms$Row"
  | 4 => .object "CurveRooms$Row"
  | 5 => .object "CurveRooms$Row"
  | 6 => .object "CurveRooms$Row"
  | 7 => .object "CurveRooms$Row"
  | _ => .object "CurveRooms$Row"
theorem am_nm9 : ∀ a, a < 9 → ∀ b, b < 9 → a ≠ b → (AF9 a).2.1 ≠ (AF9 b).2.1 := by decide +kernel
theorem am_ty9 : ∀ k, k < 9 → parseFieldDescriptor (AF9 k).2.2.1 = some (AT9 k) := by decide +kernel
def AF10 : u_T := fun k => match k with
  | 0 => ("CurveRooms$Turns", "rows", "LCurveRooms$Rows;", true)
  | 1 => ("CurveRooms$Turns", "onCurve", "LCurveRooms$Curve;", true)
  | 2 => ("CurveRooms$Turns", "tokens", "[I", true)
  | 3 => ("CurveRooms$Turns", "many", "I", false)
  | 4 => ("CurveRooms$Turns", "found", "Z", false)
  | 5 => ("CurveRooms$Turns", "moved", "LCurveRooms$Row;", true)
  | _ => ("CurveRooms$Turns", "held", "LCurveRooms$Row;", true)
def AT10 : Nat → FieldType := fun k => match k with
  | 0 => .object "CurveRooms$Rows"
  | 1 => .object "CurveRooms$Curve"
  | 2 => .array .int
  | 3 => .int
  | 4 => .boolean
  | 5 => .object "CurveRooms$Row"
  | _ => .object "CurveRooms$Row"
theorem am_nm10 : ∀ a, a < 7 → ∀ b, b < 7 → a ≠ b → (AF10 a).2.1 ≠ (AF10 b).2.1 := by decide +kernel
theorem am_ty10 : ∀ k, k < 7 → parseFieldDescriptor (AF10 k).2.2.1 = some (AT10 k) := by decide +kernel
def AF11 : u_T := fun k => match k with
  | 0 => ("CurveRooms", "rows", "LCurveRooms$Rows;", true)
  | 1 => ("CurveRooms", "pushed", "[I", true)
  | 2 => ("CurveRooms", "pushedMany", "I", false)
  | 3 => ("CurveRooms", "candidate", "LCurveRooms$Row;", true)
  | 4 => ("CurveRooms", "onCurve", "LCurveRooms$Curve;", true)
  | 5 => ("CurveRooms", "adder", "LCurveRooms$Adder;", true)
  | 6 => ("CurveRooms", "registers", "[LCurveRooms$Pair;", true)
  | 7 => ("CurveRooms", "listing", "LCurveRooms$Listing;", true)
  | 8 => ("CurveRooms", "theGroup", "LCurveRooms$Group;", true)
  | 9 => ("CurveRooms", "theRoom", "LCurveRooms$Room;", true)
  | 10 => ("CurveRooms", "theCode", "LCurveRooms$Code;", true)
  | 11 => ("CurveRooms", "theTurns", "LCurveRooms$Turns;", true)
  | _ => ("CurveRooms", "theCover", "LCurveRooms$Cover;", true)
def AT11 : Nat → FieldType := fun k => match k with
  | 0 => .object "CurveRooms$Rows"
  | 1 => .array .int
  | 2 => .int
  | 3 => .object "CurveRooms$Row"
  | 4 => .object "CurveRooms$Curve"
  | 5 => .object "CurveRooms$Adder"
  | 6 => .array (.object "CurveRooms$Pair")
  | 7 => .object "CurveRooms$Listing"
  | 8 => .object "CurveRooms$Group"
  | 9 => .object "CurveRooms$Room"
  | 10 => .object "CurveRooms$Code"
  | 11 => .object "CurveRooms$Turns"
  | _ => .object "CurveRooms$Cover"
theorem am_nm11 : ∀ a, a < 13 → ∀ b, b < 13 → a ≠ b → (AF11 a).2.1 ≠ (AF11 b).2.1 := by decide +kernel
theorem am_ty11 : ∀ k, k < 13 → parseFieldDescriptor (AF11 k).2.2.1 = some (AT11 k) := by decide +kernel
def AF12 : u_T := fun k => match k with
  | 0 => ("CurveRoomsModel", "prime", "I", false)
  | 1 => ("CurveRoomsModel", "degree", "I", false)
  | 2 => ("CurveRoomsModel", "genus", "I", false)
  | 3 => ("CurveRoomsModel", "row", "[I", true)
  | 4 => ("CurveRoomsModel", "rowMany", "I", false)
  | 5 => ("CurveRoomsModel", "pointMany", "I", false)
  | 6 => ("CurveRoomsModel", "px", "[I", true)
  | 7 => ("CurveRoomsModel", "py", "[I", true)
  | 8 => ("CurveRoomsModel", "amounts", "[I", true)
  | 9 => ("CurveRoomsModel", "regs", "[I", true)
  | 10 => ("CurveRoomsModel", "told", "[I", true)
  | 11 => ("CurveRoomsModel", "covers", "[I", true)
  | 12 => ("CurveRoomsModel", "pool", "[I", true)
  | 13 => ("CurveRoomsModel", "deg", "[I", true)
  | 14 => ("CurveRoomsModel", "mean", "I", false)
  | 15 => ("CurveRoomsModel", "shares", "[J", true)
  | 16 => ("CurveRoomsModel", "powers", "[J", true)
  | 17 => ("CurveRoomsModel", "placesOf", "[J", true)
  | 18 => ("CurveRoomsModel", "list", "[I", true)
  | 19 => ("CurveRoomsModel", "listMany", "I", false)
  | 20 => ("CurveRoomsModel", "work", "[I", true)
  | 21 => ("CurveRoomsModel", "groups", "[J", true)
  | 22 => ("CurveRoomsModel", "groupMany", "I", false)
  | 23 => ("CurveRoomsModel", "killed", "[I", true)
  | 24 => ("CurveRoomsModel", "asked", "[I", true)
  | 25 => ("CurveRoomsModel", "lifts", "[I", true)
  | 26 => ("CurveRoomsModel", "xs", "[I", true)
  | 27 => ("CurveRoomsModel", "ys", "[I", true)
  | 28 => ("CurveRoomsModel", "series", "[I", true)
  | 29 => ("CurveRoomsModel", "product", "[I", true)
  | 30 => ("CurveRoomsModel", "expansions", "[I", true)
  | 31 => ("CurveRoomsModel", "matrix", "[I", true)
  | 32 => ("CurveRoomsModel", "rank", "I", false)
  | 33 => ("CurveRoomsModel", "folds", "[I", true)
  | 34 => ("CurveRoomsModel", "foldPower", "[I", true)
  | 35 => ("CurveRoomsModel", "codeWide", "I", false)
  | 36 => ("CurveRoomsModel", "codeLong", "I", false)
  | _ => ("CurveRoomsModel", "readings", "[I", true)
def AT12 : Nat → FieldType := fun k => match k with
  | 0 => .int
  | 1 => .int
  | 2 => .int
  | 3 => .array .int
  | 4 => .int
  | 5 => .int
  | 6 => .array .int
  | 7 => .array .int
  | 8 => .array .int
  | 9 => .array .int
  | 10 => .array .int
  | 11 => .array .int
  | 12 => .array .int
  | 13 => .array .int
  | 14 => .int
  | 15 => .array .long
  | 16 => .array .long
  | 17 => .array .long
  | 18 => .array .int
  | 19 => .int
  | 20 => .array .int
  | 21 => .array .long
  | 22 => .int
  | 23 => .array .int
  | 24 => .array .int
  | 25 => .array .int
  | 26 => .array .int
  | 27 => .array .int
  | 28 => .array .int
  | 29 => .array .int
  | 30 => .array .int
  | 31 => .array .int
  | 32 => .int
  | 33 => .array .int
  | 34 => .array .int
  | 35 => .int
  | 36 => .int
  | _ => .array .int
theorem am_nm12 : ∀ a, a < 38 → ∀ b, b < 38 → a ≠ b → (AF12 a).2.1 ≠ (AF12 b).2.1 := by decide +kernel
theorem am_ty12 : ∀ k, k < 38 → parseFieldDescriptor (AF12 k).2.2.1 = some (AT12 k) := by decide +kernel
abbrev classes : List vw_C := [("CurveRooms$Adder", AF0, 11), ("CurveRooms$Code", AF1, 16), ("CurveRooms$Cover", AF2, 1), ("CurveRooms$Curve", AF3, 14), ("CurveRooms$Group", AF4, 9), ("CurveRooms$Listing", AF5, 6), ("CurveRooms$Pair", AF6, 2), ("CurveRooms$Room", AF7, 5), ("CurveRooms$Row", AF8, 2), ("CurveRooms$Rows", AF9, 9), ("CurveRooms$Turns", AF10, 7), ("CurveRooms", AF11, 13), ("CurveRoomsModel", AF12, 38)]
def am_tyL : List (Nat → FieldType) := [AT0, AT1, AT2, AT3, AT4, AT5, AT6, AT7, AT8, AT9, AT10, AT11, AT12]
abbrev NMT : Nat := 248
abbrev LAWM : Nat := 247
def am_cn : List String := ["CurveRooms$Adder", "CurveRooms$Code", "CurveRooms$Cover", "CurveRooms$Curve", "CurveRooms$Group", "CurveRooms$Listing", "CurveRooms$Pair", "CurveRooms$Room", "CurveRooms$Row", "CurveRooms$Rows", "CurveRooms$Turns", "CurveRooms", "CurveRoomsModel", "CurveRoomsLaw", "java/lang/Math", "java/util/Arrays"]
abbrev En : Type := Nat × Instr × Nat × Nat × Nat × Int × Int × List Nat
/-! the cells, 1 on: kind (1 int[], 2 long[], 3 Pair[], 4 int[][], 10 and class number), length -/
def am_kd : List Int := [0, 21, 19, 1, 18, 1, 18, 1, 18, 1, 18, 1, 18, 1, 18, 1, 18, 1, 1, 18, 1, 13, 18, 1, 18, 1, 1, 1, 1, 2, 2, 2, 10, 18, 1, 18, 1, 18, 1, 18, 1, 18, 1, 18, 1, 18, 1, 16, 18, 1, 18, 1, 16, 18, 1, 18, 1, 3, 16, 18, 1, 18, 1, 16, 18, 1, 18, 1, 16, 18, 1, 18, 1, 16, 18, 1, 18, 1, 16, 18, 1, 18, 1, 16, 18, 1, 18, 1, 15, 1, 18, 1, 18, 1, 14, 1, 1, 1, 16, 18, 1, 18, 1, 16, 18, 1, 18, 1, 17, 1, 16, 18, 1, 18, 1, 16, 18, 1, 18, 1, 11, 1, 4, 1, 1, 1, 1, 1, 1, 1, 1, 1, 1, 1, 1, 1, 1, 1, 1, 1, 1, 1, 1, 1, 1, 1, 1, 1, 1, 4, 1, 1, 1, 1, 1, 1, 1, 1, 1, 1, 1, 1, 1, 1, 1, 1, 1, 1, 1, 1, 1, 1, 1, 1, 1, 1, 1, 1, 1, 1, 1, 1, 20, 1, 18, 1, 18, 1, 12, 1, 22, 1, 1, 1, 1, 1, 1, 1, 1, 1, 2, 2, 2, 1, 1, 2, 1, 1, 1, 1, 1, 1, 1, 1, 1, 1, 1, 1]
def am_ln : List Int := [0, 13, 9, 13, 2, 8, 2, 8, 2, 8, 2, 8, 2, 8, 2, 8, 2, 8, 6, 2, 8, 14, 2, 8, 2, 8, 27, 27, 169, 7, 7, 7, 11, 2, 8, 2, 8, 2, 8, 2, 8, 2, 8, 2, 8, 2, 8, 2, 2, 8, 2, 8, 2, 2, 8, 2, 8, 6, 2, 2, 8, 2, 8, 2, 2, 8, 2, 8, 2, 2, 8, 2, 8, 2, 2, 8, 2, 8, 2, 2, 8, 2, 8, 2, 2, 8, 2, 8, 6, 450, 2, 8, 2, 8, 9, 450, 450, 8, 2, 2, 8, 2, 8, 2, 2, 8, 2, 8, 5, 27, 2, 2, 8, 2, 8, 2, 2, 8, 2, 8, 16, 26, 26, 26, 26, 26, 26, 26, 26, 26, 26, 26, 26, 26, 26, 26, 26, 26, 26, 26, 26, 26, 26, 26, 26, 26, 26, 26, 26, 26, 26, 26, 26, 26, 26, 26, 26, 26, 26, 26, 26, 26, 26, 26, 26, 26, 26, 26, 26, 26, 26, 26, 26, 26, 26, 26, 26, 26, 26, 26, 13, 26, 7, 338, 2, 8, 2, 8, 1, 13, 38, 6, 32, 32, 32, 30, 26, 13, 960, 40, 5, 7, 7, 2600, 40, 4, 12, 32, 13, 10, 10, 10, 10, 2000, 36000, 6, 6, 832]
/-! methods: (class number, name, bytes, locals, answer, frames, room of locals, cells, slots) -/
abbrev Mt : Type := Nat × MethodName × ByteArray × Nat × Option FieldType × Nat × Nat × Nat × Nat
def am_mt0 : List Mt := [(8, ⟨"CurveRooms$Row", "<init>", "()V"⟩, prog_10_method_1_code, 1, none, 1, 21, 1, 8), (15, ⟨"java/util/Arrays", "fill", "([II)V"⟩, prog_16_method_103_code, 4, none, 0, 0, 0, 0), (8, ⟨"CurveRooms$Row", "clear", "()V"⟩, prog_10_method_4_code, 1, none, 1, 23, 0, 0), (8, ⟨"CurveRooms$Row", "settle", "(I)V"⟩, prog_10_method_9_code, 3, none, 0, 0, 0, 0), (8, ⟨"CurveRooms$Row", "put", "(II)V"⟩, prog_10_method_3_code, 3, none, 1, 22, 0, 0), (8, ⟨"CurveRooms$Row", "makeOne", "()V"⟩, prog_10_method_5_code, 1, none, 2, 44, 0, 0), (6, ⟨"CurveRooms$Pair", "<init>", "()V"⟩, prog_8_method_1_code, 1, none, 3, 64, 4, 20), (0, ⟨"CurveRooms$Adder", "<init>", "(LCurveRooms$Rows;LCurveRooms$Curve;)V"⟩, prog_2_method_1_code, 3, none, 4, 84, 24, 114), (6, ⟨"CurveRooms$Pair", "makeNought", "()V"⟩, prog_8_method_2_code, 1, none, 3, 64, 0, 0), (3, ⟨"CurveRooms$Curve", "xOf", "(I)I"⟩, prog_5_method_16_code, 2, (some .int), 0, 0, 0, 0), (9, ⟨"CurveRooms$Rows", "by", "(I)I"⟩, prog_11_method_3_code, 3, (some .int), 0, 0, 0, 0), (3, ⟨"CurveRooms$Curve", "yOf", "(I)I"⟩, prog_5_method_17_code, 2, (some .int), 0, 0, 0, 0), (0, ⟨"CurveRooms$Adder", "takePoint", "(LCurveRooms$Pair;I)V"⟩, prog_2_method_2_code, 3, none, 4, 84, 0, 0), (9, ⟨"CurveRooms$Rows", "addTimes", "(LCurveRooms$Row;LCurveRooms$Row;II)V"⟩, prog_11_method_6_code, 8, none, 1, 22, 0, 0), (9, ⟨"CurveRooms$Rows", "scale", "(LCurveRooms$Row;I)V"⟩, prog_11_method_9_code, 3, none, 2, 49, 0, 0), (0, ⟨"CurveRooms$Adder", "turnAbout", "(LCurveRooms$Pair;)V"⟩, prog_2_method_3_code, 2, none, 3, 71, 0, 0), (8, ⟨"CurveRooms$Row", "copy", "(LCurveRooms$Row;)V"⟩, prog_10_method_6_code, 3, none, 0, 0, 0, 0), (8, ⟨"CurveRooms$Row", "get", "(I)I"⟩, prog_10_method_2_code, 2, (some .int), 0, 0, 0, 0), (9, ⟨"CurveRooms$Rows", "inverse", "(I)I"⟩, prog_11_method_4_code, 2, (some .int), 0, 0, 0, 0), (9, ⟨"CurveRooms$Rows", "divide", "(LCurveRooms$Row;LCurveRooms$Row;)V"⟩, prog_11_method_10_code, 6, none, 2, 49, 0, 0), (9, ⟨"CurveRooms$Rows", "addProduct", "(LCurveRooms$Row;LCurveRooms$Row;LCurveRooms$Row;I)V"⟩, prog_11_method_7_code, 6, none, 2, 49, 0, 0), (8, ⟨"CurveRooms$Row", "swap", "(LCurveRooms$Row;)V"⟩, prog_10_method_7_code, 4, none, 0, 0, 0, 0), (9, ⟨"CurveRooms$Rows", "findCommon", "(LCurveRooms$Row;LCurveRooms$Row;)V"⟩, prog_11_method_11_code, 4, none, 3, 74, 0, 0), (9, ⟨"CurveRooms$Rows", "product", "(LCurveRooms$Row;LCurveRooms$Row;LCurveRooms$Row;)V"⟩, prog_11_method_8_code, 4, none, 3, 74, 0, 0), (0, ⟨"CurveRooms$Adder", "takeQuotient", "(LCurveRooms$Row;LCurveRooms$Row;)V"⟩, prog_2_method_5_code, 3, none, 3, 74, 0, 0), (0, ⟨"CurveRooms$Adder", "lower", "()V"⟩, prog_2_method_6_code, 2, none, 3, 74, 0, 0), (0, ⟨"CurveRooms$Adder", "add", "(LCurveRooms$Pair;LCurveRooms$Pair;LCurveRooms$Pair;)V"⟩, prog_2_method_4_code, 4, none, 4, 97, 0, 0), (6, ⟨"CurveRooms$Pair", "copy", "(LCurveRooms$Pair;)V"⟩, prog_8_method_3_code, 2, none, 1, 22, 0, 0), (0, ⟨"CurveRooms$Adder", "multiply", "(LCurveRooms$Pair;LCurveRooms$Pair;I)V"⟩, prog_2_method_7_code, 7, none, 5, 120, 0, 0), (6, ⟨"CurveRooms$Pair", "isNought", "()Z"⟩, prog_8_method_4_code, 1, (some .boolean), 0, 0, 0, 0), (0, ⟨"CurveRooms$Adder", "orderOf", "(LCurveRooms$Pair;)I"⟩, prog_2_method_8_code, 4, (some .int), 6, 146, 0, 0), (8, ⟨"CurveRooms$Row", "isLike", "(LCurveRooms$Row;)Z"⟩, prog_10_method_8_code, 3, (some .boolean), 0, 0, 0, 0)]
def am_mt1 : List Mt := [(6, ⟨"CurveRooms$Pair", "isLike", "(LCurveRooms$Pair;)Z"⟩, prog_8_method_5_code, 2, (some .boolean), 1, 22, 0, 0), (0, ⟨"CurveRooms$Adder", "stepsTo", "(LCurveRooms$Pair;LCurveRooms$Pair;)I"⟩, prog_2_method_9_code, 4, (some .int), 5, 120, 0, 0), (1, ⟨"CurveRooms$Code", "<init>", "(LCurveRooms$Rows;LCurveRooms$Curve;)V"⟩, prog_3_method_1_code, 3, none, 1, 21, 61, 1573), (1, ⟨"CurveRooms$Code", "forget", "()V"⟩, prog_3_method_2_code, 1, none, 0, 0, 0, 0), (1, ⟨"CurveRooms$Code", "clearTold", "()V"⟩, prog_3_method_3_code, 1, none, 1, 23, 0, 0), (1, ⟨"CurveRooms$Code", "toldAt", "(I)I"⟩, prog_3_method_4_code, 2, (some .int), 0, 0, 0, 0), (1, ⟨"CurveRooms$Code", "changeTold", "(II)I"⟩, prog_3_method_5_code, 4, (some .int), 1, 21, 0, 0), (1, ⟨"CurveRooms$Code", "readOff", "(IZ)V"⟩, prog_3_method_11_code, 6, none, 1, 21, 0, 0), (1, ⟨"CurveRooms$Code", "clearByLeft", "()V"⟩, prog_3_method_12_code, 6, none, 0, 0, 0, 0), (1, ⟨"CurveRooms$Code", "keepIfLeft", "(I)V"⟩, prog_3_method_13_code, 6, none, 1, 21, 0, 0), (1, ⟨"CurveRooms$Code", "findLeft", "()V"⟩, prog_3_method_10_code, 3, none, 2, 46, 0, 0), (1, ⟨"CurveRooms$Code", "width", "(I)I"⟩, prog_3_method_6_code, 3, (some .int), 3, 68, 0, 0), (1, ⟨"CurveRooms$Code", "wordAt", "(II)I"⟩, prog_3_method_7_code, 3, (some .int), 0, 0, 0, 0), (1, ⟨"CurveRooms$Code", "nearDigit", "(I)I"⟩, prog_3_method_8_code, 2, (some .int), 0, 0, 0, 0), (1, ⟨"CurveRooms$Code", "wordMany", "(I)I"⟩, prog_3_method_9_code, 4, (some .int), 0, 0, 0, 0), (1, ⟨"CurveRooms$Code", "mostOften", "()I"⟩, prog_3_method_16_code, 3, (some .int), 1, 23, 0, 0), (1, ⟨"CurveRooms$Code", "stepOthers", "(I)V"⟩, prog_3_method_17_code, 6, none, 0, 0, 0, 0), (1, ⟨"CurveRooms$Code", "seekNear", "(I)V"⟩, prog_3_method_14_code, 5, none, 2, 45, 0, 0), (1, ⟨"CurveRooms$Code", "leastWeight", "(I)I"⟩, prog_3_method_15_code, 4, (some .int), 2, 45, 0, 0), (2, ⟨"CurveRooms$Cover", "<init>", "()V"⟩, prog_4_method_1_code, 1, none, 1, 21, 1, 13), (2, ⟨"CurveRooms$Cover", "clear", "()V"⟩, prog_4_method_2_code, 1, none, 1, 23, 0, 0), (2, ⟨"CurveRooms$Cover", "get", "(I)I"⟩, prog_4_method_3_code, 2, (some .int), 0, 0, 0, 0), (2, ⟨"CurveRooms$Cover", "change", "(II)I"⟩, prog_4_method_4_code, 4, (some .int), 1, 21, 0, 0), (2, ⟨"CurveRooms$Cover", "total", "()I"⟩, prog_4_method_5_code, 3, (some .int), 0, 0, 0, 0), (11, ⟨"CurveRooms", "greatestPart", "(II)I"⟩, prog_1_method_42_code, 6, (some .int), 0, 0, 0, 0), (2, ⟨"CurveRooms$Cover", "placesAbove", "(II)I"⟩, prog_4_method_6_code, 3, (some .int), 1, 25, 0, 0), (2, ⟨"CurveRooms$Cover", "isWhole", "(I)Z"⟩, prog_4_method_7_code, 4, (some .boolean), 1, 25, 0, 0), (2, ⟨"CurveRooms$Cover", "genusBy", "(I)I"⟩, prog_4_method_8_code, 4, (some .int), 1, 25, 0, 0), (3, ⟨"CurveRooms$Curve", "<init>", "(LCurveRooms$Rows;)V"⟩, prog_5_method_1_code, 2, none, 2, 41, 10, 264), (3, ⟨"CurveRooms$Curve", "stands", "()Z"⟩, prog_5_method_2_code, 1, (some .boolean), 0, 0, 0, 0), (3, ⟨"CurveRooms$Curve", "drop", "()V"⟩, prog_5_method_3_code, 1, none, 2, 43, 0, 0), (3, ⟨"CurveRooms$Curve", "isFit", "(LCurveRooms$Row;)Z"⟩, prog_5_method_4_code, 3, (some .boolean), 4, 97, 0, 0)]
def am_mt2 : List Mt := [(9, ⟨"CurveRooms$Rows", "valueAt", "(LCurveRooms$Row;I)I"⟩, prog_11_method_5_code, 5, (some .int), 1, 21, 0, 0), (3, ⟨"CurveRooms$Curve", "listPoints", "()V"⟩, prog_5_method_6_code, 4, none, 2, 45, 0, 0), (3, ⟨"CurveRooms$Curve", "findNonSquare", "()V"⟩, prog_5_method_8_code, 3, none, 0, 0, 0, 0), (3, ⟨"CurveRooms$Curve", "wideTimes", "(II)I"⟩, prog_5_method_9_code, 8, (some .int), 0, 0, 0, 0), (3, ⟨"CurveRooms$Curve", "wideValue", "(I)I"⟩, prog_5_method_10_code, 5, (some .int), 1, 27, 0, 0), (3, ⟨"CurveRooms$Curve", "countWide", "()V"⟩, prog_5_method_7_code, 4, none, 2, 51, 0, 0), (15, ⟨"java/util/Arrays", "fill", "([JJ)V"⟩, prog_16_method_101_code, 5, none, 0, 0, 0, 0), (3, ⟨"CurveRooms$Curve", "findOver", "()V"⟩, prog_5_method_12_code, 3, none, 0, 0, 0, 0), (3, ⟨"CurveRooms$Curve", "findShares", "()V"⟩, prog_5_method_11_code, 9, none, 1, 24, 0, 0), (3, ⟨"CurveRooms$Curve", "take", "(LCurveRooms$Row;)V"⟩, prog_5_method_5_code, 2, none, 3, 74, 0, 0), (3, ⟨"CurveRooms$Curve", "shareOf", "(I)J"⟩, prog_5_method_13_code, 2, (some .long), 0, 0, 0, 0), (3, ⟨"CurveRooms$Curve", "pointsOver", "(I)J"⟩, prog_5_method_14_code, 5, (some .long), 0, 0, 0, 0), (3, ⟨"CurveRooms$Curve", "placesOf", "(I)J"⟩, prog_5_method_15_code, 6, (some .long), 1, 24, 0, 0), (3, ⟨"CurveRooms$Curve", "numberOf", "(II)I"⟩, prog_5_method_19_code, 4, (some .int), 0, 0, 0, 0), (3, ⟨"CurveRooms$Curve", "otherOf", "(I)I"⟩, prog_5_method_18_code, 2, (some .int), 1, 23, 0, 0), (4, ⟨"CurveRooms$Group", "<init>", "(LCurveRooms$Adder;LCurveRooms$Listing;)V"⟩, prog_6_method_1_code, 3, none, 4, 84, 13, 952), (4, ⟨"CurveRooms$Group", "forget", "()V"⟩, prog_6_method_2_code, 1, none, 0, 0, 0, 0), (4, ⟨"CurveRooms$Group", "numberAt", "(I)I"⟩, prog_6_method_3_code, 3, (some .int), 0, 0, 0, 0), (5, ⟨"CurveRooms$Listing", "degreeWeight", "()I"⟩, prog_7_method_5_code, 1, (some .int), 0, 0, 0, 0), (5, ⟨"CurveRooms$Listing", "fetch", "(ILCurveRooms$Pair;)V"⟩, prog_7_method_9_code, 7, none, 4, 84, 0, 0), (5, ⟨"CurveRooms$Listing", "tokenOf", "(LCurveRooms$Pair;)I"⟩, prog_7_method_11_code, 5, (some .int), 1, 21, 0, 0), (5, ⟨"CurveRooms$Listing", "find", "(LCurveRooms$Pair;)I"⟩, prog_7_method_10_code, 7, (some .int), 2, 45, 0, 0), (4, ⟨"CurveRooms$Group", "walkRound", "(I)V"⟩, prog_6_method_6_code, 5, none, 5, 120, 0, 0), (4, ⟨"CurveRooms$Group", "takeRounds", "(I)V"⟩, prog_6_method_7_code, 7, none, 1, 21, 0, 0), (4, ⟨"CurveRooms$Group", "findNumbers", "()V"⟩, prog_6_method_5_code, 3, none, 2, 47, 0, 0), (4, ⟨"CurveRooms$Group", "ensure", "()V"⟩, prog_6_method_4_code, 2, none, 6, 144, 0, 0), (5, ⟨"CurveRooms$Listing", "<init>", "(LCurveRooms$Rows;LCurveRooms$Curve;)V"⟩, prog_7_method_1_code, 3, none, 2, 41, 5, 470), (5, ⟨"CurveRooms$Listing", "forget", "()V"⟩, prog_7_method_2_code, 1, none, 0, 0, 0, 0), (5, ⟨"CurveRooms$Listing", "keep", "(I)V"⟩, prog_7_method_4_code, 2, none, 0, 0, 0, 0), (5, ⟨"CurveRooms$Listing", "listPoints", "()V"⟩, prog_7_method_6_code, 5, none, 2, 45, 0, 0), (5, ⟨"CurveRooms$Listing", "listRoots", "(II)V"⟩, prog_7_method_8_code, 9, none, 3, 74, 0, 0), (5, ⟨"CurveRooms$Listing", "listSquares", "()V"⟩, prog_7_method_7_code, 3, none, 4, 102, 0, 0)]
def am_mt3 : List Mt := [(5, ⟨"CurveRooms$Listing", "ensure", "()V"⟩, prog_7_method_3_code, 1, none, 5, 124, 0, 0), (7, ⟨"CurveRooms$Room", "<init>", "(LCurveRooms$Adder;LCurveRooms$Curve;)V"⟩, prog_9_method_1_code, 3, none, 4, 84, 11, 71), (7, ⟨"CurveRooms$Room", "clear", "()V"⟩, prog_9_method_2_code, 1, none, 1, 23, 0, 0), (7, ⟨"CurveRooms$Room", "get", "(I)I"⟩, prog_9_method_3_code, 2, (some .int), 0, 0, 0, 0), (7, ⟨"CurveRooms$Room", "change", "(II)I"⟩, prog_9_method_4_code, 4, (some .int), 1, 21, 0, 0), (7, ⟨"CurveRooms$Room", "total", "()I"⟩, prog_9_method_5_code, 3, (some .int), 0, 0, 0, 0), (7, ⟨"CurveRooms$Room", "classDegree", "()I"⟩, prog_9_method_6_code, 3, (some .int), 5, 120, 0, 0), (7, ⟨"CurveRooms$Room", "evens", "(I)I"⟩, prog_9_method_8_code, 1, (some .int), 0, 0, 0, 0), (7, ⟨"CurveRooms$Room", "width", "(II)I"⟩, prog_9_method_7_code, 3, (some .int), 1, 20, 0, 0), (7, ⟨"CurveRooms$Room", "gapBits", "(I)I"⟩, prog_9_method_9_code, 6, (some .int), 5, 120, 0, 0), (9, ⟨"CurveRooms$Rows", "takePrime", "(I)V"⟩, prog_11_method_2_code, 4, none, 0, 0, 0, 0), (9, ⟨"CurveRooms$Rows", "<init>", "()V"⟩, prog_11_method_1_code, 1, none, 2, 41, 15, 83), (10, ⟨"CurveRooms$Turns", "<init>", "(LCurveRooms$Rows;LCurveRooms$Curve;)V"⟩, prog_12_method_1_code, 3, none, 2, 41, 5, 358), (10, ⟨"CurveRooms$Turns", "forget", "()V"⟩, prog_12_method_2_code, 1, none, 0, 0, 0, 0), (10, ⟨"CurveRooms$Turns", "findAt", "(II)V"⟩, prog_12_method_6_code, 4, none, 3, 71, 0, 0), (10, ⟨"CurveRooms$Turns", "findAll", "()V"⟩, prog_12_method_5_code, 3, none, 4, 94, 0, 0), (10, ⟨"CurveRooms$Turns", "size", "()I"⟩, prog_12_method_3_code, 1, (some .int), 5, 116, 0, 0), (10, ⟨"CurveRooms$Turns", "tokenOf", "(I)I"⟩, prog_12_method_4_code, 2, (some .int), 0, 0, 0, 0), (10, ⟨"CurveRooms$Turns", "move", "(II)I"⟩, prog_12_method_7_code, 5, (some .int), 1, 23, 0, 0), (11, ⟨"CurveRooms", "<init>", "()V"⟩, prog_1_method_1_code, 2, none, 5, 106, 188, 4130), (11, ⟨"CurveRooms", "forgetCurve", "()V"⟩, prog_1_method_36_code, 2, none, 4, 84, 0, 0), (11, ⟨"CurveRooms", "prime", "(I)I"⟩, prog_1_method_2_code, 2, (some .int), 5, 105, 0, 0), (11, ⟨"CurveRooms", "isNumber", "(I)Z"⟩, prog_1_method_37_code, 2, (some .boolean), 0, 0, 0, 0), (11, ⟨"CurveRooms", "push", "(I)I"⟩, prog_1_method_3_code, 2, (some .int), 1, 21, 0, 0), (11, ⟨"CurveRooms", "curve", "()I"⟩, prog_1_method_4_code, 2, (some .int), 5, 119, 0, 0), (11, ⟨"CurveRooms", "points", "()I"⟩, prog_1_method_5_code, 1, (some .int), 1, 20, 0, 0), (11, ⟨"CurveRooms", "isPoint", "(I)Z"⟩, prog_1_method_40_code, 2, (some .boolean), 1, 20, 0, 0), (11, ⟨"CurveRooms", "point", "(II)I"⟩, prog_1_method_6_code, 3, (some .int), 2, 44, 0, 0), (11, ⟨"CurveRooms", "count", "(I)J"⟩, prog_1_method_7_code, 2, (some .long), 1, 24, 0, 0), (11, ⟨"CurveRooms", "countAll", "()I"⟩, prog_1_method_8_code, 1, (some .int), 1, 20, 0, 0), (11, ⟨"CurveRooms", "share", "(I)J"⟩, prog_1_method_9_code, 2, (some .long), 1, 21, 0, 0), (11, ⟨"CurveRooms", "classes", "()J"⟩, prog_1_method_10_code, 1, (some .long), 1, 20, 0, 0)]
def am_mt4 : List Mt := [(11, ⟨"CurveRooms", "places", "(I)J"⟩, prog_1_method_11_code, 2, (some .long), 2, 49, 0, 0), (11, ⟨"CurveRooms", "isRegister", "(I)Z"⟩, prog_1_method_38_code, 1, (some .boolean), 0, 0, 0, 0), (11, ⟨"CurveRooms", "at", "(II)I"⟩, prog_1_method_12_code, 3, (some .int), 5, 106, 0, 0), (11, ⟨"CurveRooms", "pick", "(II)I"⟩, prog_1_method_13_code, 3, (some .int), 6, 144, 0, 0), (11, ⟨"CurveRooms", "sum", "(III)I"⟩, prog_1_method_14_code, 4, (some .int), 5, 120, 0, 0), (11, ⟨"CurveRooms", "times", "(III)I"⟩, prog_1_method_15_code, 4, (some .int), 6, 146, 0, 0), (11, ⟨"CurveRooms", "of", "(III)I"⟩, prog_1_method_16_code, 5, (some .int), 1, 21, 0, 0), (11, ⟨"CurveRooms", "which", "(I)I"⟩, prog_1_method_17_code, 2, (some .int), 6, 144, 0, 0), (11, ⟨"CurveRooms", "order", "(I)I"⟩, prog_1_method_18_code, 2, (some .int), 7, 169, 0, 0), (11, ⟨"CurveRooms", "log", "(II)I"⟩, prog_1_method_19_code, 3, (some .int), 6, 143, 0, 0), (11, ⟨"CurveRooms", "group", "(I)I"⟩, prog_1_method_20_code, 2, (some .int), 7, 165, 0, 0), (11, ⟨"CurveRooms", "amount", "(II)I"⟩, prog_1_method_21_code, 4, (some .int), 2, 44, 0, 0), (11, ⟨"CurveRooms", "room", "(I)I"⟩, prog_1_method_22_code, 4, (some .int), 6, 142, 0, 0), (11, ⟨"CurveRooms", "gaps", "(I)I"⟩, prog_1_method_23_code, 2, (some .int), 6, 145, 0, 0), (11, ⟨"CurveRooms", "isPole", "(I)Z"⟩, prog_1_method_39_code, 1, (some .boolean), 0, 0, 0, 0), (11, ⟨"CurveRooms", "code", "(II)I"⟩, prog_1_method_24_code, 3, (some .int), 4, 90, 0, 0), (11, ⟨"CurveRooms", "read", "(III)I"⟩, prog_1_method_25_code, 4, (some .int), 4, 90, 0, 0), (11, ⟨"CurveRooms", "tell", "(II)I"⟩, prog_1_method_26_code, 3, (some .int), 2, 44, 0, 0), (11, ⟨"CurveRooms", "near", "(II)I"⟩, prog_1_method_27_code, 4, (some .int), 4, 90, 0, 0), (11, ⟨"CurveRooms", "least", "(I)I"⟩, prog_1_method_28_code, 3, (some .int), 4, 90, 0, 0), (11, ⟨"CurveRooms", "turns", "(I)I"⟩, prog_1_method_29_code, 3, (some .int), 6, 136, 0, 0), (11, ⟨"CurveRooms", "turned", "(II)I"⟩, prog_1_method_30_code, 3, (some .int), 6, 136, 0, 0), (11, ⟨"CurveRooms", "cover", "(II)I"⟩, prog_1_method_31_code, 3, (some .int), 2, 44, 0, 0), (11, ⟨"CurveRooms", "isRootDegree", "(I)Z"⟩, prog_1_method_41_code, 2, (some .boolean), 0, 0, 0, 0), (11, ⟨"CurveRooms", "genus", "(I)I"⟩, prog_1_method_32_code, 2, (some .int), 2, 48, 0, 0), (11, ⟨"CurveRooms", "above", "(II)I"⟩, prog_1_method_33_code, 3, (some .int), 2, 47, 0, 0), (11, ⟨"CurveRooms", "mixRow", "(JLCurveRooms$Row;)J"⟩, prog_1_method_35_code, 6, (some .long), 1, 21, 0, 0), (11, ⟨"CurveRooms", "digest", "()J"⟩, prog_1_method_34_code, 5, (some .long), 2, 46, 0, 0), (12, ⟨"CurveRoomsModel", "<init>", "()V"⟩, prog_14_method_1_code, 2, none, 1, 21, 27, 42775), (12, ⟨"CurveRoomsModel", "in", "(JJJ)Z"⟩, prog_14_method_3_code, 6, (some .boolean), 0, 0, 0, 0), (12, ⟨"CurveRoomsModel", "mod", "(I)I"⟩, prog_14_method_4_code, 3, (some .int), 0, 0, 0, 0), (12, ⟨"CurveRoomsModel", "power", "(II)I"⟩, prog_14_method_5_code, 5, (some .int), 0, 0, 0, 0)]
def am_mt5 : List Mt := [(12, ⟨"CurveRoomsModel", "inverse", "(I)I"⟩, prog_14_method_6_code, 2, (some .int), 1, 24, 0, 0), (12, ⟨"CurveRoomsModel", "isCurve", "()Z"⟩, prog_14_method_7_code, 1, (some .boolean), 0, 0, 0, 0), (12, ⟨"CurveRoomsModel", "get", "(II)I"⟩, prog_14_method_8_code, 3, (some .int), 0, 0, 0, 0), (12, ⟨"CurveRoomsModel", "trim", "(II)V"⟩, prog_14_method_9_code, 4, none, 0, 0, 0, 0), (12, ⟨"CurveRoomsModel", "copy", "(II)V"⟩, prog_14_method_10_code, 4, none, 0, 0, 0, 0), (12, ⟨"CurveRoomsModel", "setNumber", "(II)V"⟩, prog_14_method_11_code, 3, none, 1, 23, 0, 0), (12, ⟨"CurveRoomsModel", "add", "(IIII)V"⟩, prog_14_method_12_code, 7, none, 1, 23, 0, 0), (12, ⟨"CurveRoomsModel", "multiply", "(III)V"⟩, prog_14_method_13_code, 8, none, 1, 23, 0, 0), (12, ⟨"CurveRoomsModel", "scale", "(II)V"⟩, prog_14_method_14_code, 4, none, 1, 23, 0, 0), (12, ⟨"CurveRoomsModel", "divide", "(IIII)V"⟩, prog_14_method_15_code, 10, none, 2, 45, 0, 0), (12, ⟨"CurveRoomsModel", "common", "(II)V"⟩, prog_14_method_16_code, 4, none, 3, 74, 0, 0), (12, ⟨"CurveRoomsModel", "valueAt", "(II)I"⟩, prog_14_method_17_code, 5, (some .int), 1, 22, 0, 0), (12, ⟨"CurveRoomsModel", "clear", "()V"⟩, prog_14_method_19_code, 2, none, 0, 0, 0, 0), (12, ⟨"CurveRoomsModel", "prime", "(I)I"⟩, prog_14_method_18_code, 3, (some .int), 1, 21, 0, 0), (12, ⟨"CurveRoomsModel", "push", "(I)I"⟩, prog_14_method_20_code, 2, (some .int), 1, 25, 0, 0), (12, ⟨"CurveRoomsModel", "curve", "()I"⟩, prog_14_method_21_code, 3, (some .int), 4, 97, 0, 0), (12, ⟨"CurveRoomsModel", "points", "()I"⟩, prog_14_method_22_code, 1, (some .int), 1, 20, 0, 0), (12, ⟨"CurveRoomsModel", "isPoint", "(I)Z"⟩, prog_14_method_23_code, 2, (some .boolean), 1, 25, 0, 0), (12, ⟨"CurveRoomsModel", "pointAt", "(II)I"⟩, prog_14_method_24_code, 5, (some .int), 0, 0, 0, 0), (12, ⟨"CurveRoomsModel", "point", "(II)I"⟩, prog_14_method_25_code, 3, (some .int), 2, 46, 0, 0), (12, ⟨"CurveRoomsModel", "pairTimes", "(II)I"⟩, prog_14_method_26_code, 7, (some .int), 0, 0, 0, 0), (12, ⟨"CurveRoomsModel", "pairPoints", "()I"⟩, prog_14_method_27_code, 6, (some .int), 1, 26, 0, 0), (12, ⟨"CurveRoomsModel", "bigPower", "(I)J"⟩, prog_14_method_28_code, 5, (some .long), 0, 0, 0, 0), (12, ⟨"CurveRoomsModel", "findShares", "()V"⟩, prog_14_method_29_code, 3, none, 2, 51, 0, 0), (12, ⟨"CurveRoomsModel", "countOf", "(I)J"⟩, prog_14_method_30_code, 4, (some .long), 3, 73, 0, 0), (12, ⟨"CurveRoomsModel", "count", "(I)J"⟩, prog_14_method_31_code, 2, (some .long), 4, 96, 0, 0), (12, ⟨"CurveRoomsModel", "countAll", "()I"⟩, prog_14_method_32_code, 1, (some .int), 2, 51, 0, 0), (12, ⟨"CurveRoomsModel", "share", "(I)J"⟩, prog_14_method_33_code, 2, (some .long), 3, 73, 0, 0), (12, ⟨"CurveRoomsModel", "classMany", "()J"⟩, prog_14_method_34_code, 4, (some .long), 3, 73, 0, 0), (12, ⟨"CurveRoomsModel", "classes", "()J"⟩, prog_14_method_35_code, 1, (some .long), 4, 96, 0, 0), (12, ⟨"CurveRoomsModel", "places", "(I)J"⟩, prog_14_method_36_code, 6, (some .long), 4, 96, 0, 0), (12, ⟨"CurveRoomsModel", "put", "(IIIII)V"⟩, prog_14_method_37_code, 6, none, 0, 0, 0, 0)]
def am_mt6 : List Mt := [(12, ⟨"CurveRoomsModel", "findList", "()V"⟩, prog_14_method_38_code, 10, none, 3, 74, 0, 0), (12, ⟨"CurveRoomsModel", "lay", "(IIIIIII)V"⟩, prog_14_method_39_code, 8, none, 1, 23, 0, 0), (12, ⟨"CurveRoomsModel", "layWork", "(III)V"⟩, prog_14_method_40_code, 4, none, 2, 50, 0, 0), (12, ⟨"CurveRoomsModel", "sumOf", "(III)V"⟩, prog_14_method_41_code, 4, none, 4, 97, 0, 0), (12, ⟨"CurveRoomsModel", "copyWork", "(II)V"⟩, prog_14_method_42_code, 4, none, 0, 0, 0, 0), (12, ⟨"CurveRoomsModel", "noughtWork", "(I)V"⟩, prog_14_method_43_code, 3, none, 0, 0, 0, 0), (12, ⟨"CurveRoomsModel", "isLike", "(II)Z"⟩, prog_14_method_44_code, 5, (some .boolean), 0, 0, 0, 0), (12, ⟨"CurveRoomsModel", "timesOf", "(IIJ)V"⟩, prog_14_method_45_code, 7, none, 5, 120, 0, 0), (12, ⟨"CurveRoomsModel", "isRegister", "(I)Z"⟩, prog_14_method_46_code, 1, (some .boolean), 1, 25, 0, 0), (12, ⟨"CurveRoomsModel", "fromRegister", "(II)V"⟩, prog_14_method_47_code, 4, none, 0, 0, 0, 0), (12, ⟨"CurveRoomsModel", "toRegister", "(II)V"⟩, prog_14_method_48_code, 4, none, 0, 0, 0, 0), (12, ⟨"CurveRoomsModel", "at", "(II)I"⟩, prog_14_method_49_code, 3, (some .int), 2, 46, 0, 0), (12, ⟨"CurveRoomsModel", "pick", "(II)I"⟩, prog_14_method_50_code, 4, (some .int), 4, 103, 0, 0), (12, ⟨"CurveRoomsModel", "sum", "(III)I"⟩, prog_14_method_51_code, 4, (some .int), 5, 120, 0, 0), (12, ⟨"CurveRoomsModel", "turnWork", "(I)V"⟩, prog_14_method_52_code, 2, none, 1, 22, 0, 0), (12, ⟨"CurveRoomsModel", "times", "(III)I"⟩, prog_14_method_53_code, 4, (some .int), 6, 146, 0, 0), (12, ⟨"CurveRoomsModel", "of", "(III)I"⟩, prog_14_method_54_code, 4, (some .int), 3, 73, 0, 0), (12, ⟨"CurveRoomsModel", "which", "(I)I"⟩, prog_14_method_55_code, 6, (some .int), 4, 103, 0, 0), (12, ⟨"CurveRoomsModel", "orderOf", "()J"⟩, prog_14_method_56_code, 7, (some .long), 6, 146, 0, 0), (12, ⟨"CurveRoomsModel", "order", "(I)I"⟩, prog_14_method_57_code, 2, (some .int), 7, 172, 0, 0), (12, ⟨"CurveRoomsModel", "log", "(II)I"⟩, prog_14_method_58_code, 4, (some .int), 5, 120, 0, 0), (12, ⟨"CurveRoomsModel", "killedBy", "(I)I"⟩, prog_14_method_61_code, 5, (some .int), 6, 146, 0, 0), (12, ⟨"CurveRoomsModel", "parts", "(II)I"⟩, prog_14_method_60_code, 9, (some .int), 7, 170, 0, 0), (12, ⟨"CurveRoomsModel", "findGroup", "()V"⟩, prog_14_method_59_code, 3, none, 8, 198, 0, 0), (12, ⟨"CurveRoomsModel", "group", "(I)I"⟩, prog_14_method_62_code, 2, (some .int), 9, 220, 0, 0), (12, ⟨"CurveRoomsModel", "findLifts", "()V"⟩, prog_14_method_63_code, 3, none, 0, 0, 0, 0), (12, ⟨"CurveRoomsModel", "expandFold", "()V"⟩, prog_14_method_65_code, 8, none, 2, 45, 0, 0), (12, ⟨"CurveRoomsModel", "expand", "(I)V"⟩, prog_14_method_64_code, 6, none, 3, 72, 0, 0), (12, ⟨"CurveRoomsModel", "timesX", "(II)V"⟩, prog_14_method_66_code, 6, none, 0, 0, 0, 0), (12, ⟨"CurveRoomsModel", "condition", "(I)V"⟩, prog_14_method_67_code, 7, none, 2, 45, 0, 0), (12, ⟨"CurveRoomsModel", "widthOf", "()I"⟩, prog_14_method_68_code, 9, (some .int), 4, 97, 0, 0), (12, ⟨"CurveRoomsModel", "amount", "(II)I"⟩, prog_14_method_69_code, 4, (some .int), 2, 46, 0, 0)]
def am_mt7 : List Mt := [(12, ⟨"CurveRoomsModel", "room", "(I)I"⟩, prog_14_method_70_code, 4, (some .int), 5, 125, 0, 0), (12, ⟨"CurveRoomsModel", "gaps", "(I)I"⟩, prog_14_method_71_code, 6, (some .int), 5, 125, 0, 0), (12, ⟨"CurveRoomsModel", "functionAt", "(II)I"⟩, prog_14_method_72_code, 3, (some .int), 1, 24, 0, 0), (12, ⟨"CurveRoomsModel", "findCode", "(I)V"⟩, prog_14_method_73_code, 4, none, 3, 71, 0, 0), (12, ⟨"CurveRoomsModel", "isPole", "(I)Z"⟩, prog_14_method_74_code, 1, (some .boolean), 1, 25, 0, 0), (12, ⟨"CurveRoomsModel", "code", "(II)I"⟩, prog_14_method_75_code, 3, (some .int), 4, 94, 0, 0), (12, ⟨"CurveRoomsModel", "read", "(III)I"⟩, prog_14_method_76_code, 4, (some .int), 4, 94, 0, 0), (12, ⟨"CurveRoomsModel", "tell", "(II)I"⟩, prog_14_method_77_code, 4, (some .int), 1, 25, 0, 0), (12, ⟨"CurveRoomsModel", "words", "()I"⟩, prog_14_method_78_code, 3, (some .int), 0, 0, 0, 0), (12, ⟨"CurveRoomsModel", "differs", "(IZ)I"⟩, prog_14_method_79_code, 8, (some .int), 0, 0, 0, 0), (12, ⟨"CurveRoomsModel", "near", "(II)I"⟩, prog_14_method_80_code, 8, (some .int), 4, 94, 0, 0), (12, ⟨"CurveRoomsModel", "least", "(I)I"⟩, prog_14_method_81_code, 6, (some .int), 4, 94, 0, 0), (12, ⟨"CurveRoomsModel", "keeps", "(III)Z"⟩, prog_14_method_82_code, 5, (some .boolean), 2, 50, 0, 0), (12, ⟨"CurveRoomsModel", "turnOf", "(I)I"⟩, prog_14_method_83_code, 6, (some .int), 3, 74, 0, 0), (12, ⟨"CurveRoomsModel", "turns", "(I)I"⟩, prog_14_method_84_code, 2, (some .int), 4, 99, 0, 0), (12, ⟨"CurveRoomsModel", "turned", "(II)I"⟩, prog_14_method_85_code, 4, (some .int), 4, 99, 0, 0), (12, ⟨"CurveRoomsModel", "cover", "(II)I"⟩, prog_14_method_86_code, 4, (some .int), 1, 25, 0, 0), (12, ⟨"CurveRoomsModel", "divisor", "(II)I"⟩, prog_14_method_87_code, 5, (some .int), 0, 0, 0, 0), (12, ⟨"CurveRoomsModel", "shared", "(II)I"⟩, prog_14_method_88_code, 5, (some .int), 1, 24, 0, 0), (12, ⟨"CurveRoomsModel", "isFold", "(I)Z"⟩, prog_14_method_89_code, 2, (some .boolean), 1, 25, 0, 0), (12, ⟨"CurveRoomsModel", "genus", "(I)I"⟩, prog_14_method_90_code, 5, (some .int), 2, 48, 0, 0), (12, ⟨"CurveRoomsModel", "above", "(II)I"⟩, prog_14_method_91_code, 3, (some .int), 2, 48, 0, 0), (12, ⟨"CurveRoomsModel", "digest", "()J"⟩, prog_14_method_92_code, 6, (some .long), 3, 73, 0, 0), (13, ⟨"CurveRoomsLaw", "law", "([I)Z"⟩, code, 4, (some .boolean), 12, 482, 600000, 7302250)]
def am_mt : List Mt := am_mt0 ++ (am_mt1 ++ (am_mt2 ++ (am_mt3 ++ (am_mt4 ++ (am_mt5 ++ (am_mt6 ++ (am_mt7)))))))
