/-! names of the classes, their fields, and the lay-out of the cells (printed by wip/gen/g02.py) -/
def cb_R0 : String := "CauseBook$Chances"
def cb_T0 : u_T := fun k => match k with
  | 0 => ("CauseBook$Chances", "model", "LCauseBook$Model;", true)
  | 1 => ("CauseBook$Chances", "codes", "LCauseBook$Codes;", true)
  | 2 => ("CauseBook$Chances", "terms", "[I", true)
  | 3 => ("CauseBook$Chances", "shares", "[J", true)
  | 4 => ("CauseBook$Chances", "ofNothing", "J", false)
  | _ => ("CauseBook$Chances", "total", "J", false)
def cb_t0 : Nat → FieldType := fun k => match k with
  | 0 => .object "CauseBook$Model"
  | 1 => .object "CauseBook$Codes"
  | 2 => .array .int
  | 3 => .array .long
  | 4 => .long
  | _ => .long
theorem cb_n0 : ∀ a, a < 6 → ∀ b, b < 6 → a ≠ b → (cb_T0 a).2.1 ≠ (cb_T0 b).2.1 := by decide +kernel
theorem cb_o0 : ∀ k, k < 6 → parseFieldDescriptor (cb_T0 k).2.2.1 = some (cb_t0 k) := by decide +kernel
def cb_R1 : String := "CauseBook$Chronicle"
def cb_T1 : u_T := fun k => match k with
  | 0 => ("CauseBook$Chronicle", "model", "LCauseBook$Model;", true)
  | 1 => ("CauseBook$Chronicle", "codes", "LCauseBook$Codes;", true)
  | 2 => ("CauseBook$Chronicle", "terms", "[I", true)
  | 3 => ("CauseBook$Chronicle", "offers", "[I", true)
  | _ => ("CauseBook$Chronicle", "offerCount", "I", false)
def cb_t1 : Nat → FieldType := fun k => match k with
  | 0 => .object "CauseBook$Model"
  | 1 => .object "CauseBook$Codes"
  | 2 => .array .int
  | 3 => .array .int
  | _ => .int
theorem cb_n1 : ∀ a, a < 5 → ∀ b, b < 5 → a ≠ b → (cb_T1 a).2.1 ≠ (cb_T1 b).2.1 := by decide +kernel
theorem cb_o1 : ∀ k, k < 5 → parseFieldDescriptor (cb_T1 k).2.2.1 = some (cb_t1 k) := by decide +kernel
def cb_R2 : String := "CauseBook$Codes"
def cb_T2 : u_T := fun k => match k with
  | 0 => ("CauseBook$Codes", "model", "LCauseBook$Model;", true)
  | 1 => ("CauseBook$Codes", "spreader", "LCauseBook$Spreader;", true)
  | 2 => ("CauseBook$Codes", "causes", "LCauseBook$Roll;", true)
  | 3 => ("CauseBook$Codes", "signs", "LCauseBook$Roll;", true)
  | 4 => ("CauseBook$Codes", "ofCauses", "[I", true)
  | 5 => ("CauseBook$Codes", "signTimes", "[I", true)
  | 6 => ("CauseBook$Codes", "sets", "[I", true)
  | 7 => ("CauseBook$Codes", "ofSets", "[I", true)
  | 8 => ("CauseBook$Codes", "minimals", "[I", true)
  | 9 => ("CauseBook$Codes", "setCount", "I", false)
  | 10 => ("CauseBook$Codes", "weakestLink", "I", false)
  | 11 => ("CauseBook$Codes", "weakestChanges", "I", false)
  | 12 => ("CauseBook$Codes", "known", "Z", false)
  | 13 => ("CauseBook$Codes", "setsKnown", "Z", false)
  | _ => ("CauseBook$Codes", "weakestKnown", "Z", false)
def cb_t2 : Nat → FieldType := fun k => match k with
  | 0 => .object "CauseBook$Model"
  | 1 => .object "CauseBook$Spreader"
  | 2 => .object "CauseBook$Roll"
  | 3 => .object "CauseBook$Roll"
  | 4 => .array .int
  | 5 => .array .int
  | 6 => .array .int
  | 7 => .array .int
  | 8 => .array .int
  | 9 => .int
  | 10 => .int
  | 11 => .int
  | 12 => .boolean
  | 13 => .boolean
  | _ => .boolean
theorem cb_n2 : ∀ a, a < 15 → ∀ b, b < 15 → a ≠ b → (cb_T2 a).2.1 ≠ (cb_T2 b).2.1 := by decide +kernel
theorem cb_o2 : ∀ k, k < 15 → parseFieldDescriptor (cb_T2 k).2.2.1 = some (cb_t2 k) := by decide +kernel
def cb_R3 : String := "CauseBook$Decoder"
def cb_T3 : u_T := fun k => match k with
  | 0 => ("CauseBook$Decoder", "model", "LCauseBook$Model;", true)
  | 1 => ("CauseBook$Decoder", "codes", "LCauseBook$Codes;", true)
  | 2 => ("CauseBook$Decoder", "least", "I", false)
  | _ => ("CauseBook$Decoder", "alike", "I", false)
def cb_t3 : Nat → FieldType := fun k => match k with
  | 0 => .object "CauseBook$Model"
  | 1 => .object "CauseBook$Codes"
  | 2 => .int
  | _ => .int
theorem cb_n3 : ∀ a, a < 4 → ∀ b, b < 4 → a ≠ b → (cb_T3 a).2.1 ≠ (cb_T3 b).2.1 := by decide +kernel
theorem cb_o3 : ∀ k, k < 4 → parseFieldDescriptor (cb_T3 k).2.2.1 = some (cb_t3 k) := by decide +kernel
def cb_R4 : String := "CauseBook$History"
def cb_T4 : u_T := fun k => match k with
  | 0 => ("CauseBook$History", "models", "[LCauseBook$Model;", true)
  | 1 => ("CauseBook$History", "acts", "[I", true)
  | 2 => ("CauseBook$History", "size", "I", false)
  | _ => ("CauseBook$History", "next", "I", false)
def cb_t4 : Nat → FieldType := fun k => match k with
  | 0 => .array (.object "CauseBook$Model")
  | 1 => .array .int
  | 2 => .int
  | _ => .int
theorem cb_n4 : ∀ a, a < 4 → ∀ b, b < 4 → a ≠ b → (cb_T4 a).2.1 ≠ (cb_T4 b).2.1 := by decide +kernel
theorem cb_o4 : ∀ k, k < 4 → parseFieldDescriptor (cb_T4 k).2.2.1 = some (cb_t4 k) := by decide +kernel
def cb_R5 : String := "CauseBook$Model"
def cb_T5 : u_T := fun k => match k with
  | 0 => ("CauseBook$Model", "objects", "I", false)
  | 1 => ("CauseBook$Model", "links", "I", false)
  | 2 => ("CauseBook$Model", "rules", "I", false)
  | 3 => ("CauseBook$Model", "entries", "I", false)
  | 4 => ("CauseBook$Model", "book", "I", false)
  | 5 => ("CauseBook$Model", "seen", "I", false)
  | 6 => ("CauseBook$Model", "kinds", "[I", true)
  | 7 => ("CauseBook$Model", "linkParts", "[I", true)
  | 8 => ("CauseBook$Model", "ruleParts", "[I", true)
  | 9 => ("CauseBook$Model", "weights", "[I", true)
  | 10 => ("CauseBook$Model", "signMarks", "[I", true)
  | 11 => ("CauseBook$Model", "entrySigns", "[I", true)
  | _ => ("CauseBook$Model", "entryTimes", "[I", true)
def cb_t5 : Nat → FieldType := fun k => match k with
  | 0 => .int
  | 1 => .int
  | 2 => .int
  | 3 => .int
  | 4 => .int
  | 5 => .int
  | 6 => .array .int
  | 7 => .array .int
  | 8 => .array .int
  | 9 => .array .int
  | 10 => .array .int
  | 11 => .array .int
  | _ => .array .int
theorem cb_n5 : ∀ a, a < 13 → ∀ b, b < 13 → a ≠ b → (cb_T5 a).2.1 ≠ (cb_T5 b).2.1 := by decide +kernel
theorem cb_o5 : ∀ k, k < 13 → parseFieldDescriptor (cb_T5 k).2.2.1 = some (cb_t5 k) := by decide +kernel
def cb_R6 : String := "CauseBook$Reducer"
def cb_T6 : u_T := fun k => match k with
  | 0 => ("CauseBook$Reducer", "codes", "LCauseBook$Codes;", true)
  | 1 => ("CauseBook$Reducer", "aparts", "[I", true)
  | 2 => ("CauseBook$Reducer", "needs", "[I", true)
  | 3 => ("CauseBook$Reducer", "pairs", "I", false)
  | _ => ("CauseBook$Reducer", "must", "I", false)
def cb_t6 : Nat → FieldType := fun k => match k with
  | 0 => .object "CauseBook$Codes"
  | 1 => .array .int
  | 2 => .array .int
  | 3 => .int
  | _ => .int
theorem cb_n6 : ∀ a, a < 5 → ∀ b, b < 5 → a ≠ b → (cb_T6 a).2.1 ≠ (cb_T6 b).2.1 := by decide +kernel
theorem cb_o6 : ∀ k, k < 5 → parseFieldDescriptor (cb_T6 k).2.2.1 = some (cb_t6 k) := by decide +kernel
def cb_R7 : String := "CauseBook$Refusals"
def cb_T7 : u_T := fun k => match k with
  | 0 => ("CauseBook$Refusals", "counts", "[I", true)
  | _ => ("CauseBook$Refusals", "latest", "I", false)
def cb_t7 : Nat → FieldType := fun k => match k with
  | 0 => .array .int
  | _ => .int
theorem cb_n7 : ∀ a, a < 2 → ∀ b, b < 2 → a ≠ b → (cb_T7 a).2.1 ≠ (cb_T7 b).2.1 := by decide +kernel
theorem cb_o7 : ∀ k, k < 2 → parseFieldDescriptor (cb_T7 k).2.2.1 = some (cb_t7 k) := by decide +kernel
def cb_R8 : String := "CauseBook$Roll"
def cb_T8 : u_T := fun k => match k with
  | 0 => ("CauseBook$Roll", "size", "I", false)
  | 1 => ("CauseBook$Roll", "objects", "[I", true)
  | 2 => ("CauseBook$Roll", "events", "[I", true)
  | _ => ("CauseBook$Roll", "marks", "[I", true)
def cb_t8 : Nat → FieldType := fun k => match k with
  | 0 => .int
  | 1 => .array .int
  | 2 => .array .int
  | _ => .array .int
theorem cb_n8 : ∀ a, a < 4 → ∀ b, b < 4 → a ≠ b → (cb_T8 a).2.1 ≠ (cb_T8 b).2.1 := by decide +kernel
theorem cb_o8 : ∀ k, k < 4 → parseFieldDescriptor (cb_T8 k).2.2.1 = some (cb_t8 k) := by decide +kernel
def cb_R9 : String := "CauseBook$Spreader"
def cb_T9 : u_T := fun k => match k with
  | 0 => ("CauseBook$Spreader", "model", "LCauseBook$Model;", true)
  | 1 => ("CauseBook$Spreader", "causes", "LCauseBook$Roll;", true)
  | 2 => ("CauseBook$Spreader", "times", "[I", true)
  | 3 => ("CauseBook$Spreader", "holders", "[I", true)
  | 4 => ("CauseBook$Spreader", "outward", "[I", true)
  | 5 => ("CauseBook$Spreader", "inward", "[I", true)
  | 6 => ("CauseBook$Spreader", "ofKind", "[I", true)
  | 7 => ("CauseBook$Spreader", "changedEvents", "I", false)
  | _ => ("CauseBook$Spreader", "metTime", "Z", false)
def cb_t9 : Nat → FieldType := fun k => match k with
  | 0 => .object "CauseBook$Model"
  | 1 => .object "CauseBook$Roll"
  | 2 => .array .int
  | 3 => .array .int
  | 4 => .array .int
  | 5 => .array .int
  | 6 => .array .int
  | 7 => .int
  | _ => .boolean
theorem cb_n9 : ∀ a, a < 9 → ∀ b, b < 9 → a ≠ b → (cb_T9 a).2.1 ≠ (cb_T9 b).2.1 := by decide +kernel
theorem cb_o9 : ∀ k, k < 9 → parseFieldDescriptor (cb_T9 k).2.2.1 = some (cb_t9 k) := by decide +kernel
def cb_R10 : String := "CauseBook"
def cb_T10 : u_T := fun k => match k with
  | 0 => ("CauseBook", "model", "LCauseBook$Model;", true)
  | 1 => ("CauseBook", "history", "LCauseBook$History;", true)
  | 2 => ("CauseBook", "images", "[LCauseBook$Model;", true)
  | 3 => ("CauseBook", "imageKept", "[Z", true)
  | 4 => ("CauseBook", "refusals", "LCauseBook$Refusals;", true)
  | 5 => ("CauseBook", "termValues", "[I", true)
  | 6 => ("CauseBook", "causeRoll", "LCauseBook$Roll;", true)
  | 7 => ("CauseBook", "signRoll", "LCauseBook$Roll;", true)
  | 8 => ("CauseBook", "spreader", "LCauseBook$Spreader;", true)
  | 9 => ("CauseBook", "codes", "LCauseBook$Codes;", true)
  | 10 => ("CauseBook", "decoder", "LCauseBook$Decoder;", true)
  | 11 => ("CauseBook", "chances", "LCauseBook$Chances;", true)
  | 12 => ("CauseBook", "reducer", "LCauseBook$Reducer;", true)
  | _ => ("CauseBook", "chronicle", "LCauseBook$Chronicle;", true)
def cb_t10 : Nat → FieldType := fun k => match k with
  | 0 => .object "CauseBook$Model"
  | 1 => .object "CauseBook$History"
  | 2 => .array (.object "CauseBook$Model")
  | 3 => .array .boolean
  | 4 => .object "CauseBook$Refusals"
  | 5 => .array .int
  | 6 => .object "CauseBook$Roll"
  | 7 => .object "CauseBook$Roll"
  | 8 => .object "CauseBook$Spreader"
  | 9 => .object "CauseBook$Codes"
  | 10 => .object "CauseBook$Decoder"
  | 11 => .object "CauseBook$Chances"
  | 12 => .object "CauseBook$Reducer"
  | _ => .object "CauseBook$Chronicle"
theorem cb_n10 : ∀ a, a < 14 → ∀ b, b < 14 → a ≠ b → (cb_T10 a).2.1 ≠ (cb_T10 b).2.1 := by decide +kernel
theorem cb_o10 : ∀ k, k < 14 → parseFieldDescriptor (cb_T10 k).2.2.1 = some (cb_t10 k) := by decide +kernel
def cb_R11 : String := "CauseBookModel"
def cb_T11 : u_T := fun k => match k with
  | 0 => ("CauseBookModel", "thrown", "I", false)
  | 1 => ("CauseBookModel", "status", "I", false)
  | 2 => ("CauseBookModel", "refusals", "[I", true)
  | 3 => ("CauseBookModel", "term", "[I", true)
  | 4 => ("CauseBookModel", "row", "[I", true)
  | 5 => ("CauseBookModel", "undos", "[I", true)
  | 6 => ("CauseBookModel", "sorts", "[I", true)
  | 7 => ("CauseBookModel", "nUndo", "I", false)
  | 8 => ("CauseBookModel", "images", "[I", true)
  | 9 => ("CauseBookModel", "isKept", "[Z", true)
  | 10 => ("CauseBookModel", "causeObject", "[I", true)
  | 11 => ("CauseBookModel", "causeEvent", "[I", true)
  | 12 => ("CauseBookModel", "nCauses", "I", false)
  | 13 => ("CauseBookModel", "signObject", "[I", true)
  | 14 => ("CauseBookModel", "signEvent", "[I", true)
  | 15 => ("CauseBookModel", "nSigns", "I", false)
  | 16 => ("CauseBookModel", "times", "[I", true)
  | 17 => ("CauseBookModel", "codes", "[I", true)
  | 18 => ("CauseBookModel", "least", "I", false)
  | 19 => ("CauseBookModel", "nearOnes", "I", false)
  | 20 => ("CauseBookModel", "leastOther", "I", false)
  | 21 => ("CauseBookModel", "keptCodes", "[I", true)
  | 22 => ("CauseBookModel", "keptLinks", "[I", true)
  | 23 => ("CauseBookModel", "sets", "[I", true)
  | _ => ("CauseBookModel", "nSets", "I", false)
def cb_t11 : Nat → FieldType := fun k => match k with
  | 0 => .int
  | 1 => .int
  | 2 => .array .int
  | 3 => .array .int
  | 4 => .array .int
  | 5 => .array .int
  | 6 => .array .int
  | 7 => .int
  | 8 => .array .int
  | 9 => .array .boolean
  | 10 => .array .int
  | 11 => .array .int
  | 12 => .int
  | 13 => .array .int
  | 14 => .array .int
  | 15 => .int
  | 16 => .array .int
  | 17 => .array .int
  | 18 => .int
  | 19 => .int
  | 20 => .int
  | 21 => .array .int
  | 22 => .array .int
  | 23 => .array .int
  | _ => .int
theorem cb_n11 : ∀ a, a < 25 → ∀ b, b < 25 → a ≠ b → (cb_T11 a).2.1 ≠ (cb_T11 b).2.1 := by decide +kernel
theorem cb_o11 : ∀ k, k < 25 → parseFieldDescriptor (cb_T11 k).2.2.1 = some (cb_t11 k) := by decide +kernel
def cb_cl : List vw_C := [(cb_R0, cb_T0, 6), (cb_R1, cb_T1, 5), (cb_R2, cb_T2, 15), (cb_R3, cb_T3, 4), (cb_R4, cb_T4, 4), (cb_R5, cb_T5, 13), (cb_R6, cb_T6, 5), (cb_R7, cb_T7, 2), (cb_R8, cb_T8, 4), (cb_R9, cb_T9, 9), (cb_R10, cb_T10, 14), (cb_R11, cb_T11, 25)]
/-- what a field holds: 0 an int, 1 a boolean, 2 a long, 3 a reference -/
def cb_ftL : List (List Nat) := [[3, 3, 3, 3, 2, 2], [3, 3, 3, 3, 0], [3, 3, 3, 3, 3, 3, 3, 3, 3, 0, 0, 0, 1, 1, 1], [3, 3, 0, 0], [3, 3, 0, 0], [0, 0, 0, 0, 0, 0, 3, 3, 3, 3, 3, 3, 3], [3, 3, 3, 0, 0], [3, 0], [0, 3, 3, 3], [3, 3, 3, 3, 3, 3, 3, 0, 1], [3, 3, 3, 3, 3, 3, 3, 3, 3, 3, 3, 3, 3, 3], [0, 0, 3, 3, 3, 3, 3, 0, 3, 3, 3, 3, 0, 3, 3, 0, 3, 3, 0, 0, 0, 3, 3, 3, 0]]
def cb_ft (ci k : Nat) : Nat := (cb_ftL.getD ci []).getD k 0
def cb_nf (ci : Nat) : Nat := (cb_ftL.getD ci []).length
/-- the cells: 0 an int array, 1 a boolean array, 2 a long array, 3 an array of Models (with their lengths), 4 an object (with the number of its kind), 5 a table that nobody writes -/
def cb_kdL : List (Nat × Nat) := [(4, 10), (4, 5), (0, 10), (0, 60), (0, 60), (0, 32), (0, 32), (0, 20), (0, 20), (4, 4), (3, 10), (0, 10), (4, 5), (0, 10), (0, 60), (0, 60), (0, 32), (0, 32), (0, 20), (0, 20), (4, 5), (0, 10), (0, 60), (0, 60), (0, 32), (0, 32), (0, 20), (0, 20), (4, 5), (0, 10), (0, 60), (0, 60), (0, 32), (0, 32), (0, 20), (0, 20), (4, 5), (0, 10), (0, 60), (0, 60), (0, 32), (0, 32), (0, 20), (0, 20), (4, 5), (0, 10), (0, 60), (0, 60), (0, 32), (0, 32), (0, 20), (0, 20), (4, 5), (0, 10), (0, 60), (0, 60), (0, 32), (0, 32), (0, 20), (0, 20), (4, 5), (0, 10), (0, 60), (0, 60), (0, 32), (0, 32), (0, 20), (0, 20), (4, 5), (0, 10), (0, 60), (0, 60), (0, 32), (0, 32), (0, 20), (0, 20), (4, 5), (0, 10), (0, 60), (0, 60), (0, 32), (0, 32), (0, 20), (0, 20), (4, 5), (0, 10), (0, 60), (0, 60), (0, 32), (0, 32), (0, 20), (0, 20), (3, 2), (1, 2), (4, 7), (0, 4), (0, 4), (4, 8), (0, 12), (0, 12), (0, 12), (4, 8), (0, 12), (0, 12), (0, 12), (4, 9), (0, 80), (0, 8), (0, 30), (0, 30), (0, 4), (4, 2), (0, 12), (0, 144), (0, 298), (0, 298), (0, 298), (4, 3), (4, 0), (2, 12), (4, 6), (0, 78), (0, 78), (4, 1), (0, 240), (4, 5), (0, 10), (0, 60), (0, 60), (0, 32), (0, 32), (0, 20), (0, 20), (4, 5), (0, 10), (0, 60), (0, 60), (0, 32), (0, 32), (0, 20), (0, 20), (4, 11), (0, 6), (0, 4), (0, 240), (0, 2400), (0, 10), (0, 480), (1, 2), (0, 12), (0, 12), (0, 12), (0, 12), (0, 80), (0, 12), (0, 12), (0, 60), (0, 1600), (5, 4)]
def cb_kd (k : Nat) : Nat × Nat := cb_kdL.getD k (9, 0)
def cb_rtL : List (List Nat) := [[1, 9, 92, 93, 94, 96, 97, 101, 105, 111, 117, 118, 120, 123], [0, 0, 0, 0, 0, 0, 2, 3, 4, 5, 6, 7, 8], [], [], [], [], [], [], [], [10, 11, 0, 0], [12, 20, 28, 36, 44, 52, 60, 68, 76, 84], [], [0, 0, 0, 0, 0, 0, 13, 14, 15, 16, 17, 18, 19], [], [], [], [], [], [], [], [0, 0, 0, 0, 0, 0, 21, 22, 23, 24, 25, 26, 27], [], [], [], [], [], [], [], [0, 0, 0, 0, 0, 0, 29, 30, 31, 32, 33, 34, 35], [], [], [], [], [], [], [], [0, 0, 0, 0, 0, 0, 37, 38, 39, 40, 41, 42, 43], [], [], [], [], [], [], [], [0, 0, 0, 0, 0, 0, 45, 46, 47, 48, 49, 50, 51], [], [], [], [], [], [], [], [0, 0, 0, 0, 0, 0, 53, 54, 55, 56, 57, 58, 59], [], [], [], [], [], [], [], [0, 0, 0, 0, 0, 0, 61, 62, 63, 64, 65, 66, 67], [], [], [], [], [], [], [], [0, 0, 0, 0, 0, 0, 69, 70, 71, 72, 73, 74, 75], [], [], [], [], [], [], [], [0, 0, 0, 0, 0, 0, 77, 78, 79, 80, 81, 82, 83], [], [], [], [], [], [], [], [0, 0, 0, 0, 0, 0, 85, 86, 87, 88, 89, 90, 91], [], [], [], [], [], [], [], [125, 133], [], [95, 0], [], [], [0, 98, 99, 100], [], [], [], [0, 102, 103, 104], [], [], [], [1, 97, 106, 107, 108, 109, 110, 0, 0], [], [], [], [], [], [1, 105, 97, 101, 112, 113, 114, 115, 116, 0, 0, 0, 0, 0, 0], [], [], [], [], [], [1, 111, 0, 0], [1, 111, 96, 119, 0, 0], [], [111, 121, 122, 0, 0], [], [], [1, 111, 96, 124, 0], [], [0, 0, 0, 0, 0, 0, 126, 127, 128, 129, 130, 131, 132], [], [], [], [], [], [], [], [0, 0, 0, 0, 0, 0, 134, 135, 136, 137, 138, 139, 140], [], [], [], [], [], [], [], [0, 0, 142, 143, 144, 145, 146, 0, 147, 148, 149, 150, 0, 151, 152, 0, 153, 154, 0, 0, 0, 155, 156, 157, 0], [], [], [], [], [], [], [], [], [], [], [], [], [], [], [], []]
def cb_rt (k j : Nat) : Nat := (cb_rtL.getD k []).getD j 0
/-- the words that stay true from call to call -/
def cb_ok (w : Cond) : Bool := goodWord w || (match w with
  | .fieldLinkNest _ _ _ _ _ _ => true
  | .methodLinkNest _ _ _ _ => true
  | _ => false)
def cb_TB : List Cond := lw_tbl.filter cb_ok
theorem cb_in (i : Nat) {w : Cond} (h : tables_1[i]? = some w) (hw : cb_ok w = true) : w ∈ cb_TB := List.mem_filter.mpr ⟨List.mem_append_right _ (List.mem_of_getElem? h), hw⟩
theorem cb_inp (i : Nat) {w : Cond} (h : (k2_sels lw_privs)[i]? = some w) (hw : cb_ok w = true) : w ∈ cb_TB := List.mem_filter.mpr ⟨List.mem_append_left _ (List.mem_of_getElem? h), hw⟩
theorem cb_inL {ws : List Cond} (ps : List Nat) (hp : ws = ps.filterMap (fun i => tables_1[i]?)) (hw : ws.all cb_ok = true) : ∀ w ∈ ws, w ∈ cb_TB := by
  intro w h
  have h1 := List.all_eq_true.mp hw w h
  rw [hp] at h
  obtain ⟨i, -, hi⟩ := List.mem_filterMap.mp h
  exact cb_in i hi h1
theorem cb_l0 : ∀ w ∈ u_ws cb_R0 cb_T0 6, w ∈ cb_TB := cb_inL [307, 309, 311, 313, 315, 317] (by decide +kernel) (by decide +kernel)
theorem cb_l1 : ∀ w ∈ u_ws cb_R1 cb_T1 5, w ∈ cb_TB := cb_inL [354, 356, 358, 360, 362] (by decide +kernel) (by decide +kernel)
theorem cb_l2 : ∀ w ∈ u_ws cb_R2 cb_T2 15, w ∈ cb_TB := cb_inL [240, 242, 244, 246, 248, 250, 252, 254, 256, 258, 260, 262, 264, 266, 268] (by decide +kernel) (by decide +kernel)
theorem cb_l3 : ∀ w ∈ u_ws cb_R3 cb_T3 4, w ∈ cb_TB := cb_inL [283, 285, 287, 289] (by decide +kernel) (by decide +kernel)
theorem cb_l4 : ∀ w ∈ u_ws cb_R4 cb_T4 4, w ∈ cb_TB := cb_inL [109, 111, 113, 115] (by decide +kernel) (by decide +kernel)
theorem cb_l5 : ∀ w ∈ u_ws cb_R5 cb_T5 13, w ∈ cb_TB := cb_inL [67, 69, 71, 73, 75, 77, 79, 81, 83, 85, 87, 89, 91] (by decide +kernel) (by decide +kernel)
theorem cb_l6 : ∀ w ∈ u_ws cb_R6 cb_T6 5, w ∈ cb_TB := cb_inL [332, 334, 336, 338, 340] (by decide +kernel) (by decide +kernel)
theorem cb_l7 : ∀ w ∈ u_ws cb_R7 cb_T7 2, w ∈ cb_TB := cb_inL [128, 130] (by decide +kernel) (by decide +kernel)
theorem cb_l8 : ∀ w ∈ u_ws cb_R8 cb_T8 4, w ∈ cb_TB := cb_inL [159, 161, 163, 165] (by decide +kernel) (by decide +kernel)
theorem cb_l9 : ∀ w ∈ u_ws cb_R9 cb_T9 9, w ∈ cb_TB := cb_inL [183, 185, 187, 189, 191, 193, 195, 197, 199] (by decide +kernel) (by decide +kernel)
theorem cb_l10 : ∀ w ∈ u_ws cb_R10 cb_T10 14, w ∈ cb_TB := cb_inL [384, 386, 388, 390, 392, 394, 396, 398, 400, 402, 404, 406, 408, 410] (by decide +kernel) (by decide +kernel)
theorem cb_l11 : ∀ w ∈ u_ws cb_R11 cb_T11 25, w ∈ cb_TB := cb_inL [1081, 1083, 1085, 1087, 1089, 1091, 1093, 1095, 1097, 1099, 1101, 1103, 1105, 1107, 1109, 1111, 1113, 1115, 1117, 1119, 1121, 1123, 1125, 1127, 1129] (by decide +kernel) (by decide +kernel)
/-- all that the tables say of a kind of object -/
def cb_C (ci : Nat) (C : String) (T : u_T) (N : Nat) (ty : Nat → FieldType) : Prop := cb_cl[ci]? = some (C, T, N) ∧ (∀ w ∈ u_ws C T N, w ∈ cb_TB) ∧ (∀ k, k < N → parseFieldDescriptor (T k).2.2.1 = some (ty k)) ∧ (∀ a, a < N → ∀ b, b < N → a ≠ b → (T a).2.1 ≠ (T b).2.1) ∧ cb_nf ci = N
theorem cb_c0 : cb_C 0 cb_R0 cb_T0 6 cb_t0 := ⟨rfl, cb_l0, cb_o0, cb_n0, rfl⟩
theorem cb_c1 : cb_C 1 cb_R1 cb_T1 5 cb_t1 := ⟨rfl, cb_l1, cb_o1, cb_n1, rfl⟩
theorem cb_c2 : cb_C 2 cb_R2 cb_T2 15 cb_t2 := ⟨rfl, cb_l2, cb_o2, cb_n2, rfl⟩
theorem cb_c3 : cb_C 3 cb_R3 cb_T3 4 cb_t3 := ⟨rfl, cb_l3, cb_o3, cb_n3, rfl⟩
theorem cb_c4 : cb_C 4 cb_R4 cb_T4 4 cb_t4 := ⟨rfl, cb_l4, cb_o4, cb_n4, rfl⟩
theorem cb_c5 : cb_C 5 cb_R5 cb_T5 13 cb_t5 := ⟨rfl, cb_l5, cb_o5, cb_n5, rfl⟩
theorem cb_c6 : cb_C 6 cb_R6 cb_T6 5 cb_t6 := ⟨rfl, cb_l6, cb_o6, cb_n6, rfl⟩
theorem cb_c7 : cb_C 7 cb_R7 cb_T7 2 cb_t7 := ⟨rfl, cb_l7, cb_o7, cb_n7, rfl⟩
theorem cb_c8 : cb_C 8 cb_R8 cb_T8 4 cb_t8 := ⟨rfl, cb_l8, cb_o8, cb_n8, rfl⟩
theorem cb_c9 : cb_C 9 cb_R9 cb_T9 9 cb_t9 := ⟨rfl, cb_l9, cb_o9, cb_n9, rfl⟩
theorem cb_c10 : cb_C 10 cb_R10 cb_T10 14 cb_t10 := ⟨rfl, cb_l10, cb_o10, cb_n10, rfl⟩
theorem cb_c11 : cb_C 11 cb_R11 cb_T11 25 cb_t11 := ⟨rfl, cb_l11, cb_o11, cb_n11, rfl⟩
