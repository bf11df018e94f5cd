/-! NAMES: the classes, their fields in the order of the slots, by program out of the claim's printed names -/
def RX0 : String := "HutAnswers$Draws"
def TX0 : u_T := fun k => match k with
  | _ => ("HutAnswers$Draws", "seed", "I", false)
def tyX0 : Nat → FieldType := fun k => match k with
  | _ => .int
abbrev wsX00 : List Cond := u_ws RX0 TX0 1
theorem nmX0 : ∀ a, a < 1 → ∀ b, b < 1 → a ≠ b → (TX0 a).2.1 ≠ (TX0 b).2.1 := by decide +kernel
theorem tyX0_ok : ∀ k, k < 1 → parseFieldDescriptor (TX0 k).2.2.1 = some (tyX0 k) := by decide +kernel
set_option maxRecDepth 20000 in
theorem inX0 : ∀ w ∈ wsX00, w ∈ lw_tbl := by decide +kernel
def RX1 : String := "HutAnswers$Hut"
def TX1 : u_T := fun k => match k with
  | 0 => ("HutAnswers$Hut", "things", "I", false)
  | 1 => ("HutAnswers$Hut", "weight", "[I", true)
  | 2 => ("HutAnswers$Hut", "questions", "I", false)
  | 3 => ("HutAnswers$Hut", "years", "[I", true)
  | 4 => ("HutAnswers$Hut", "sort", "[I", true)
  | 5 => ("HutAnswers$Hut", "answers", "[I", true)
  | 6 => ("HutAnswers$Hut", "asked", "[I", true)
  | 7 => ("HutAnswers$Hut", "hidden", "I", false)
  | 8 => ("HutAnswers$Hut", "known", "I", false)
  | 9 => ("HutAnswers$Hut", "tea", "I", false)
  | 10 => ("HutAnswers$Hut", "visitors", "I", false)
  | 11 => ("HutAnswers$Hut", "want", "[I", true)
  | 12 => ("HutAnswers$Hut", "term", "[I", true)
  | 13 => ("HutAnswers$Hut", "laws", "I", false)
  | 14 => ("HutAnswers$Hut", "law", "[LHutAnswers$Text;", true)
  | _ => ("HutAnswers$Hut", "force", "I", false)
def tyX1 : Nat → FieldType := fun k => match k with
  | 0 => .int
  | 1 => .array .int
  | 2 => .int
  | 3 => .array .int
  | 4 => .array .int
  | 5 => .array .int
  | 6 => .array .int
  | 7 => .int
  | 8 => .int
  | 9 => .int
  | 10 => .int
  | 11 => .array .int
  | 12 => .array .int
  | 13 => .int
  | 14 => .array (.object "HutAnswers$Text")
  | _ => .int
abbrev wsX10 : List Cond := u_ws RX1 TX1 16
theorem nmX1 : ∀ a, a < 16 → ∀ b, b < 16 → a ≠ b → (TX1 a).2.1 ≠ (TX1 b).2.1 := by decide +kernel
theorem tyX1_ok : ∀ k, k < 16 → parseFieldDescriptor (TX1 k).2.2.1 = some (tyX1 k) := by decide +kernel
set_option maxRecDepth 20000 in
theorem inX1 : ∀ w ∈ wsX10, w ∈ lw_tbl := by decide +kernel
def RX2 : String := "HutAnswers$Judge"
def TX2 : u_T := fun k => match k with
  | 0 => ("HutAnswers$Judge", "word", "[I", true)
  | _ => ("HutAnswers$Judge", "stack", "[I", true)
def tyX2 : Nat → FieldType := fun k => match k with
  | 0 => .array .int
  | _ => .array .int
abbrev wsX20 : List Cond := u_ws RX2 TX2 2
theorem nmX2 : ∀ a, a < 2 → ∀ b, b < 2 → a ≠ b → (TX2 a).2.1 ≠ (TX2 b).2.1 := by decide +kernel
theorem tyX2_ok : ∀ k, k < 2 → parseFieldDescriptor (TX2 k).2.2.1 = some (tyX2 k) := by decide +kernel
set_option maxRecDepth 20000 in
theorem inX2 : ∀ w ∈ wsX20, w ∈ lw_tbl := by decide +kernel
def RX3 : String := "HutAnswers$Paper"
def TX3 : u_T := fun k => match k with
  | 0 => ("HutAnswers$Paper", "judge", "LHutAnswers$Judge;", true)
  | 1 => ("HutAnswers$Paper", "hut", "LHutAnswers$Hut;", false)
  | 2 => ("HutAnswers$Paper", "law", "LHutAnswers$Text;", false)
  | 3 => ("HutAnswers$Paper", "least", "I", false)
  | 4 => ("HutAnswers$Paper", "first", "I", false)
  | 5 => ("HutAnswers$Paper", "bits", "I", false)
  | 6 => ("HutAnswers$Paper", "bestRow", "[I", true)
  | 7 => ("HutAnswers$Paper", "leastOf", "[I", true)
  | 8 => ("HutAnswers$Paper", "yearsOf", "[I", true)
  | 9 => ("HutAnswers$Paper", "thingsOf", "[I", true)
  | 10 => ("HutAnswers$Paper", "told", "[I", true)
  | 11 => ("HutAnswers$Paper", "tellings", "I", false)
  | 12 => ("HutAnswers$Paper", "row", "[I", true)
  | 13 => ("HutAnswers$Paper", "seen", "[J", true)
  | 14 => ("HutAnswers$Paper", "yearsAt", "[B", true)
  | 15 => ("HutAnswers$Paper", "more", "[I", true)
  | 16 => ("HutAnswers$Paper", "wanted", "I", false)
  | _ => ("HutAnswers$Paper", "found", "I", false)
def tyX3 : Nat → FieldType := fun k => match k with
  | 0 => .object "HutAnswers$Judge"
  | 1 => .object "HutAnswers$Hut"
  | 2 => .object "HutAnswers$Text"
  | 3 => .int
  | 4 => .int
  | 5 => .int
  | 6 => .array .int
  | 7 => .array .int
  | 8 => .array .int
  | 9 => .array .int
  | 10 => .array .int
  | 11 => .int
  | 12 => .array .int
  | 13 => .array .long
  | 14 => .array .byte
  | 15 => .array .int
  | 16 => .int
  | _ => .int
abbrev wsX30 : List Cond := u_ws RX3 TX3 18
theorem nmX3 : ∀ a, a < 18 → ∀ b, b < 18 → a ≠ b → (TX3 a).2.1 ≠ (TX3 b).2.1 := by decide +kernel
theorem tyX3_ok : ∀ k, k < 18 → parseFieldDescriptor (TX3 k).2.2.1 = some (tyX3 k) := by decide +kernel
set_option maxRecDepth 20000 in
theorem inX3 : ∀ w ∈ wsX30, w ∈ lw_tbl := by decide +kernel
def RX4 : String := "HutAnswers$Past"
def TX4 : u_T := fun k => match k with
  | 0 => ("HutAnswers$Past", "rows", "[I", true)
  | 1 => ("HutAnswers$Past", "next", "I", false)
  | _ => ("HutAnswers$Past", "kept", "I", false)
def tyX4 : Nat → FieldType := fun k => match k with
  | 0 => .array .int
  | 1 => .int
  | _ => .int
abbrev wsX40 : List Cond := u_ws RX4 TX4 3
theorem nmX4 : ∀ a, a < 3 → ∀ b, b < 3 → a ≠ b → (TX4 a).2.1 ≠ (TX4 b).2.1 := by decide +kernel
theorem tyX4_ok : ∀ k, k < 3 → parseFieldDescriptor (TX4 k).2.2.1 = some (tyX4 k) := by decide +kernel
set_option maxRecDepth 20000 in
theorem inX4 : ∀ w ∈ wsX40, w ∈ lw_tbl := by decide +kernel
def RX5 : String := "HutAnswers$Reader"
def TX5 : u_T := fun k => match k with
  | 0 => ("HutAnswers$Reader", "text", "LHutAnswers$Text;", true)
  | 1 => ("HutAnswers$Reader", "bytes", "[I", false)
  | 2 => ("HutAnswers$Reader", "length", "I", false)
  | 3 => ("HutAnswers$Reader", "ofOrders", "Z", false)
  | 4 => ("HutAnswers$Reader", "start", "I", false)
  | 5 => ("HutAnswers$Reader", "stop", "I", false)
  | _ => ("HutAnswers$Reader", "parts", "I", false)
def tyX5 : Nat → FieldType := fun k => match k with
  | 0 => .object "HutAnswers$Text"
  | 1 => .array .int
  | 2 => .int
  | 3 => .boolean
  | 4 => .int
  | 5 => .int
  | _ => .int
abbrev wsX50 : List Cond := u_ws RX5 TX5 7
theorem nmX5 : ∀ a, a < 7 → ∀ b, b < 7 → a ≠ b → (TX5 a).2.1 ≠ (TX5 b).2.1 := by decide +kernel
theorem tyX5_ok : ∀ k, k < 7 → parseFieldDescriptor (TX5 k).2.2.1 = some (tyX5 k) := by decide +kernel
set_option maxRecDepth 20000 in
theorem inX5 : ∀ w ∈ wsX50, w ∈ lw_tbl := by decide +kernel
def RX6 : String := "HutAnswers$Tape"
def TX6 : u_T := fun k => match k with
  | 0 => ("HutAnswers$Tape", "bytes", "[I", true)
  | _ => ("HutAnswers$Tape", "length", "I", false)
def tyX6 : Nat → FieldType := fun k => match k with
  | 0 => .array .int
  | _ => .int
abbrev wsX60 : List Cond := u_ws RX6 TX6 2
theorem nmX6 : ∀ a, a < 2 → ∀ b, b < 2 → a ≠ b → (TX6 a).2.1 ≠ (TX6 b).2.1 := by decide +kernel
theorem tyX6_ok : ∀ k, k < 2 → parseFieldDescriptor (TX6 k).2.2.1 = some (tyX6 k) := by decide +kernel
set_option maxRecDepth 20000 in
theorem inX6 : ∀ w ∈ wsX60, w ∈ lw_tbl := by decide +kernel
def RX7 : String := "HutAnswers$Text"
def TX7 : u_T := fun k => match k with
  | 0 => ("HutAnswers$Text", "clauses", "I", false)
  | 1 => ("HutAnswers$Text", "kind", "[I", true)
  | 2 => ("HutAnswers$Text", "times", "[I", true)
  | 3 => ("HutAnswers$Text", "from", "[I", true)
  | 4 => ("HutAnswers$Text", "middle", "[I", true)
  | 5 => ("HutAnswers$Text", "to", "[I", true)
  | 6 => ("HutAnswers$Text", "codes", "I", false)
  | 7 => ("HutAnswers$Text", "op", "[I", true)
  | _ => ("HutAnswers$Text", "arg", "[I", true)
def tyX7 : Nat → FieldType := fun k => match k with
  | 0 => .int
  | 1 => .array .int
  | 2 => .array .int
  | 3 => .array .int
  | 4 => .array .int
  | 5 => .array .int
  | 6 => .int
  | 7 => .array .int
  | _ => .array .int
abbrev wsX70 : List Cond := u_ws RX7 TX7 9
theorem nmX7 : ∀ a, a < 9 → ∀ b, b < 9 → a ≠ b → (TX7 a).2.1 ≠ (TX7 b).2.1 := by decide +kernel
theorem tyX7_ok : ∀ k, k < 9 → parseFieldDescriptor (TX7 k).2.2.1 = some (tyX7 k) := by decide +kernel
set_option maxRecDepth 20000 in
theorem inX7 : ∀ w ∈ wsX70, w ∈ lw_tbl := by decide +kernel
def RX8 : String := "HutAnswers"
def TX8 : u_T := fun k => match k with
  | 0 => ("HutAnswers", "tape", "LHutAnswers$Tape;", true)
  | 1 => ("HutAnswers", "reader", "LHutAnswers$Reader;", true)
  | 2 => ("HutAnswers", "judge", "LHutAnswers$Judge;", true)
  | 3 => ("HutAnswers", "paper", "LHutAnswers$Paper;", true)
  | 4 => ("HutAnswers", "draws", "LHutAnswers$Draws;", true)
  | 5 => ("HutAnswers", "now", "LHutAnswers$Hut;", true)
  | 6 => ("HutAnswers", "past", "LHutAnswers$Past;", true)
  | 7 => ("HutAnswers", "ahead", "LHutAnswers$Hut;", true)
  | 8 => ("HutAnswers", "pastAhead", "LHutAnswers$Past;", true)
  | 9 => ("HutAnswers", "latestHuts", "LHutAnswers$Hut;", true)
  | 10 => ("HutAnswers", "hutsKept", "Z", false)
  | 11 => ("HutAnswers", "images", "[LHutAnswers$Hut;", true)
  | 12 => ("HutAnswers", "imageKept", "[Z", true)
  | 13 => ("HutAnswers", "refusals", "[I", true)
  | 14 => ("HutAnswers", "latestRefusal", "I", false)
  | 15 => ("HutAnswers", "latestFault", "I", false)
  | 16 => ("HutAnswers", "latestStop", "I", false)
  | _ => ("HutAnswers", "latestHens", "I", false)
def tyX8 : Nat → FieldType := fun k => match k with
  | 0 => .object "HutAnswers$Tape"
  | 1 => .object "HutAnswers$Reader"
  | 2 => .object "HutAnswers$Judge"
  | 3 => .object "HutAnswers$Paper"
  | 4 => .object "HutAnswers$Draws"
  | 5 => .object "HutAnswers$Hut"
  | 6 => .object "HutAnswers$Past"
  | 7 => .object "HutAnswers$Hut"
  | 8 => .object "HutAnswers$Past"
  | 9 => .object "HutAnswers$Hut"
  | 10 => .boolean
  | 11 => .array (.object "HutAnswers$Hut")
  | 12 => .array .boolean
  | 13 => .array .int
  | 14 => .int
  | 15 => .int
  | 16 => .int
  | _ => .int
abbrev wsX80 : List Cond := u_ws RX8 TX8 18
theorem nmX8 : ∀ a, a < 18 → ∀ b, b < 18 → a ≠ b → (TX8 a).2.1 ≠ (TX8 b).2.1 := by decide +kernel
theorem tyX8_ok : ∀ k, k < 18 → parseFieldDescriptor (TX8 k).2.2.1 = some (tyX8 k) := by decide +kernel
set_option maxRecDepth 20000 in
theorem inX8 : ∀ w ∈ wsX80, w ∈ lw_tbl := by decide +kernel
def RX9 : String := "HutAnswersModel"
def TX9 : u_T := fun k => match k with
  | 0 => ("HutAnswersModel", "status", "I", false)
  | 1 => ("HutAnswersModel", "refused", "[I", true)
  | 2 => ("HutAnswersModel", "kept", "[I", true)
  | 3 => ("HutAnswersModel", "images", "[I", true)
  | 4 => ("HutAnswersModel", "hasImage", "[Z", true)
  | 5 => ("HutAnswersModel", "aside", "[I", true)
  | 6 => ("HutAnswersModel", "hens0", "I", false)
  | 7 => ("HutAnswersModel", "words", "[B", true)
  | 8 => ("HutAnswersModel", "firstWord", "I", false)
  | 9 => ("HutAnswersModel", "lastWord", "I", false)
  | 10 => ("HutAnswersModel", "isOrders", "Z", false)
  | 11 => ("HutAnswersModel", "tape", "[B", true)
  | 12 => ("HutAnswersModel", "five", "[I", true)
  | 13 => ("HutAnswersModel", "taped", "I", false)
  | 14 => ("HutAnswersModel", "fault", "I", false)
  | 15 => ("HutAnswersModel", "code", "[I", true)
  | 16 => ("HutAnswersModel", "value", "[I", true)
  | 17 => ("HutAnswersModel", "placed", "[I", true)
  | 18 => ("HutAnswersModel", "tokens", "I", false)
  | 19 => ("HutAnswersModel", "token", "I", false)
  | 20 => ("HutAnswersModel", "leaves", "I", false)
  | 21 => ("HutAnswersModel", "bad", "I", false)
  | 22 => ("HutAnswersModel", "go", "I", false)
  | 23 => ("HutAnswersModel", "goEnd", "I", false)
  | 24 => ("HutAnswersModel", "broken", "Z", false)
  | 25 => ("HutAnswersModel", "inOrders", "Z", false)
  | 26 => ("HutAnswersModel", "asked", "[I", true)
  | 27 => ("HutAnswersModel", "orderDone", "I", false)
  | 28 => ("HutAnswersModel", "orderAnswer", "I", false)
  | 29 => ("HutAnswersModel", "left0", "[I", true)
  | 30 => ("HutAnswersModel", "leftAhead", "[I", true)
  | 31 => ("HutAnswersModel", "undoMany", "I", false)
  | 32 => ("HutAnswersModel", "takes1", "[I", true)
  | 33 => ("HutAnswersModel", "first0", "I", false)
  | 34 => ("HutAnswersModel", "row0", "[I", true)
  | 35 => ("HutAnswersModel", "bestRow", "[I", true)
  | 36 => ("HutAnswersModel", "least0", "I", false)
  | 37 => ("HutAnswersModel", "stopped0", "I", false)
  | 38 => ("HutAnswersModel", "orderAt", "I", false)
  | 39 => ("HutAnswersModel", "timesOf", "I", false)
  | 40 => ("HutAnswersModel", "head", "I", false)
  | 41 => ("HutAnswersModel", "sumsAre", "Z", false)
  | 42 => ("HutAnswersModel", "testIs", "Z", false)
  | 43 => ("HutAnswersModel", "sum0", "J", false)
  | 44 => ("HutAnswersModel", "undoAhead", "I", false)
  | 45 => ("HutAnswersModel", "drawnMoved", "[I", true)
  | 46 => ("HutAnswersModel", "drawnQuestions", "I", false)
  | _ => ("HutAnswersModel", "latest", "I", false)
def tyX9 : Nat → FieldType := fun k => match k with
  | 0 => .int
  | 1 => .array .int
  | 2 => .array .int
  | 3 => .array .int
  | 4 => .array .boolean
  | 5 => .array .int
  | 6 => .int
  | 7 => .array .byte
  | 8 => .int
  | 9 => .int
  | 10 => .boolean
  | 11 => .array .byte
  | 12 => .array .int
  | 13 => .int
  | 14 => .int
  | 15 => .array .int
  | 16 => .array .int
  | 17 => .array .int
  | 18 => .int
  | 19 => .int
  | 20 => .int
  | 21 => .int
  | 22 => .int
  | 23 => .int
  | 24 => .boolean
  | 25 => .boolean
  | 26 => .array .int
  | 27 => .int
  | 28 => .int
  | 29 => .array .int
  | 30 => .array .int
  | 31 => .int
  | 32 => .array .int
  | 33 => .int
  | 34 => .array .int
  | 35 => .array .int
  | 36 => .int
  | 37 => .int
  | 38 => .int
  | 39 => .int
  | 40 => .int
  | 41 => .boolean
  | 42 => .boolean
  | 43 => .long
  | 44 => .int
  | 45 => .array .int
  | 46 => .int
  | _ => .int
abbrev wsX90 : List Cond := u_ws RX9 TX9 48
theorem nmX9 : ∀ a, a < 48 → ∀ b, b < 48 → a ≠ b → (TX9 a).2.1 ≠ (TX9 b).2.1 := by decide +kernel
theorem tyX9_ok : ∀ k, k < 48 → parseFieldDescriptor (TX9 k).2.2.1 = some (tyX9 k) := by decide +kernel
set_option maxRecDepth 20000 in
theorem inX9 : ∀ w ∈ wsX90, w ∈ lw_tbl := by decide +kernel
abbrev pm_cl : List vw_C := [(RX0, TX0, 1), (RX1, TX1, 16), (RX2, TX2, 2), (RX3, TX3, 18), (RX4, TX4, 3), (RX5, TX5, 7), (RX6, TX6, 2), (RX7, TX7, 9), (RX8, TX8, 18), (RX9, TX9, 48)]
