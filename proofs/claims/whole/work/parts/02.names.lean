def RX0 : String := "KeyKeepers$Counting"
def TX0 : u_T := fun k => match k with
  | 0 => ("KeyKeepers$Counting", "set", "[I", true)
  | 1 => ("KeyKeepers$Counting", "sets", "I", false)
  | 2 => ("KeyKeepers$Counting", "bestGroup", "I", false)
  | 3 => ("KeyKeepers$Counting", "bestLeft", "I", false)
  | 4 => ("KeyKeepers$Counting", "alike", "[I", true)
  | _ => ("KeyKeepers$Counting", "sidesAt", "[I", true)
def tyX0 : Nat → FieldType := fun k => match k with
  | 0 => .array .int
  | 1 => .int
  | 2 => .int
  | 3 => .int
  | 4 => .array .int
  | _ => .array .int
theorem nmX0 : ∀ a, a < 6 → ∀ b, b < 6 → a ≠ b → (TX0 a).2.1 ≠ (TX0 b).2.1 := by decide +kernel
theorem tyX0_ok : ∀ k, k < 6 → parseFieldDescriptor (TX0 k).2.2.1 = some (tyX0 k) := by decide +kernel
def RX1 : String := "KeyKeepers$Doors"
def TX1 : u_T := fun k => match k with
  | 0 => ("KeyKeepers$Doors", "keepers", "[I", true)
  | 1 => ("KeyKeepers$Doors", "doorsAt", "[I", true)
  | _ => ("KeyKeepers$Doors", "between", "[I", true)
def tyX1 : Nat → FieldType := fun k => match k with
  | 0 => .array .int
  | 1 => .array .int
  | _ => .array .int
theorem nmX1 : ∀ a, a < 3 → ∀ b, b < 3 → a ≠ b → (TX1 a).2.1 ≠ (TX1 b).2.1 := by decide +kernel
theorem tyX1_ok : ∀ k, k < 3 → parseFieldDescriptor (TX1 k).2.2.1 = some (tyX1 k) := by decide +kernel
def RX2 : String := "KeyKeepers$Goings"
def TX2 : u_T := fun k => match k with
  | 0 => ("KeyKeepers$Goings", "kept", "I", false)
  | 1 => ("KeyKeepers$Goings", "kind", "[I", true)
  | 2 => ("KeyKeepers$Goings", "who", "[I", true)
  | 3 => ("KeyKeepers$Goings", "was", "[I", true)
  | 4 => ("KeyKeepers$Goings", "other", "[I", true)
  | _ => ("KeyKeepers$Goings", "otherWas", "[I", true)
def tyX2 : Nat → FieldType := fun k => match k with
  | 0 => .int
  | 1 => .array .int
  | 2 => .array .int
  | 3 => .array .int
  | 4 => .array .int
  | _ => .array .int
theorem nmX2 : ∀ a, a < 6 → ∀ b, b < 6 → a ≠ b → (TX2 a).2.1 ≠ (TX2 b).2.1 := by decide +kernel
theorem tyX2_ok : ∀ k, k < 6 → parseFieldDescriptor (TX2 k).2.2.1 = some (tyX2 k) := by decide +kernel
def RX3 : String := "KeyKeepers$Judge"
def TX3 : u_T := fun k => match k with
  | 0 => ("KeyKeepers$Judge", "machine", "LKeyKeepers$Machine;", true)
  | 1 => ("KeyKeepers$Judge", "restOut", "I", false)
  | 2 => ("KeyKeepers$Judge", "restRounds", "I", false)
  | 3 => ("KeyKeepers$Judge", "asked", "[I", true)
  | _ => ("KeyKeepers$Judge", "stays", "[I", true)
def tyX3 : Nat → FieldType := fun k => match k with
  | 0 => .object "KeyKeepers$Machine"
  | 1 => .int
  | 2 => .int
  | 3 => .array .int
  | _ => .array .int
theorem nmX3 : ∀ a, a < 5 → ∀ b, b < 5 → a ≠ b → (TX3 a).2.1 ≠ (TX3 b).2.1 := by decide +kernel
theorem tyX3_ok : ∀ k, k < 5 → parseFieldDescriptor (TX3 k).2.2.1 = some (tyX3 k) := by decide +kernel
def RX4 : String := "KeyKeepers$Machine"
def TX4 : u_T := fun k => match k with
  | 0 => ("KeyKeepers$Machine", "words", "[I", true)
  | 1 => ("KeyKeepers$Machine", "value", "I", false)
  | 2 => ("KeyKeepers$Machine", "stack", "[I", true)
  | _ => ("KeyKeepers$Machine", "height", "I", false)
def tyX4 : Nat → FieldType := fun k => match k with
  | 0 => .array .int
  | 1 => .int
  | 2 => .array .int
  | _ => .int
theorem nmX4 : ∀ a, a < 4 → ∀ b, b < 4 → a ≠ b → (TX4 a).2.1 ≠ (TX4 b).2.1 := by decide +kernel
theorem tyX4_ok : ∀ k, k < 4 → parseFieldDescriptor (TX4 k).2.2.1 = some (tyX4 k) := by decide +kernel
def RX5 : String := "KeyKeepers$Nights"
def TX5 : u_T := fun k => match k with
  | 0 => ("KeyKeepers$Nights", "people", "I", false)
  | 1 => ("KeyKeepers$Nights", "bread", "I", false)
  | 2 => ("KeyKeepers$Nights", "place", "[I", true)
  | _ => ("KeyKeepers$Nights", "seed", "I", false)
def tyX5 : Nat → FieldType := fun k => match k with
  | 0 => .int
  | 1 => .int
  | 2 => .array .int
  | _ => .int
theorem nmX5 : ∀ a, a < 4 → ∀ b, b < 4 → a ≠ b → (TX5 a).2.1 ≠ (TX5 b).2.1 := by decide +kernel
theorem tyX5_ok : ∀ k, k < 4 → parseFieldDescriptor (TX5 k).2.2.1 = some (tyX5 k) := by decide +kernel
def RX6 : String := "KeyKeepers$Prison"
def TX6 : u_T := fun k => match k with
  | 0 => ("KeyKeepers$Prison", "one", "[I", true)
  | 1 => ("KeyKeepers$Prison", "other", "[I", true)
  | 2 => ("KeyKeepers$Prison", "doors", "I", false)
  | 3 => ("KeyKeepers$Prison", "walls", "I", false)
  | 4 => ("KeyKeepers$Prison", "years", "[I", true)
  | 5 => ("KeyKeepers$Prison", "want", "[I", true)
  | 6 => ("KeyKeepers$Prison", "place", "[I", true)
  | 7 => ("KeyKeepers$Prison", "keys", "[I", true)
  | 8 => ("KeyKeepers$Prison", "trusts", "[I", true)
  | 9 => ("KeyKeepers$Prison", "votes", "I", false)
  | 10 => ("KeyKeepers$Prison", "people", "I", false)
  | 11 => ("KeyKeepers$Prison", "groups", "[I", true)
  | 12 => ("KeyKeepers$Prison", "insides", "[I", true)
  | 13 => ("KeyKeepers$Prison", "counts", "I", false)
  | 14 => ("KeyKeepers$Prison", "laws", "[LKeyKeepers$Text;", true)
  | 15 => ("KeyKeepers$Prison", "lawCount", "I", false)
  | 16 => ("KeyKeepers$Prison", "inForce", "I", false)
  | 17 => ("KeyKeepers$Prison", "terms", "[I", true)
  | _ => ("KeyKeepers$Prison", "bread", "I", false)
def tyX6 : Nat → FieldType := fun k => match k with
  | 0 => .array .int
  | 1 => .array .int
  | 2 => .int
  | 3 => .int
  | 4 => .array .int
  | 5 => .array .int
  | 6 => .array .int
  | 7 => .array .int
  | 8 => .array .int
  | 9 => .int
  | 10 => .int
  | 11 => .array .int
  | 12 => .array .int
  | 13 => .int
  | 14 => .array (.object "KeyKeepers$Text")
  | 15 => .int
  | 16 => .int
  | 17 => .array .int
  | _ => .int
theorem nmX6 : ∀ a, a < 19 → ∀ b, b < 19 → a ≠ b → (TX6 a).2.1 ≠ (TX6 b).2.1 := by decide +kernel
theorem tyX6_ok : ∀ k, k < 19 → parseFieldDescriptor (TX6 k).2.2.1 = some (tyX6 k) := by decide +kernel
def RX7 : String := "KeyKeepers$Reader"
def TX7 : u_T := fun k => match k with
  | 0 => ("KeyKeepers$Reader", "tape", "[I", true)
  | 1 => ("KeyKeepers$Reader", "size", "I", false)
  | 2 => ("KeyKeepers$Reader", "faultAt", "I", false)
  | 3 => ("KeyKeepers$Reader", "draft", "LKeyKeepers$Text;", true)
  | 4 => ("KeyKeepers$Reader", "forLaw", "Z", false)
  | 5 => ("KeyKeepers$Reader", "tokens", "[I", true)
  | 6 => ("KeyKeepers$Reader", "starts", "[I", true)
  | 7 => ("KeyKeepers$Reader", "at", "I", false)
  | 8 => ("KeyKeepers$Reader", "token", "I", false)
  | _ => ("KeyKeepers$Reader", "parts", "I", false)
def tyX7 : Nat → FieldType := fun k => match k with
  | 0 => .array .int
  | 1 => .int
  | 2 => .int
  | 3 => .object "KeyKeepers$Text"
  | 4 => .boolean
  | 5 => .array .int
  | 6 => .array .int
  | 7 => .int
  | 8 => .int
  | _ => .int
theorem nmX7 : ∀ a, a < 10 → ∀ b, b < 10 → a ≠ b → (TX7 a).2.1 ≠ (TX7 b).2.1 := by decide +kernel
theorem tyX7_ok : ∀ k, k < 10 → parseFieldDescriptor (TX7 k).2.2.1 = some (tyX7 k) := by decide +kernel
def RX8 : String := "KeyKeepers$Rota"
def TX8 : u_T := fun k => match k with
  | 0 => ("KeyKeepers$Rota", "cost", "I", false)
  | 1 => ("KeyKeepers$Rota", "many", "I", false)
  | 2 => ("KeyKeepers$Rota", "row", "[I", true)
  | 3 => ("KeyKeepers$Rota", "joined", "[I", true)
  | 4 => ("KeyKeepers$Rota", "sizes", "[I", true)
  | 5 => ("KeyKeepers$Rota", "highest", "[I", true)
  | 6 => ("KeyKeepers$Rota", "shares", "[I", true)
  | 7 => ("KeyKeepers$Rota", "leastBehind", "[I", true)
  | 8 => ("KeyKeepers$Rota", "waysBehind", "[I", true)
  | 9 => ("KeyKeepers$Rota", "price", "[I", true)
  | _ => ("KeyKeepers$Rota", "pick", "I", false)
def tyX8 : Nat → FieldType := fun k => match k with
  | 0 => .int
  | 1 => .int
  | 2 => .array .int
  | 3 => .array .int
  | 4 => .array .int
  | 5 => .array .int
  | 6 => .array .int
  | 7 => .array .int
  | 8 => .array .int
  | 9 => .array .int
  | _ => .int
theorem nmX8 : ∀ a, a < 11 → ∀ b, b < 11 → a ≠ b → (TX8 a).2.1 ≠ (TX8 b).2.1 := by decide +kernel
theorem tyX8_ok : ∀ k, k < 11 → parseFieldDescriptor (TX8 k).2.2.1 = some (tyX8 k) := by decide +kernel
def RX9 : String := "KeyKeepers$Sergeant"
def TX9 : u_T := fun k => match k with
  | 0 => ("KeyKeepers$Sergeant", "done", "I", false)
  | 1 => ("KeyKeepers$Sergeant", "stoppedAt", "I", false)
  | 2 => ("KeyKeepers$Sergeant", "found", "I", false)
  | 3 => ("KeyKeepers$Sergeant", "aheadPrison", "LKeyKeepers$Prison;", true)
  | 4 => ("KeyKeepers$Sergeant", "aheadGoings", "LKeyKeepers$Goings;", true)
  | _ => ("KeyKeepers$Sergeant", "sums", "[I", true)
def tyX9 : Nat → FieldType := fun k => match k with
  | 0 => .int
  | 1 => .int
  | 2 => .int
  | 3 => .object "KeyKeepers$Prison"
  | 4 => .object "KeyKeepers$Goings"
  | _ => .array .int
theorem nmX9 : ∀ a, a < 6 → ∀ b, b < 6 → a ≠ b → (TX9 a).2.1 ≠ (TX9 b).2.1 := by decide +kernel
theorem tyX9_ok : ∀ k, k < 6 → parseFieldDescriptor (TX9 k).2.2.1 = some (tyX9 k) := by decide +kernel
def RX10 : String := "KeyKeepers$Text"
def TX10 : u_T := fun k => match k with
  | 0 => ("KeyKeepers$Text", "code", "[I", true)
  | 1 => ("KeyKeepers$Text", "codeSize", "I", false)
  | 2 => ("KeyKeepers$Text", "clauses", "I", false)
  | 3 => ("KeyKeepers$Text", "kinds", "[I", true)
  | 4 => ("KeyKeepers$Text", "times", "[I", true)
  | _ => ("KeyKeepers$Text", "marks", "[I", true)
def tyX10 : Nat → FieldType := fun k => match k with
  | 0 => .array .int
  | 1 => .int
  | 2 => .int
  | 3 => .array .int
  | 4 => .array .int
  | _ => .array .int
theorem nmX10 : ∀ a, a < 6 → ∀ b, b < 6 → a ≠ b → (TX10 a).2.1 ≠ (TX10 b).2.1 := by decide +kernel
theorem tyX10_ok : ∀ k, k < 6 → parseFieldDescriptor (TX10 k).2.2.1 = some (tyX10 k) := by decide +kernel
def RX11 : String := "KeyKeepers"
def TX11 : u_T := fun k => match k with
  | 0 => ("KeyKeepers", "now", "LKeyKeepers$Prison;", true)
  | 1 => ("KeyKeepers", "images", "[LKeyKeepers$Prison;", true)
  | 2 => ("KeyKeepers", "reader", "LKeyKeepers$Reader;", true)
  | 3 => ("KeyKeepers", "judge", "LKeyKeepers$Judge;", true)
  | 4 => ("KeyKeepers", "goings", "LKeyKeepers$Goings;", true)
  | 5 => ("KeyKeepers", "sergeant", "LKeyKeepers$Sergeant;", true)
  | 6 => ("KeyKeepers", "doors", "LKeyKeepers$Doors;", true)
  | 7 => ("KeyKeepers", "counting", "LKeyKeepers$Counting;", true)
  | 8 => ("KeyKeepers", "latestNights", "LKeyKeepers$Nights;", true)
  | 9 => ("KeyKeepers", "planner", "LKeyKeepers$Rota;", false)
  | 10 => ("KeyKeepers", "planned", "Z", false)
  | 11 => ("KeyKeepers", "refusals", "[I", true)
  | 12 => ("KeyKeepers", "latestRefusal", "I", false)
  | _ => ("KeyKeepers", "latestRats", "I", false)
def tyX11 : Nat → FieldType := fun k => match k with
  | 0 => .object "KeyKeepers$Prison"
  | 1 => .array (.object "KeyKeepers$Prison")
  | 2 => .object "KeyKeepers$Reader"
  | 3 => .object "KeyKeepers$Judge"
  | 4 => .object "KeyKeepers$Goings"
  | 5 => .object "KeyKeepers$Sergeant"
  | 6 => .object "KeyKeepers$Doors"
  | 7 => .object "KeyKeepers$Counting"
  | 8 => .object "KeyKeepers$Nights"
  | 9 => .object "KeyKeepers$Rota"
  | 10 => .boolean
  | 11 => .array .int
  | 12 => .int
  | _ => .int
theorem nmX11 : ∀ a, a < 14 → ∀ b, b < 14 → a ≠ b → (TX11 a).2.1 ≠ (TX11 b).2.1 := by decide +kernel
theorem tyX11_ok : ∀ k, k < 14 → parseFieldDescriptor (TX11 k).2.2.1 = some (tyX11 k) := by decide +kernel
def RX12 : String := "KeyKeepersModel"
def TX12 : u_T := fun k => match k with
  | 0 => ("KeyKeepersModel", "thrown", "I", false)
  | 1 => ("KeyKeepersModel", "status", "I", false)
  | 2 => ("KeyKeepersModel", "refusals", "[I", true)
  | 3 => ("KeyKeepersModel", "row", "[I", true)
  | 4 => ("KeyKeepersModel", "images", "[I", true)
  | 5 => ("KeyKeepersModel", "isKept", "[Z", true)
  | 6 => ("KeyKeepersModel", "undos", "[I", true)
  | 7 => ("KeyKeepersModel", "sorts", "[I", true)
  | 8 => ("KeyKeepersModel", "nUndo", "I", false)
  | 9 => ("KeyKeepersModel", "undosBefore", "[I", true)
  | 10 => ("KeyKeepersModel", "sortsBefore", "[I", true)
  | 11 => ("KeyKeepersModel", "rats", "I", false)
  | 12 => ("KeyKeepersModel", "tape", "[I", true)
  | 13 => ("KeyKeepersModel", "taped", "I", false)
  | 14 => ("KeyKeepersModel", "from", "I", false)
  | 15 => ("KeyKeepersModel", "to", "I", false)
  | 16 => ("KeyKeepersModel", "sort", "I", false)
  | 17 => ("KeyKeepersModel", "worth", "J", false)
  | 18 => ("KeyKeepersModel", "fault", "I", false)
  | 19 => ("KeyKeepersModel", "bad", "Z", false)
  | 20 => ("KeyKeepersModel", "ordered", "Z", false)
  | 21 => ("KeyKeepersModel", "nClauses", "I", false)
  | 22 => ("KeyKeepersModel", "nClause", "[I", true)
  | 23 => ("KeyKeepersModel", "nCode", "I", false)
  | 24 => ("KeyKeepersModel", "nOp", "[I", true)
  | 25 => ("KeyKeepersModel", "nArg", "[I", true)
  | 26 => ("KeyKeepersModel", "nLeaves", "I", false)
  | 27 => ("KeyKeepersModel", "pile", "[I", true)
  | 28 => ("KeyKeepersModel", "pileAt", "[I", true)
  | 29 => ("KeyKeepersModel", "piled", "I", false)
  | 30 => ("KeyKeepersModel", "opened", "I", false)
  | 31 => ("KeyKeepersModel", "words", "[J", true)
  | 32 => ("KeyKeepersModel", "orderWords", "[J", true)
  | 33 => ("KeyKeepersModel", "heads", "[J", true)
  | 34 => ("KeyKeepersModel", "law", "I", false)
  | 35 => ("KeyKeepersModel", "set", "[J", true)
  | 36 => ("KeyKeepersModel", "now", "[J", true)
  | 37 => ("KeyKeepersModel", "rest", "[J", true)
  | 38 => ("KeyKeepersModel", "broken", "Z", false)
  | 39 => ("KeyKeepersModel", "value", "J", false)
  | 40 => ("KeyKeepersModel", "sum", "J", false)
  | 41 => ("KeyKeepersModel", "far", "[I", true)
  | 42 => ("KeyKeepersModel", "costs", "[I", true)
  | 43 => ("KeyKeepersModel", "watch", "[I", true)
  | 44 => ("KeyKeepersModel", "bestWatch", "[I", true)
  | 45 => ("KeyKeepersModel", "often", "[I", true)
  | 46 => ("KeyKeepersModel", "rotas", "I", false)
  | 47 => ("KeyKeepersModel", "cheapest", "I", false)
  | 48 => ("KeyKeepersModel", "isOn", "[Z", true)
  | 49 => ("KeyKeepersModel", "keeper", "[I", true)
  | 50 => ("KeyKeepersModel", "firstKeepers", "[I", true)
  | 51 => ("KeyKeepersModel", "withSo", "[I", true)
  | 52 => ("KeyKeepersModel", "isOne", "[Z", true)
  | 53 => ("KeyKeepersModel", "nOrder", "[I", true)
  | 54 => ("KeyKeepersModel", "done", "I", false)
  | 55 => ("KeyKeepersModel", "found", "I", false)
  | 56 => ("KeyKeepersModel", "stopped", "I", false)
  | 57 => ("KeyKeepersModel", "off", "Z", false)
  | 58 => ("KeyKeepersModel", "state", "J", false)
  | 59 => ("KeyKeepersModel", "drawn", "[I", true)
  | 60 => ("KeyKeepersModel", "drawnBread", "I", false)
  | _ => ("KeyKeepersModel", "nDrawn", "I", false)
def tyX12 : Nat → FieldType := fun k => match k with
  | 0 => .int
  | 1 => .int
  | 2 => .array .int
  | 3 => .array .int
  | 4 => .array .int
  | 5 => .array .boolean
  | 6 => .array .int
  | 7 => .array .int
  | 8 => .int
  | 9 => .array .int
  | 10 => .array .int
  | 11 => .int
  | 12 => .array .int
  | 13 => .int
  | 14 => .int
  | 15 => .int
  | 16 => .int
  | 17 => .long
  | 18 => .int
  | 19 => .boolean
  | 20 => .boolean
  | 21 => .int
  | 22 => .array .int
  | 23 => .int
  | 24 => .array .int
  | 25 => .array .int
  | 26 => .int
  | 27 => .array .int
  | 28 => .array .int
  | 29 => .int
  | 30 => .int
  | 31 => .array .long
  | 32 => .array .long
  | 33 => .array .long
  | 34 => .int
  | 35 => .array .long
  | 36 => .array .long
  | 37 => .array .long
  | 38 => .boolean
  | 39 => .long
  | 40 => .long
  | 41 => .array .int
  | 42 => .array .int
  | 43 => .array .int
  | 44 => .array .int
  | 45 => .array .int
  | 46 => .int
  | 47 => .int
  | 48 => .array .boolean
  | 49 => .array .int
  | 50 => .array .int
  | 51 => .array .int
  | 52 => .array .boolean
  | 53 => .array .int
  | 54 => .int
  | 55 => .int
  | 56 => .int
  | 57 => .boolean
  | 58 => .long
  | 59 => .array .int
  | 60 => .int
  | _ => .int
theorem nmX12 : ∀ a, a < 62 → ∀ b, b < 62 → a ≠ b → (TX12 a).2.1 ≠ (TX12 b).2.1 := by decide +kernel
theorem tyX12_ok : ∀ k, k < 62 → parseFieldDescriptor (TX12 k).2.2.1 = some (tyX12 k) := by decide +kernel
abbrev vwCl : List vw_C := [(RX0, TX0, 6), (RX1, TX1, 3), (RX2, TX2, 6), (RX3, TX3, 5), (RX4, TX4, 4), (RX5, TX5, 4), (RX6, TX6, 19), (RX7, TX7, 10), (RX8, TX8, 11), (RX9, TX9, 6), (RX10, TX10, 6), (RX11, TX11, 14), (RX12, TX12, 62)]
/-- the kinds of the fields: 0 int, 1 long, 2 a cell, 3 boolean -/
def am_fts : List (List Nat) := [[2, 0, 0, 0, 2, 2], [2, 2, 2], [0, 2, 2, 2, 2, 2], [2, 0, 0, 2, 2], [2, 0, 2, 0], [0, 0, 2, 0], [2, 2, 0, 0, 2, 2, 2, 2, 2, 0, 0, 2, 2, 0, 2, 0, 0, 2, 0], [2, 0, 0, 2, 3, 2, 2, 0, 0, 0], [0, 0, 2, 2, 2, 2, 2, 2, 2, 2, 0], [0, 0, 0, 2, 2, 2], [2, 0, 0, 2, 2, 2], [2, 2, 2, 2, 2, 2, 2, 2, 2, 2, 3, 2, 0, 0], [0, 0, 2, 2, 2, 2, 2, 2, 0, 2, 2, 0, 2, 0, 0, 0, 0, 1, 0, 3, 3, 0, 2, 0, 2, 2, 0, 2, 2, 0, 0, 2, 2, 2, 0, 2, 2, 2, 3, 1, 1, 2, 2, 2, 2, 2, 0, 0, 2, 2, 2, 2, 2, 2, 0, 0, 0, 3, 1, 2, 0, 0]]
theorem inX0 : ∀ w ∈ u_ws RX0 TX0 6, w ∈ lw_tbl := by
  have h : u_ws RX0 TX0 6 = [489, 491, 493, 495, 497, 499].filterMap (fun i => lw_tbl[i]?) := by decide +kernel
  intro w hw
  rw [h] at hw
  obtain ⟨i, -, hi⟩ := List.mem_filterMap.mp hw
  exact List.mem_of_getElem? hi
theorem inX1 : ∀ w ∈ u_ws RX1 TX1 3, w ∈ lw_tbl := by
  have h : u_ws RX1 TX1 3 = [466, 468, 470].filterMap (fun i => lw_tbl[i]?) := by decide +kernel
  intro w hw
  rw [h] at hw
  obtain ⟨i, -, hi⟩ := List.mem_filterMap.mp hw
  exact List.mem_of_getElem? hi
theorem inX2 : ∀ w ∈ u_ws RX2 TX2 6, w ∈ lw_tbl := by
  have h : u_ws RX2 TX2 6 = [412, 414, 416, 418, 420, 422].filterMap (fun i => lw_tbl[i]?) := by decide +kernel
  intro w hw
  rw [h] at hw
  obtain ⟨i, -, hi⟩ := List.mem_filterMap.mp hw
  exact List.mem_of_getElem? hi
theorem inX3 : ∀ w ∈ u_ws RX3 TX3 5, w ∈ lw_tbl := by
  have h : u_ws RX3 TX3 5 = [388, 390, 392, 394, 396].filterMap (fun i => lw_tbl[i]?) := by decide +kernel
  intro w hw
  rw [h] at hw
  obtain ⟨i, -, hi⟩ := List.mem_filterMap.mp hw
  exact List.mem_of_getElem? hi
theorem inX4 : ∀ w ∈ u_ws RX4 TX4 4, w ∈ lw_tbl := by
  have h : u_ws RX4 TX4 4 = [371, 373, 375, 377].filterMap (fun i => lw_tbl[i]?) := by decide +kernel
  intro w hw
  rw [h] at hw
  obtain ⟨i, -, hi⟩ := List.mem_filterMap.mp hw
  exact List.mem_of_getElem? hi
theorem inX5 : ∀ w ∈ u_ws RX5 TX5 4, w ∈ lw_tbl := by
  have h : u_ws RX5 TX5 4 = [515, 517, 519, 521].filterMap (fun i => lw_tbl[i]?) := by decide +kernel
  intro w hw
  rw [h] at hw
  obtain ⟨i, -, hi⟩ := List.mem_filterMap.mp hw
  exact List.mem_of_getElem? hi
theorem inX6 : ∀ w ∈ u_ws RX6 TX6 19, w ∈ lw_tbl := by
  have h : u_ws RX6 TX6 19 = [237, 239, 241, 243, 245, 247, 249, 251, 253, 255, 257, 259, 261, 263, 265, 267, 269, 271, 273].filterMap (fun i => lw_tbl[i]?) := by decide +kernel
  intro w hw
  rw [h] at hw
  obtain ⟨i, -, hi⟩ := List.mem_filterMap.mp hw
  exact List.mem_of_getElem? hi
theorem inX7 : ∀ w ∈ u_ws RX7 TX7 10, w ∈ lw_tbl := by
  have h : u_ws RX7 TX7 10 = [330, 332, 334, 336, 338, 340, 342, 344, 346, 348].filterMap (fun i => lw_tbl[i]?) := by decide +kernel
  intro w hw
  rw [h] at hw
  obtain ⟨i, -, hi⟩ := List.mem_filterMap.mp hw
  exact List.mem_of_getElem? hi
theorem inX8 : ∀ w ∈ u_ws RX8 TX8 11, w ∈ lw_tbl := by
  have h : u_ws RX8 TX8 11 = [1163, 1165, 1167, 1169, 1171, 1173, 1175, 1177, 1179, 1181, 1183].filterMap (fun i => lw_tbl[i]?) := by decide +kernel
  intro w hw
  rw [h] at hw
  obtain ⟨i, -, hi⟩ := List.mem_filterMap.mp hw
  exact List.mem_of_getElem? hi
theorem inX9 : ∀ w ∈ u_ws RX9 TX9 6, w ∈ lw_tbl := by
  have h : u_ws RX9 TX9 6 = [443, 445, 447, 449, 451, 453].filterMap (fun i => lw_tbl[i]?) := by decide +kernel
  intro w hw
  rw [h] at hw
  obtain ⟨i, -, hi⟩ := List.mem_filterMap.mp hw
  exact List.mem_of_getElem? hi
theorem inX10 : ∀ w ∈ u_ws RX10 TX10 6, w ∈ lw_tbl := by
  have h : u_ws RX10 TX10 6 = [303, 305, 307, 309, 311, 313].filterMap (fun i => lw_tbl[i]?) := by decide +kernel
  intro w hw
  rw [h] at hw
  obtain ⟨i, -, hi⟩ := List.mem_filterMap.mp hw
  exact List.mem_of_getElem? hi
theorem inX11 : ∀ w ∈ u_ws RX11 TX11 14, w ∈ lw_tbl := by
  have h : u_ws RX11 TX11 14 = [538, 540, 542, 544, 546, 548, 550, 552, 554, 556, 558, 560, 562, 564].filterMap (fun i => lw_tbl[i]?) := by decide +kernel
  intro w hw
  rw [h] at hw
  obtain ⟨i, -, hi⟩ := List.mem_filterMap.mp hw
  exact List.mem_of_getElem? hi
theorem inX12 : ∀ w ∈ u_ws RX12 TX12 62, w ∈ lw_tbl := by
  have h : u_ws RX12 TX12 62 = [1457, 1459, 1461, 1463, 1465, 1467, 1469, 1471, 1473, 1475, 1477, 1479, 1481, 1483, 1485, 1487, 1489, 1491, 1493, 1495, 1497, 1499, 1501, 1503, 1505, 1507, 1509, 1511, 1513, 1515, 1517, 1519, 1521, 1523, 1525, 1527, 1529, 1531, 1533, 1535, 1537, 1539, 1541, 1543, 1545, 1547, 1549, 1551, 1553, 1555, 1557, 1559, 1561, 1563, 1565, 1567, 1569, 1571, 1573, 1575, 1577, 1579].filterMap (fun i => lw_tbl[i]?) := by decide +kernel
  intro w hw
  rw [h] at hw
  obtain ⟨i, -, hi⟩ := List.mem_filterMap.mp hw
  exact List.mem_of_getElem? hi
