def RX0 : String := "FlueHouse$Book"
def TX0 : u_T := fun k => match k with
  | 0 => ("FlueHouse$Book", "rows", "I", false)
  | 1 => ("FlueHouse$Book", "rowCells", "[I", true)
  | 2 => ("FlueHouse$Book", "rowPortions", "[I", true)
  | 3 => ("FlueHouse$Book", "rowKnown", "[I", true)
  | 4 => ("FlueHouse$Book", "events", "I", false)
  | 5 => ("FlueHouse$Book", "eventSorts", "[I", true)
  | 6 => ("FlueHouse$Book", "eventCleaners", "[I", true)
  | 7 => ("FlueHouse$Book", "eventHours", "[I", true)
  | 8 => ("FlueHouse$Book", "eventMores", "[I", true)
  | 9 => ("FlueHouse$Book", "eventKnown", "[I", true)
  | 10 => ("FlueHouse$Book", "latestKnown", "I", false)
  | 11 => ("FlueHouse$Book", "asOf", "I", false)
  | 12 => ("FlueHouse$Book", "warmths", "[I", true)
  | 13 => ("FlueHouse$Book", "stale", "Z", false)
  | 14 => ("FlueHouse$Book", "dust", "[I", true)
  | 15 => ("FlueHouse$Book", "knocked", "[J", true)
  | 16 => ("FlueHouse$Book", "offs", "[J", true)
  | _ => ("FlueHouse$Book", "holes", "[I", true)
def tyX0 : Nat → FieldType := fun k => match k with
  | 0 => .int
  | 1 => .array .int
  | 2 => .array .int
  | 3 => .array .int
  | 4 => .int
  | 5 => .array .int
  | 6 => .array .int
  | 7 => .array .int
  | 8 => .array .int
  | 9 => .array .int
  | 10 => .int
  | 11 => .int
  | 12 => .array .int
  | 13 => .boolean
  | 14 => .array .int
  | 15 => .array .long
  | 16 => .array .long
  | _ => .array .int
set_option maxRecDepth 20000 in
theorem nmX0 : ∀ a, a < 18 → ∀ b, b < 18 → a ≠ b → (TX0 a).2.1 ≠ (TX0 b).2.1 := by decide +kernel
set_option maxRecDepth 20000 in
theorem tyX0_ok : ∀ k, k < 18 → parseFieldDescriptor (TX0 k).2.2.1 = some (tyX0 k) := by decide +kernel
def RX1 : String := "FlueHouse$Flow"
def TX1 : u_T := fun k => match k with
  | 0 => ("FlueHouse$Flow", "next", "I", false)
  | 1 => ("FlueHouse$Flow", "ups", "[I", true)
  | 2 => ("FlueHouse$Flow", "comes", "[I", true)
  | 3 => ("FlueHouse$Flow", "held", "[I", true)
  | 4 => ("FlueHouse$Flow", "flying", "[I", true)
  | 5 => ("FlueHouse$Flow", "layers", "[I", true)
  | 6 => ("FlueHouse$Flow", "ashes", "[I", true)
  | 7 => ("FlueHouse$Flow", "leftOver", "[I", true)
  | 8 => ("FlueHouse$Flow", "parter", "LFlueHouse$Parter;", true)
  | 9 => ("FlueHouse$Flow", "supposed", "I", false)
  | 10 => ("FlueHouse$Flow", "supposedKnocks", "J", false)
  | _ => ("FlueHouse$Flow", "supposedHole", "I", false)
def tyX1 : Nat → FieldType := fun k => match k with
  | 0 => .int
  | 1 => .array .int
  | 2 => .array .int
  | 3 => .array .int
  | 4 => .array .int
  | 5 => .array .int
  | 6 => .array .int
  | 7 => .array .int
  | 8 => .object "FlueHouse$Parter"
  | 9 => .int
  | 10 => .long
  | _ => .int
set_option maxRecDepth 20000 in
theorem nmX1 : ∀ a, a < 12 → ∀ b, b < 12 → a ≠ b → (TX1 a).2.1 ≠ (TX1 b).2.1 := by decide +kernel
set_option maxRecDepth 20000 in
theorem tyX1_ok : ∀ k, k < 12 → parseFieldDescriptor (TX1 k).2.2.1 = some (tyX1 k) := by decide +kernel
def RX2 : String := "FlueHouse$Hunt"
def TX2 : u_T := fun k => match k with
  | 0 => ("FlueHouse$Hunt", "trial", "LFlueHouse$Flow;", true)
  | 1 => ("FlueHouse$Hunt", "upRow", "[J", true)
  | 2 => ("FlueHouse$Hunt", "firstHour", "I", false)
  | 3 => ("FlueHouse$Hunt", "lastHour", "I", false)
  | 4 => ("FlueHouse$Hunt", "span", "I", false)
  | 5 => ("FlueHouse$Hunt", "fits", "I", false)
  | 6 => ("FlueHouse$Hunt", "cloth", "I", false)
  | 7 => ("FlueHouse$Hunt", "holeHour", "I", false)
  | 8 => ("FlueHouse$Hunt", "holeMuch", "I", false)
  | 9 => ("FlueHouse$Hunt", "knockHours", "[I", true)
  | 10 => ("FlueHouse$Hunt", "knockMany", "I", false)
  | _ => ("FlueHouse$Hunt", "bestSet", "I", false)
def tyX2 : Nat → FieldType := fun k => match k with
  | 0 => .object "FlueHouse$Flow"
  | 1 => .array .long
  | 2 => .int
  | 3 => .int
  | 4 => .int
  | 5 => .int
  | 6 => .int
  | 7 => .int
  | 8 => .int
  | 9 => .array .int
  | 10 => .int
  | _ => .int
set_option maxRecDepth 20000 in
theorem nmX2 : ∀ a, a < 12 → ∀ b, b < 12 → a ≠ b → (TX2 a).2.1 ≠ (TX2 b).2.1 := by decide +kernel
set_option maxRecDepth 20000 in
theorem tyX2_ok : ∀ k, k < 12 → parseFieldDescriptor (TX2 k).2.2.1 = some (tyX2 k) := by decide +kernel
def RX3 : String := "FlueHouse$Laws"
def TX3 : u_T := fun k => match k with
  | 0 => ("FlueHouse$Laws", "count", "I", false)
  | 1 => ("FlueHouse$Laws", "names", "[J", true)
  | 2 => ("FlueHouse$Laws", "starts", "[I", true)
  | 3 => ("FlueHouse$Laws", "ends", "[I", true)
  | 4 => ("FlueHouse$Laws", "overs", "[I", true)
  | 5 => ("FlueHouse$Laws", "belows", "[I", true)
  | 6 => ("FlueHouse$Laws", "steps", "[I", true)
  | 7 => ("FlueHouse$Laws", "stepCount", "I", false)
  | _ => ("FlueHouse$Laws", "stack", "[J", true)
def tyX3 : Nat → FieldType := fun k => match k with
  | 0 => .int
  | 1 => .array .long
  | 2 => .array .int
  | 3 => .array .int
  | 4 => .array .int
  | 5 => .array .int
  | 6 => .array .int
  | 7 => .int
  | _ => .array .long
set_option maxRecDepth 20000 in
theorem nmX3 : ∀ a, a < 9 → ∀ b, b < 9 → a ≠ b → (TX3 a).2.1 ≠ (TX3 b).2.1 := by decide +kernel
set_option maxRecDepth 20000 in
theorem tyX3_ok : ∀ k, k < 9 → parseFieldDescriptor (TX3 k).2.2.1 = some (tyX3 k) := by decide +kernel
def RX4 : String := "FlueHouse$Paper"
def TX4 : u_T := fun k => match k with
  | 0 => ("FlueHouse$Paper", "cleaners", "[I", true)
  | 1 => ("FlueHouse$Paper", "portions", "[I", true)
  | 2 => ("FlueHouse$Paper", "passing", "[I", true)
  | 3 => ("FlueHouse$Paper", "tried", "[I", true)
  | 4 => ("FlueHouse$Paper", "best", "[I", true)
  | 5 => ("FlueHouse$Paper", "rowCleaners", "[I", true)
  | 6 => ("FlueHouse$Paper", "rowLength", "I", false)
  | 7 => ("FlueHouse$Paper", "hindrances", "[I", true)
  | 8 => ("FlueHouse$Paper", "flueParts", "[I", true)
  | 9 => ("FlueHouse$Paper", "leastStarts", "[I", true)
  | 10 => ("FlueHouse$Paper", "mostStarts", "[I", true)
  | _ => ("FlueHouse$Paper", "gauged", "Z", false)
def tyX4 : Nat → FieldType := fun k => match k with
  | 0 => .array .int
  | 1 => .array .int
  | 2 => .array .int
  | 3 => .array .int
  | 4 => .array .int
  | 5 => .array .int
  | 6 => .int
  | 7 => .array .int
  | 8 => .array .int
  | 9 => .array .int
  | 10 => .array .int
  | _ => .boolean
set_option maxRecDepth 20000 in
theorem nmX4 : ∀ a, a < 12 → ∀ b, b < 12 → a ≠ b → (TX4 a).2.1 ≠ (TX4 b).2.1 := by decide +kernel
set_option maxRecDepth 20000 in
theorem tyX4_ok : ∀ k, k < 12 → parseFieldDescriptor (TX4 k).2.2.1 = some (tyX4 k) := by decide +kernel
def RX5 : String := "FlueHouse$Parter"
def TX5 : u_T := fun k => match k with
  | 0 => ("FlueHouse$Parter", "weights", "[J", true)
  | 1 => ("FlueHouse$Parter", "parts", "[I", true)
  | _ => ("FlueHouse$Parter", "rests", "[J", true)
def tyX5 : Nat → FieldType := fun k => match k with
  | 0 => .array .long
  | 1 => .array .int
  | _ => .array .long
set_option maxRecDepth 20000 in
theorem nmX5 : ∀ a, a < 3 → ∀ b, b < 3 → a ≠ b → (TX5 a).2.1 ≠ (TX5 b).2.1 := by decide +kernel
set_option maxRecDepth 20000 in
theorem tyX5_ok : ∀ k, k < 3 → parseFieldDescriptor (TX5 k).2.2.1 = some (tyX5 k) := by decide +kernel
def RX6 : String := "FlueHouse$Plant"
def TX6 : u_T := fun k => match k with
  | 0 => ("FlueHouse$Plant", "cleaners", "I", false)
  | 1 => ("FlueHouse$Plant", "works", "I", false)
  | 2 => ("FlueHouse$Plant", "names", "[J", true)
  | 3 => ("FlueHouse$Plant", "worksNames", "[J", true)
  | 4 => ("FlueHouse$Plant", "sorts", "[I", true)
  | 5 => ("FlueHouse$Plant", "holds", "[I", true)
  | 6 => ("FlueHouse$Plant", "limits", "[I", true)
  | 7 => ("FlueHouse$Plant", "flies", "[I", true)
  | 8 => ("FlueHouse$Plant", "joined", "[Z", true)
  | 9 => ("FlueHouse$Plant", "wayCounts", "[I", true)
  | 10 => ("FlueHouse$Plant", "wayGoals", "[I", true)
  | 11 => ("FlueHouse$Plant", "wayShares", "[I", true)
  | _ => ("FlueHouse$Plant", "worksAt", "[I", true)
def tyX6 : Nat → FieldType := fun k => match k with
  | 0 => .int
  | 1 => .int
  | 2 => .array .long
  | 3 => .array .long
  | 4 => .array .int
  | 5 => .array .int
  | 6 => .array .int
  | 7 => .array .int
  | 8 => .array .boolean
  | 9 => .array .int
  | 10 => .array .int
  | 11 => .array .int
  | _ => .array .int
set_option maxRecDepth 20000 in
theorem nmX6 : ∀ a, a < 13 → ∀ b, b < 13 → a ≠ b → (TX6 a).2.1 ≠ (TX6 b).2.1 := by decide +kernel
set_option maxRecDepth 20000 in
theorem tyX6_ok : ∀ k, k < 13 → parseFieldDescriptor (TX6 k).2.2.1 = some (tyX6 k) := by decide +kernel
def RX7 : String := "FlueHouse$Tape"
def TX7 : u_T := fun k => match k with
  | 0 => ("FlueHouse$Tape", "bytes", "[B", true)
  | 1 => ("FlueHouse$Tape", "count", "I", false)
  | 2 => ("FlueHouse$Tape", "end", "I", false)
  | 3 => ("FlueHouse$Tape", "next", "I", false)
  | 4 => ("FlueHouse$Tape", "signs", "Ljava/lang/String;", false)
  | 5 => ("FlueHouse$Tape", "words", "Ljava/lang/String;", false)
  | 6 => ("FlueHouse$Tape", "place", "I", false)
  | 7 => ("FlueHouse$Tape", "kind", "I", false)
  | 8 => ("FlueHouse$Tape", "word", "J", false)
  | 9 => ("FlueHouse$Tape", "key", "I", false)
  | 10 => ("FlueHouse$Tape", "number", "I", false)
  | 11 => ("FlueHouse$Tape", "taken", "I", false)
  | 12 => ("FlueHouse$Tape", "faultKind", "I", false)
  | _ => ("FlueHouse$Tape", "faultPlace", "I", false)
def tyX7 : Nat → FieldType := fun k => match k with
  | 0 => .array .byte
  | 1 => .int
  | 2 => .int
  | 3 => .int
  | 4 => .object "java/lang/String"
  | 5 => .object "java/lang/String"
  | 6 => .int
  | 7 => .int
  | 8 => .long
  | 9 => .int
  | 10 => .int
  | 11 => .int
  | 12 => .int
  | _ => .int
set_option maxRecDepth 20000 in
theorem nmX7 : ∀ a, a < 14 → ∀ b, b < 14 → a ≠ b → (TX7 a).2.1 ≠ (TX7 b).2.1 := by decide +kernel
set_option maxRecDepth 20000 in
theorem tyX7_ok : ∀ k, k < 14 → parseFieldDescriptor (TX7 k).2.2.1 = some (tyX7 k) := by decide +kernel
def RX8 : String := "FlueHouse$Trays"
def TX8 : u_T := fun k => match k with
  | 0 => ("FlueHouse$Trays", "numbers", "[J", true)
  | 1 => ("FlueHouse$Trays", "sorts", "[I", true)
  | _ => ("FlueHouse$Trays", "counts", "[I", true)
def tyX8 : Nat → FieldType := fun k => match k with
  | 0 => .array .long
  | 1 => .array .int
  | _ => .array .int
set_option maxRecDepth 20000 in
theorem nmX8 : ∀ a, a < 3 → ∀ b, b < 3 → a ≠ b → (TX8 a).2.1 ≠ (TX8 b).2.1 := by decide +kernel
set_option maxRecDepth 20000 in
theorem tyX8_ok : ∀ k, k < 3 → parseFieldDescriptor (TX8 k).2.2.1 = some (tyX8 k) := by decide +kernel
def RX9 : String := "FlueHouse"
def TX9 : u_T := fun k => match k with
  | 0 => ("FlueHouse", "latestStatus", "I", false)
  | 1 => ("FlueHouse", "tape", "LFlueHouse$Tape;", true)
  | 2 => ("FlueHouse", "trays", "LFlueHouse$Trays;", true)
  | 3 => ("FlueHouse", "plantNow", "LFlueHouse$Plant;", false)
  | 4 => ("FlueHouse", "plantSpare", "LFlueHouse$Plant;", false)
  | 5 => ("FlueHouse", "lawsNow", "LFlueHouse$Laws;", false)
  | 6 => ("FlueHouse", "lawsSpare", "LFlueHouse$Laws;", false)
  | 7 => ("FlueHouse", "book", "LFlueHouse$Book;", true)
  | 8 => ("FlueHouse", "flow", "LFlueHouse$Flow;", true)
  | 9 => ("FlueHouse", "parter", "LFlueHouse$Parter;", true)
  | 10 => ("FlueHouse", "hunt", "LFlueHouse$Hunt;", true)
  | _ => ("FlueHouse", "paper", "LFlueHouse$Paper;", true)
def tyX9 : Nat → FieldType := fun k => match k with
  | 0 => .int
  | 1 => .object "FlueHouse$Tape"
  | 2 => .object "FlueHouse$Trays"
  | 3 => .object "FlueHouse$Plant"
  | 4 => .object "FlueHouse$Plant"
  | 5 => .object "FlueHouse$Laws"
  | 6 => .object "FlueHouse$Laws"
  | 7 => .object "FlueHouse$Book"
  | 8 => .object "FlueHouse$Flow"
  | 9 => .object "FlueHouse$Parter"
  | 10 => .object "FlueHouse$Hunt"
  | _ => .object "FlueHouse$Paper"
set_option maxRecDepth 20000 in
theorem nmX9 : ∀ a, a < 12 → ∀ b, b < 12 → a ≠ b → (TX9 a).2.1 ≠ (TX9 b).2.1 := by decide +kernel
set_option maxRecDepth 20000 in
theorem tyX9_ok : ∀ k, k < 12 → parseFieldDescriptor (TX9 k).2.2.1 = some (tyX9 k) := by decide +kernel
def RX10 : String := "FlueHouseModel"
def TX10 : u_T := fun k => match k with
  | 0 => ("FlueHouseModel", "status", "I", false)
  | 1 => ("FlueHouseModel", "sort", "[I", true)
  | 2 => ("FlueHouseModel", "many", "[I", true)
  | 3 => ("FlueHouseModel", "trays", "[J", true)
  | 4 => ("FlueHouseModel", "tape", "[B", true)
  | 5 => ("FlueHouseModel", "text", "[B", true)
  | 6 => ("FlueHouseModel", "taped", "I", false)
  | 7 => ("FlueHouseModel", "size", "I", false)
  | 8 => ("FlueHouseModel", "token", "I", false)
  | 9 => ("FlueHouseModel", "from", "I", false)
  | 10 => ("FlueHouseModel", "end", "I", false)
  | 11 => ("FlueHouseModel", "value", "I", false)
  | 12 => ("FlueHouseModel", "got", "I", false)
  | 13 => ("FlueHouseModel", "faultKind", "I", false)
  | 14 => ("FlueHouseModel", "faultPlace", "I", false)
  | 15 => ("FlueHouseModel", "faults", "I", false)
  | 16 => ("FlueHouseModel", "isLaws", "Z", false)
  | 17 => ("FlueHouseModel", "newName", "[J", true)
  | 18 => ("FlueHouseModel", "newWorks", "[J", true)
  | 19 => ("FlueHouseModel", "newKind", "[I", true)
  | 20 => ("FlueHouseModel", "newHolds", "[I", true)
  | 21 => ("FlueHouseModel", "newLimit", "[I", true)
  | 22 => ("FlueHouseModel", "newFlies", "[I", true)
  | 23 => ("FlueHouseModel", "newWays", "[I", true)
  | 24 => ("FlueHouseModel", "newTo", "[I", true)
  | 25 => ("FlueHouseModel", "newShare", "[I", true)
  | 26 => ("FlueHouseModel", "newAt", "[I", true)
  | 27 => ("FlueHouseModel", "list", "[I", true)
  | 28 => ("FlueHouseModel", "newCleaners", "I", false)
  | 29 => ("FlueHouseModel", "newWorkMany", "I", false)
  | 30 => ("FlueHouseModel", "cleaners", "I", false)
  | 31 => ("FlueHouseModel", "workMany", "I", false)
  | 32 => ("FlueHouseModel", "kind", "[I", true)
  | 33 => ("FlueHouseModel", "holds", "[I", true)
  | 34 => ("FlueHouseModel", "limit", "[I", true)
  | 35 => ("FlueHouseModel", "flies", "[I", true)
  | 36 => ("FlueHouseModel", "wayMany", "[I", true)
  | 37 => ("FlueHouseModel", "wayTo", "[I", true)
  | 38 => ("FlueHouseModel", "wayShare", "[I", true)
  | 39 => ("FlueHouseModel", "workAt", "[I", true)
  | 40 => ("FlueHouseModel", "lawMany", "I", false)
  | 41 => ("FlueHouseModel", "newLaws", "I", false)
  | 42 => ("FlueHouseModel", "signs", "I", false)
  | 43 => ("FlueHouseModel", "newSigns", "I", false)
  | 44 => ("FlueHouseModel", "newLawName", "[J", true)
  | 45 => ("FlueHouseModel", "lawFrom", "[I", true)
  | 46 => ("FlueHouseModel", "lawTo", "[I", true)
  | 47 => ("FlueHouseModel", "over", "[I", true)
  | 48 => ("FlueHouseModel", "below", "[I", true)
  | 49 => ("FlueHouseModel", "newFrom", "[I", true)
  | 50 => ("FlueHouseModel", "newToSign", "[I", true)
  | 51 => ("FlueHouseModel", "newOver", "[I", true)
  | 52 => ("FlueHouseModel", "newBelow", "[I", true)
  | 53 => ("FlueHouseModel", "sign", "[I", true)
  | 54 => ("FlueHouseModel", "signOf", "[I", true)
  | 55 => ("FlueHouseModel", "newSign", "[I", true)
  | 56 => ("FlueHouseModel", "newSignOf", "[I", true)
  | 57 => ("FlueHouseModel", "waitsSum", "[I", true)
  | 58 => ("FlueHouseModel", "waitsItem", "[I", true)
  | 59 => ("FlueHouseModel", "rows", "I", false)
  | 60 => ("FlueHouseModel", "events", "I", false)
  | 61 => ("FlueHouseModel", "latest", "I", false)
  | 62 => ("FlueHouseModel", "asof", "I", false)
  | 63 => ("FlueHouseModel", "rWorks", "[I", true)
  | 64 => ("FlueHouseModel", "rHour", "[I", true)
  | 65 => ("FlueHouseModel", "rSize", "[I", true)
  | 66 => ("FlueHouseModel", "rPortions", "[I", true)
  | 67 => ("FlueHouseModel", "rKnown", "[I", true)
  | 68 => ("FlueHouseModel", "eKind", "[I", true)
  | 69 => ("FlueHouseModel", "eCleaner", "[I", true)
  | 70 => ("FlueHouseModel", "eFrom", "[I", true)
  | 71 => ("FlueHouseModel", "eTo", "[I", true)
  | 72 => ("FlueHouseModel", "eKnown", "[I", true)
  | 73 => ("FlueHouseModel", "warm", "[I", true)
  | 74 => ("FlueHouseModel", "moreHole", "I", false)
  | 75 => ("FlueHouseModel", "moreFrom", "I", false)
  | 76 => ("FlueHouseModel", "moreMuch", "I", false)
  | 77 => ("FlueHouseModel", "moreKnock", "I", false)
  | 78 => ("FlueHouseModel", "moreMany", "I", false)
  | 79 => ("FlueHouseModel", "moreHours", "[I", true)
  | 80 => ("FlueHouseModel", "ups", "[I", true)
  | 81 => ("FlueHouseModel", "comes", "[I", true)
  | 82 => ("FlueHouseModel", "held", "[I", true)
  | 83 => ("FlueHouseModel", "flown", "[I", true)
  | 84 => ("FlueHouseModel", "layer", "[I", true)
  | 85 => ("FlueHouseModel", "ash", "[I", true)
  | 86 => ("FlueHouseModel", "left", "[I", true)
  | 87 => ("FlueHouseModel", "shareOf", "[I", true)
  | 88 => ("FlueHouseModel", "restOf", "[I", true)
  | 89 => ("FlueHouseModel", "stack", "[J", true)
  | 90 => ("FlueHouseModel", "tornFits", "I", false)
  | 91 => ("FlueHouseModel", "tornCleaner", "I", false)
  | 92 => ("FlueHouseModel", "tornHour", "I", false)
  | 93 => ("FlueHouseModel", "tornMuch", "I", false)
  | 94 => ("FlueHouseModel", "knockFound", "I", false)
  | 95 => ("FlueHouseModel", "paper", "[I", true)
  | 96 => ("FlueHouseModel", "portion", "[I", true)
  | 97 => ("FlueHouseModel", "tried", "[I", true)
  | 98 => ("FlueHouseModel", "chosen", "[I", true)
  | 99 => ("FlueHouseModel", "chosenMany", "I", false)
  | 100 => ("FlueHouseModel", "chosenNow", "[I", true)
  | 101 => ("FlueHouseModel", "parts0", "[I", true)
  | 102 => ("FlueHouseModel", "light", "[I", true)
  | 103 => ("FlueHouseModel", "drawn", "[I", true)
  | 104 => ("FlueHouseModel", "gaugeMany", "I", false)
  | 105 => ("FlueHouseModel", "gaugeSpan", "I", false)
  | _ => ("FlueHouseModel", "gaugeFits", "I", false)
def tyX10 : Nat → FieldType := fun k => match k with
  | 0 => .int
  | 1 => .array .int
  | 2 => .array .int
  | 3 => .array .long
  | 4 => .array .byte
  | 5 => .array .byte
  | 6 => .int
  | 7 => .int
  | 8 => .int
  | 9 => .int
  | 10 => .int
  | 11 => .int
  | 12 => .int
  | 13 => .int
  | 14 => .int
  | 15 => .int
  | 16 => .boolean
  | 17 => .array .long
  | 18 => .array .long
  | 19 => .array .int
  | 20 => .array .int
  | 21 => .array .int
  | 22 => .array .int
  | 23 => .array .int
  | 24 => .array .int
  | 25 => .array .int
  | 26 => .array .int
  | 27 => .array .int
  | 28 => .int
  | 29 => .int
  | 30 => .int
  | 31 => .int
  | 32 => .array .int
  | 33 => .array .int
  | 34 => .array .int
  | 35 => .array .int
  | 36 => .array .int
  | 37 => .array .int
  | 38 => .array .int
  | 39 => .array .int
  | 40 => .int
  | 41 => .int
  | 42 => .int
  | 43 => .int
  | 44 => .array .long
  | 45 => .array .int
  | 46 => .array .int
  | 47 => .array .int
  | 48 => .array .int
  | 49 => .array .int
  | 50 => .array .int
  | 51 => .array .int
  | 52 => .array .int
  | 53 => .array .int
  | 54 => .array .int
  | 55 => .array .int
  | 56 => .array .int
  | 57 => .array .int
  | 58 => .array .int
  | 59 => .int
  | 60 => .int
  | 61 => .int
  | 62 => .int
  | 63 => .array .int
  | 64 => .array .int
  | 65 => .array .int
  | 66 => .array .int
  | 67 => .array .int
  | 68 => .array .int
  | 69 => .array .int
  | 70 => .array .int
  | 71 => .array .int
  | 72 => .array .int
  | 73 => .array .int
  | 74 => .int
  | 75 => .int
  | 76 => .int
  | 77 => .int
  | 78 => .int
  | 79 => .array .int
  | 80 => .array .int
  | 81 => .array .int
  | 82 => .array .int
  | 83 => .array .int
  | 84 => .array .int
  | 85 => .array .int
  | 86 => .array .int
  | 87 => .array .int
  | 88 => .array .int
  | 89 => .array .long
  | 90 => .int
  | 91 => .int
  | 92 => .int
  | 93 => .int
  | 94 => .int
  | 95 => .array .int
  | 96 => .array .int
  | 97 => .array .int
  | 98 => .array .int
  | 99 => .int
  | 100 => .array .int
  | 101 => .array .int
  | 102 => .array .int
  | 103 => .array .int
  | 104 => .int
  | 105 => .int
  | _ => .int
set_option maxRecDepth 20000 in
theorem nmX10 : ∀ a, a < 107 → ∀ b, b < 107 → a ≠ b → (TX10 a).2.1 ≠ (TX10 b).2.1 := by decide +kernel
set_option maxRecDepth 20000 in
theorem tyX10_ok : ∀ k, k < 107 → parseFieldDescriptor (TX10 k).2.2.1 = some (tyX10 k) := by decide +kernel
def xcl : List vw_C := [(RX0, TX0, 18), (RX1, TX1, 12), (RX2, TX2, 12), (RX3, TX3, 9), (RX4, TX4, 12), (RX5, TX5, 3), (RX6, TX6, 13), (RX7, TX7, 14), (RX8, TX8, 3), (RX9, TX9, 12), (RX10, TX10, 107)]
/-- the kinds of the cells, in the order in which they are made; cells are numbered from 1 -/
def xkL : List Nat := [95, 9, 7, 39, 8, 40, 34, 34, 6, 24, 36, 30, 27, 30, 30, 37, 30, 38, 38, 34, 6, 24, 36, 30, 27, 30, 30, 37, 30, 38, 38, 34, 3, 24, 30, 30, 30, 30, 31, 32, 3, 24, 30, 30, 30, 30, 31, 32, 0, 20, 20, 20, 21, 21, 21, 21, 21, 22, 23, 24, 24, 25, 1, 26, 27, 27, 27, 27, 27, 27, 5, 24, 30, 24, 5, 24, 30, 24, 2, 1, 26, 27, 27, 27, 27, 27, 27, 5, 24, 30, 24, 28, 29, 4, 33, 34, 34, 34, 34, 34, 30, 30, 35, 35, 10, 34, 34, 40, 39, 39, 24, 36, 30, 27, 30, 30, 30, 38, 38, 34, 34, 30, 27, 30, 30, 30, 38, 38, 34, 24, 30, 30, 30, 30, 30, 30, 30, 30, 41, 41, 41, 41, 30, 30, 20, 20, 20, 20, 20, 21, 21, 21, 21, 21, 22, 29, 26, 27, 27, 27, 27, 27, 27, 30, 30, 42, 33, 34, 34, 34, 34, 30, 43, 43]
def xk (i : Nat) : Nat := xkL.getD i 95
/-- rows: element type (0 int, 1 long, 2 byte, 3 boolean) and length, of kind 20 and on -/
def xaL : List (Nat × Nat) := [(0, 200), (0, 40), (0, 48), (0, 768), (1, 8), (0, 384), (0, 192), (0, 32), (1, 24), (0, 6), (0, 8), (0, 600), (1, 32), (0, 35), (0, 4), (0, 100), (1, 4), (3, 8), (0, 64), (2, 600), (1, 240), (0, 700), (1, 700), (0, 10)]
def xae (k : Nat) : Nat := (xaL.getD (k - 20) (9, 0)).1
def xan (k : Nat) : Nat := (xaL.getD (k - 20) (9, 0)).2
/-- field codes: 0 int, 1 boolean, 2 long, 3 + k a reference of kind k -/
def xfL : List (List Nat) := [[0, 23, 23, 23, 0, 24, 24, 24, 24, 24, 0, 0, 25, 1, 26, 27, 27, 28], [0, 29, 30, 30, 30, 30, 30, 30, 8, 0, 2, 0], [4, 31, 0, 0, 0, 0, 0, 0, 0, 32, 0, 0], [0, 27, 33, 33, 33, 33, 34, 0, 35], [36, 37, 37, 37, 37, 37, 0, 33, 33, 38, 38, 1], [27, 33, 27], [0, 0, 27, 39, 33, 30, 33, 33, 40, 33, 41, 41, 37], [42, 0, 0, 0, 102, 102, 0, 0, 2, 0, 0, 0, 0, 0], [43, 37, 37], [0, 10, 11, 9, 9, 6, 6, 3, 4, 8, 5, 7], [0, 37, 37, 43, 42, 42, 0, 0, 0, 0, 0, 0, 0, 0, 0, 0, 1, 27, 39, 33, 30, 33, 33, 33, 41, 41, 37, 37, 0, 0, 0, 0, 33, 30, 33, 33, 33, 41, 41, 37, 0, 0, 0, 0, 27, 33, 33, 33, 33, 33, 33, 33, 33, 44, 44, 44, 44, 33, 33, 0, 0, 0, 0, 23, 23, 23, 23, 23, 24, 24, 24, 24, 24, 25, 0, 0, 0, 0, 0, 32, 29, 30, 30, 30, 30, 30, 30, 33, 33, 45, 0, 0, 0, 0, 0, 36, 37, 37, 37, 0, 37, 33, 46, 46, 0, 0, 0]]
def xfc (c k : Nat) : Nat := (xfL.getD c []).getD k 0
def xnf (c : Nat) : Nat := (xfL.getD c []).length
def xTy (c : Nat) : Nat → FieldType := match c with
  | 0 => tyX0
  | 1 => tyX1
  | 2 => tyX2
  | 3 => tyX3
  | 4 => tyX4
  | 5 => tyX5
  | 6 => tyX6
  | 7 => tyX7
  | 8 => tyX8
  | 9 => tyX9
  | _ => tyX10
def xslot (k : Nat) : Nat := if k < 20 then xnf k else if k < 90 then xan k else 0
def xsz (n : Nat) : Nat := ((xkL.take n).map xslot).sum
set_option maxRecDepth 20000 in
theorem xlay0 : [239, 241, 243, 245, 247, 249, 251, 253, 255, 257, 259, 261, 263, 265, 267, 269, 271, 273].map (fun i => tables_1[i]?) = (u_ws RX0 TX0 18).map some := by decide +kernel
set_option maxRecDepth 20000 in
theorem xlay1 : [316, 318, 320, 322, 324, 326, 328, 330, 332, 334, 336, 338].map (fun i => tables_1[i]?) = (u_ws RX1 TX1 12).map some := by decide +kernel
set_option maxRecDepth 20000 in
theorem xlay2 : [367, 369, 371, 373, 375, 377, 379, 381, 383, 385, 387, 389].map (fun i => tables_1[i]?) = (u_ws RX2 TX2 12).map some := by decide +kernel
set_option maxRecDepth 20000 in
theorem xlay3 : [191, 193, 195, 197, 199, 201, 203, 205, 207].map (fun i => tables_1[i]?) = (u_ws RX3 TX3 9).map some := by decide +kernel
set_option maxRecDepth 20000 in
theorem xlay4 : [413, 415, 417, 419, 421, 423, 425, 427, 429, 431, 433, 435].map (fun i => tables_1[i]?) = (u_ws RX4 TX4 12).map some := by decide +kernel
set_option maxRecDepth 20000 in
theorem xlay5 : [295, 297, 299].map (fun i => tables_1[i]?) = (u_ws RX5 TX5 3).map some := by decide +kernel
set_option maxRecDepth 20000 in
theorem xlay6 : [147, 149, 151, 153, 155, 157, 159, 161, 163, 165, 167, 169, 171].map (fun i => tables_1[i]?) = (u_ws RX6 TX6 13).map some := by decide +kernel
set_option maxRecDepth 20000 in
theorem xlay7 : [62, 64, 66, 68, 70, 72, 74, 76, 78, 80, 82, 84, 86, 88].map (fun i => tables_1[i]?) = (u_ws RX7 TX7 14).map some := by decide +kernel
set_option maxRecDepth 20000 in
theorem xlay8 : [101, 103, 105].map (fun i => tables_1[i]?) = (u_ws RX8 TX8 3).map some := by decide +kernel
set_option maxRecDepth 20000 in
theorem xlay9 : [450, 452, 454, 456, 458, 460, 462, 464, 466, 468, 470, 472].map (fun i => tables_1[i]?) = (u_ws RX9 TX9 12).map some := by decide +kernel
set_option maxRecDepth 20000 in
theorem xlay10 : [1385, 1387, 1389, 1391, 1393, 1395, 1397, 1399, 1401, 1403, 1405, 1407, 1409, 1411, 1413, 1415, 1417, 1419, 1421, 1423, 1425, 1427, 1429, 1431, 1433, 1435, 1437, 1439, 1441, 1443, 1445, 1447, 1449, 1451, 1453, 1455, 1457, 1459, 1461, 1463, 1465, 1467, 1469, 1471, 1473, 1475, 1477, 1479, 1481, 1483, 1485, 1487, 1489, 1491, 1493, 1495, 1497, 1499, 1501, 1503, 1505, 1507, 1509, 1511, 1513, 1515, 1517, 1519, 1521, 1523, 1525, 1527, 1529, 1531, 1533, 1535, 1537, 1539, 1541, 1543, 1545, 1547, 1549, 1551, 1553, 1555, 1557, 1559, 1561, 1563, 1565, 1567, 1569, 1571, 1573, 1575, 1577, 1579, 1581, 1583, 1585, 1587, 1589, 1591, 1593, 1595, 1597].map (fun i => tables_1[i]?) = (u_ws RX10 TX10 107).map some := by decide +kernel
theorem xin_of {ps : List Nat} {ws : List Cond} (h : ps.map (fun i => tables_1[i]?) = ws.map some) : ∀ w ∈ ws, w ∈ tables_1 := by
  intro w hw
  have h1 : some w ∈ ws.map some := List.mem_map.mpr ⟨w, hw, rfl⟩
  rw [← h] at h1
  obtain ⟨i, -, hi⟩ := List.mem_map.mp h1
  exact List.mem_of_getElem? hi
theorem xin_tbl {w : Cond} (h : w ∈ tables_1) : w ∈ lw_tbl := List.mem_append_right _ h
/-- the texts, from 1 on -/
def xsL : List (List Int) := [[], [], [59, 44], [99, 121, 99, 108, 111, 110, 101, 32, 112, 108, 97, 116, 101, 115, 32, 99, 108, 111, 116, 104, 32, 115, 112, 114, 97, 121, 32, 106, 111, 105, 110, 32, 119, 111, 114, 107, 115, 32, 104, 111, 108, 100, 115, 32, 108, 97, 121, 101, 114, 32, 102, 108, 105, 101, 115, 32, 102, 117, 108, 108, 32, 119, 97, 114, 109, 32, 116, 111, 32, 97, 116, 32, 115, 104, 97, 114, 101, 32, 115, 116, 97, 99, 107, 32], [58, 59, 43, 45, 42, 40, 41], [102, 105, 110, 101, 32, 115, 109, 97, 108, 108, 32, 99, 111, 97, 114, 115, 101, 32, 103, 114, 105, 116, 32, 119, 97, 114, 109, 116, 104, 32, 104, 111, 117, 114, 32, 111, 118, 101, 114, 32, 98, 101, 108, 111, 119, 32], [32, 99, 121, 99, 108, 111, 110, 101, 32, 112, 108, 97, 116, 101, 115, 32, 99, 108, 111, 116, 104, 32, 115, 112, 114, 97, 121, 32, 106, 111, 105, 110, 32, 119, 111, 114, 107, 115, 32, 104, 111, 108, 100, 115, 32, 108, 97, 121, 101, 114, 32, 102, 108, 105, 101, 115, 32, 102, 117, 108, 108, 32, 119, 97, 114, 109, 32, 116, 111, 32, 115, 104, 97, 114, 101, 32, 115, 116, 97, 99, 107, 32, 97, 116, 32], [32, 102, 105, 110, 101, 32, 115, 109, 97, 108, 108, 32, 99, 111, 97, 114, 115, 101, 32, 103, 114, 105, 116, 32, 119, 97, 114, 109, 116, 104, 32, 104, 111, 117, 114, 32, 111, 118, 101, 114, 32, 98, 101, 108, 111, 119, 32]]
def xsR : List (String × Nat × String) := [("FlueHouse$Tape", 25, ""), ("FlueHouse", 138, ";,"), ("FlueHouse", 140, "cyclone plates cloth spray join works holds layer flies full warm to at share stack "), ("FlueHouse", 159, ":;+-*()"), ("FlueHouse", 161, "fine small coarse grit warmth hour over below "), ("FlueHouseModel", 325, " cyclone plates cloth spray join works holds layer flies full warm to share stack at "), ("FlueHouseModel", 343, " fine small coarse grit warmth hour over below ")]
