/-! classes, their fields: printed with the claim -/
def RX0 : String := "OathTill$Court"
def TX0 : u_T := fun k => match k with
  | 0 => ("OathTill$Court", "places", "I", false)
  | 1 => ("OathTill$Court", "miles", "[I", true)
  | 2 => ("OathTill$Court", "placeNames", "[J", true)
  | 3 => ("OathTill$Court", "persons", "I", false)
  | 4 => ("OathTill$Court", "people", "[LOathTill$Person;", true)
  | 5 => ("OathTill$Court", "base", "I", false)
  | 6 => ("OathTill$Court", "more", "I", false)
  | 7 => ("OathTill$Court", "speed", "I", false)
  | 8 => ("OathTill$Court", "till", "I", false)
  | 9 => ("OathTill$Court", "count", "I", false)
  | 10 => ("OathTill$Court", "oaths", "[LOathTill$Oath;", true)
  | _ => ("OathTill$Court", "trials", "LOathTill$Trials;", true)
def tyX0 : Nat → FieldType := fun k => match k with
  | 0 => .int
  | 1 => .array .int
  | 2 => .array .long
  | 3 => .int
  | 4 => .array (.object "OathTill$Person")
  | 5 => .int
  | 6 => .int
  | 7 => .int
  | 8 => .int
  | 9 => .int
  | 10 => .array (.object "OathTill$Oath")
  | _ => .object "OathTill$Trials"
theorem nmX0 : ∀ a, a < 12 → ∀ b, b < 12 → a ≠ b → (TX0 a).2.1 ≠ (TX0 b).2.1 := by decide +kernel
theorem tyX0_ok : ∀ k, k < 12 → parseFieldDescriptor (TX0 k).2.2.1 = some (tyX0 k) := by decide +kernel
def RX1 : String := "OathTill$Oath"
def TX1 : u_T := fun k => match k with
  | 0 => ("OathTill$Oath", "witness", "I", false)
  | 1 => ("OathTill$Oath", "person", "I", false)
  | 2 => ("OathTill$Oath", "place", "I", false)
  | 3 => ("OathTill$Oath", "hour", "I", false)
  | 4 => ("OathTill$Oath", "price", "I", false)
  | 5 => ("OathTill$Oath", "state", "I", false)
  | 6 => ("OathTill$Oath", "refunded", "Z", false)
  | _ => ("OathTill$Oath", "life", "I", false)
def tyX1 : Nat → FieldType := fun k => match k with
  | 0 => .int
  | 1 => .int
  | 2 => .int
  | 3 => .int
  | 4 => .int
  | 5 => .int
  | 6 => .boolean
  | _ => .int
theorem nmX1 : ∀ a, a < 8 → ∀ b, b < 8 → a ≠ b → (TX1 a).2.1 ≠ (TX1 b).2.1 := by decide +kernel
theorem tyX1_ok : ∀ k, k < 8 → parseFieldDescriptor (TX1 k).2.2.1 = some (tyX1 k) := by decide +kernel
def RX2 : String := "OathTill$Person"
def TX2 : u_T := fun k => match k with
  | 0 => ("OathTill$Person", "name", "J", false)
  | 1 => ("OathTill$Person", "purse", "I", false)
  | 2 => ("OathTill$Person", "child", "Z", false)
  | 3 => ("OathTill$Person", "bishop", "Z", false)
  | 4 => ("OathTill$Person", "twin", "I", false)
  | 5 => ("OathTill$Person", "friends", "I", false)
  | _ => ("OathTill$Person", "truth", "[I", true)
def tyX2 : Nat → FieldType := fun k => match k with
  | 0 => .long
  | 1 => .int
  | 2 => .boolean
  | 3 => .boolean
  | 4 => .int
  | 5 => .int
  | _ => .array .int
theorem nmX2 : ∀ a, a < 7 → ∀ b, b < 7 → a ≠ b → (TX2 a).2.1 ≠ (TX2 b).2.1 := by decide +kernel
theorem tyX2_ok : ∀ k, k < 7 → parseFieldDescriptor (TX2 k).2.2.1 = some (tyX2 k) := by decide +kernel
def RX3 : String := "OathTill$Plan"
def TX3 : u_T := fun k => match k with
  | 0 => ("OathTill$Plan", "court", "LOathTill$Court;", true)
  | 1 => ("OathTill$Plan", "trial", "LOathTill$Court;", true)
  | 2 => ("OathTill$Plan", "stand", "LOathTill$Stand;", true)
  | 3 => ("OathTill$Plan", "trialStand", "LOathTill$Stand;", true)
  | 4 => ("OathTill$Plan", "hasAlibi", "Z", false)
  | 5 => ("OathTill$Plan", "alibiPlace", "I", false)
  | 6 => ("OathTill$Plan", "alibiSet", "I", false)
  | 7 => ("OathTill$Plan", "hasCall", "Z", false)
  | 8 => ("OathTill$Plan", "callPlace", "I", false)
  | 9 => ("OathTill$Plan", "callHour", "I", false)
  | _ => ("OathTill$Plan", "callPrice", "I", false)
def tyX3 : Nat → FieldType := fun k => match k with
  | 0 => .object "OathTill$Court"
  | 1 => .object "OathTill$Court"
  | 2 => .object "OathTill$Stand"
  | 3 => .object "OathTill$Stand"
  | 4 => .boolean
  | 5 => .int
  | 6 => .int
  | 7 => .boolean
  | 8 => .int
  | 9 => .int
  | _ => .int
theorem nmX3 : ∀ a, a < 11 → ∀ b, b < 11 → a ≠ b → (TX3 a).2.1 ≠ (TX3 b).2.1 := by decide +kernel
theorem tyX3_ok : ∀ k, k < 11 → parseFieldDescriptor (TX3 k).2.2.1 = some (tyX3 k) := by decide +kernel
def RX4 : String := "OathTill$Reader"
def TX4 : u_T := fun k => match k with
  | 0 => ("OathTill$Reader", "text", "LOathTill$Text;", true)
  | 1 => ("OathTill$Reader", "now", "LOathTill$Court;", true)
  | 2 => ("OathTill$Reader", "draft", "LOathTill$Court;", true)
  | 3 => ("OathTill$Reader", "steps", "LOathTill$Trials;", true)
  | 4 => ("OathTill$Reader", "toldRates", "I", false)
  | 5 => ("OathTill$Reader", "open", "[I", true)
  | _ => ("OathTill$Reader", "opened", "I", false)
def tyX4 : Nat → FieldType := fun k => match k with
  | 0 => .object "OathTill$Text"
  | 1 => .object "OathTill$Court"
  | 2 => .object "OathTill$Court"
  | 3 => .object "OathTill$Trials"
  | 4 => .int
  | 5 => .array .int
  | _ => .int
theorem nmX4 : ∀ a, a < 7 → ∀ b, b < 7 → a ≠ b → (TX4 a).2.1 ≠ (TX4 b).2.1 := by decide +kernel
theorem tyX4_ok : ∀ k, k < 7 → parseFieldDescriptor (TX4 k).2.2.1 = some (tyX4 k) := by decide +kernel
def RX5 : String := "OathTill$Runner"
def TX5 : u_T := fun k => match k with
  | 0 => ("OathTill$Runner", "court", "LOathTill$Court;", true)
  | 1 => ("OathTill$Runner", "trials", "LOathTill$Trials;", true)
  | 2 => ("OathTill$Runner", "stand", "LOathTill$Stand;", true)
  | 3 => ("OathTill$Runner", "rounds", "[I", true)
  | 4 => ("OathTill$Runner", "choices", "[I", true)
  | 5 => ("OathTill$Runner", "drawn", "I", false)
  | 6 => ("OathTill$Runner", "number", "I", false)
  | 7 => ("OathTill$Runner", "steps", "I", false)
  | 8 => ("OathTill$Runner", "missed", "I", false)
  | 9 => ("OathTill$Runner", "sworn", "I", false)
  | 10 => ("OathTill$Runner", "fees", "I", false)
  | _ => ("OathTill$Runner", "left", "Z", false)
def tyX5 : Nat → FieldType := fun k => match k with
  | 0 => .object "OathTill$Court"
  | 1 => .object "OathTill$Trials"
  | 2 => .object "OathTill$Stand"
  | 3 => .array .int
  | 4 => .array .int
  | 5 => .int
  | 6 => .int
  | 7 => .int
  | 8 => .int
  | 9 => .int
  | 10 => .int
  | _ => .boolean
theorem nmX5 : ∀ a, a < 12 → ∀ b, b < 12 → a ≠ b → (TX5 a).2.1 ≠ (TX5 b).2.1 := by decide +kernel
theorem tyX5_ok : ∀ k, k < 12 → parseFieldDescriptor (TX5 k).2.2.1 = some (tyX5 k) := by decide +kernel
def RX6 : String := "OathTill$Stand"
def TX6 : u_T := fun k => match k with
  | 0 => ("OathTill$Stand", "court", "LOathTill$Court;", true)
  | 1 => ("OathTill$Stand", "witness", "I", false)
  | 2 => ("OathTill$Stand", "person", "I", false)
  | 3 => ("OathTill$Stand", "spoken", "I", false)
  | 4 => ("OathTill$Stand", "doubted", "Z", false)
  | 5 => ("OathTill$Stand", "knowsLiar", "Z", false)
  | 6 => ("OathTill$Stand", "others", "[I", true)
  | 7 => ("OathTill$Stand", "alike", "[I", true)
  | _ => ("OathTill$Stand", "echoed", "J", false)
def tyX6 : Nat → FieldType := fun k => match k with
  | 0 => .object "OathTill$Court"
  | 1 => .int
  | 2 => .int
  | 3 => .int
  | 4 => .boolean
  | 5 => .boolean
  | 6 => .array .int
  | 7 => .array .int
  | _ => .long
theorem nmX6 : ∀ a, a < 9 → ∀ b, b < 9 → a ≠ b → (TX6 a).2.1 ≠ (TX6 b).2.1 := by decide +kernel
theorem tyX6_ok : ∀ k, k < 9 → parseFieldDescriptor (TX6 k).2.2.1 = some (tyX6 k) := by decide +kernel
def RX7 : String := "OathTill$Text"
def TX7 : u_T := fun k => match k with
  | 0 => ("OathTill$Text", "bytes", "[B", true)
  | 1 => ("OathTill$Text", "keys", "[J", true)
  | 2 => ("OathTill$Text", "length", "I", false)
  | 3 => ("OathTill$Text", "at", "I", false)
  | 4 => ("OathTill$Text", "kind", "I", false)
  | 5 => ("OathTill$Text", "start", "I", false)
  | 6 => ("OathTill$Text", "word", "J", false)
  | 7 => ("OathTill$Text", "key", "I", false)
  | 8 => ("OathTill$Text", "number", "I", false)
  | 9 => ("OathTill$Text", "sign", "I", false)
  | 10 => ("OathTill$Text", "fault", "I", false)
  | _ => ("OathTill$Text", "faultPlace", "I", false)
def tyX7 : Nat → FieldType := fun k => match k with
  | 0 => .array .byte
  | 1 => .array .long
  | 2 => .int
  | 3 => .int
  | 4 => .int
  | 5 => .int
  | 6 => .long
  | 7 => .int
  | 8 => .int
  | 9 => .int
  | 10 => .int
  | _ => .int
theorem nmX7 : ∀ a, a < 12 → ∀ b, b < 12 → a ≠ b → (TX7 a).2.1 ≠ (TX7 b).2.1 := by decide +kernel
theorem tyX7_ok : ∀ k, k < 12 → parseFieldDescriptor (TX7 k).2.2.1 = some (tyX7 k) := by decide +kernel
def RX8 : String := "OathTill$Tray"
def TX8 : u_T := fun k => match k with
  | 0 => ("OathTill$Tray", "laid", "Z", false)
  | 1 => ("OathTill$Tray", "sort", "I", false)
  | 2 => ("OathTill$Tray", "many", "I", false)
  | _ => ("OathTill$Tray", "row", "[J", true)
def tyX8 : Nat → FieldType := fun k => match k with
  | 0 => .boolean
  | 1 => .int
  | 2 => .int
  | _ => .array .long
theorem nmX8 : ∀ a, a < 4 → ∀ b, b < 4 → a ≠ b → (TX8 a).2.1 ≠ (TX8 b).2.1 := by decide +kernel
theorem tyX8_ok : ∀ k, k < 4 → parseFieldDescriptor (TX8 k).2.2.1 = some (tyX8 k) := by decide +kernel
def RX9 : String := "OathTill$Trials"
def TX9 : u_T := fun k => match k with
  | 0 => ("OathTill$Trials", "taken", "Z", false)
  | 1 => ("OathTill$Trials", "steps", "I", false)
  | 2 => ("OathTill$Trials", "rows", "I", false)
  | 3 => ("OathTill$Trials", "kind", "[I", true)
  | 4 => ("OathTill$Trials", "witness", "[I", true)
  | 5 => ("OathTill$Trials", "person", "[I", true)
  | 6 => ("OathTill$Trials", "place", "[I", true)
  | 7 => ("OathTill$Trials", "number", "[I", true)
  | 8 => ("OathTill$Trials", "sign", "[I", true)
  | 9 => ("OathTill$Trials", "partner", "[I", true)
  | _ => ("OathTill$Trials", "depth", "[I", true)
def tyX9 : Nat → FieldType := fun k => match k with
  | 0 => .boolean
  | 1 => .int
  | 2 => .int
  | 3 => .array .int
  | 4 => .array .int
  | 5 => .array .int
  | 6 => .array .int
  | 7 => .array .int
  | 8 => .array .int
  | 9 => .array .int
  | _ => .array .int
theorem nmX9 : ∀ a, a < 11 → ∀ b, b < 11 → a ≠ b → (TX9 a).2.1 ≠ (TX9 b).2.1 := by decide +kernel
theorem tyX9_ok : ∀ k, k < 11 → parseFieldDescriptor (TX9 k).2.2.1 = some (tyX9 k) := by decide +kernel
def RX10 : String := "OathTill$Whereabouts"
def TX10 : u_T := fun k => match k with
  | 0 => ("OathTill$Whereabouts", "court", "LOathTill$Court;", true)
  | 1 => ("OathTill$Whereabouts", "open", "[I", true)
  | 2 => ("OathTill$Whereabouts", "many", "[I", true)
  | 3 => ("OathTill$Whereabouts", "next", "[I", true)
  | _ => ("OathTill$Whereabouts", "chains", "[I", true)
def tyX10 : Nat → FieldType := fun k => match k with
  | 0 => .object "OathTill$Court"
  | 1 => .array .int
  | 2 => .array .int
  | 3 => .array .int
  | _ => .array .int
theorem nmX10 : ∀ a, a < 5 → ∀ b, b < 5 → a ≠ b → (TX10 a).2.1 ≠ (TX10 b).2.1 := by decide +kernel
theorem tyX10_ok : ∀ k, k < 5 → parseFieldDescriptor (TX10 k).2.2.1 = some (tyX10 k) := by decide +kernel
def RX11 : String := "OathTill"
def TX11 : u_T := fun k => match k with
  | 0 => ("OathTill", "status", "I", false)
  | 1 => ("OathTill", "fractionTop", "J", false)
  | 2 => ("OathTill", "fractionBottom", "J", false)
  | 3 => ("OathTill", "trays", "[LOathTill$Tray;", true)
  | 4 => ("OathTill", "tape", "[B", true)
  | 5 => ("OathTill", "fed", "I", false)
  | 6 => ("OathTill", "now", "LOathTill$Court;", true)
  | 7 => ("OathTill", "draft", "LOathTill$Court;", true)
  | 8 => ("OathTill", "marks", "[LOathTill$Court;", true)
  | 9 => ("OathTill", "marked", "I", false)
  | 10 => ("OathTill", "text", "LOathTill$Text;", true)
  | 11 => ("OathTill", "reader", "LOathTill$Reader;", true)
  | 12 => ("OathTill", "stand", "LOathTill$Stand;", true)
  | 13 => ("OathTill", "plan", "LOathTill$Plan;", true)
  | 14 => ("OathTill", "whereabouts", "LOathTill$Whereabouts;", true)
  | 15 => ("OathTill", "life", "LOathTill$Runner;", true)
  | 16 => ("OathTill", "dream", "LOathTill$Runner;", true)
  | _ => ("OathTill", "lives", "I", false)
def tyX11 : Nat → FieldType := fun k => match k with
  | 0 => .int
  | 1 => .long
  | 2 => .long
  | 3 => .array (.object "OathTill$Tray")
  | 4 => .array .byte
  | 5 => .int
  | 6 => .object "OathTill$Court"
  | 7 => .object "OathTill$Court"
  | 8 => .array (.object "OathTill$Court")
  | 9 => .int
  | 10 => .object "OathTill$Text"
  | 11 => .object "OathTill$Reader"
  | 12 => .object "OathTill$Stand"
  | 13 => .object "OathTill$Plan"
  | 14 => .object "OathTill$Whereabouts"
  | 15 => .object "OathTill$Runner"
  | 16 => .object "OathTill$Runner"
  | _ => .int
theorem nmX11 : ∀ a, a < 18 → ∀ b, b < 18 → a ≠ b → (TX11 a).2.1 ≠ (TX11 b).2.1 := by decide +kernel
theorem tyX11_ok : ∀ k, k < 18 → parseFieldDescriptor (TX11 k).2.2.1 = some (tyX11 k) := by decide +kernel
def RX12 : String := "OathTillModel"
def TX12 : u_T := fun k => match k with
  | 0 => ("OathTillModel", "at", "[I", true)
  | 1 => ("OathTillModel", "names", "[J", true)
  | 2 => ("OathTillModel", "status", "I", false)
  | 3 => ("OathTillModel", "top", "J", false)
  | 4 => ("OathTillModel", "bottom", "J", false)
  | 5 => ("OathTillModel", "sort", "[I", true)
  | 6 => ("OathTillModel", "trayMany", "[I", true)
  | 7 => ("OathTillModel", "trays", "[J", true)
  | 8 => ("OathTillModel", "tape", "[B", true)
  | 9 => ("OathTillModel", "text", "[B", true)
  | 10 => ("OathTillModel", "taped", "I", false)
  | 11 => ("OathTillModel", "size", "I", false)
  | 12 => ("OathTillModel", "token", "I", false)
  | 13 => ("OathTillModel", "from", "I", false)
  | 14 => ("OathTillModel", "end", "I", false)
  | 15 => ("OathTillModel", "value", "I", false)
  | 16 => ("OathTillModel", "faultKind", "I", false)
  | 17 => ("OathTillModel", "faultPlace", "I", false)
  | 18 => ("OathTillModel", "faults", "I", false)
  | 19 => ("OathTillModel", "seen", "I", false)
  | 20 => ("OathTillModel", "told0", "I", false)
  | 21 => ("OathTillModel", "opened", "[I", true)
  | 22 => ("OathTillModel", "depth", "I", false)
  | 23 => ("OathTillModel", "counted", "I", false)
  | 24 => ("OathTillModel", "comes", "[I", true)
  | 25 => ("OathTillModel", "goesOn", "[I", true)
  | 26 => ("OathTillModel", "bestMany", "[I", true)
  | 27 => ("OathTillModel", "bestSet", "[I", true)
  | 28 => ("OathTillModel", "alibiPlace", "I", false)
  | 29 => ("OathTillModel", "alibiSet", "I", false)
  | 30 => ("OathTillModel", "isAlibi", "Z", false)
  | 31 => ("OathTillModel", "called", "[I", true)
  | 32 => ("OathTillModel", "isCalled", "Z", false)
  | 33 => ("OathTillModel", "drawn", "I", false)
  | 34 => ("OathTillModel", "ranSteps", "I", false)
  | 35 => ("OathTillModel", "loops", "[I", true)
  | 36 => ("OathTillModel", "ran", "[I", true)
  | 37 => ("OathTillModel", "told1", "[I", true)
  | 38 => ("OathTillModel", "isTold", "Z", false)
  | _ => ("OathTillModel", "marks", "I", false)
def tyX12 : Nat → FieldType := fun k => match k with
  | 0 => .array .int
  | 1 => .array .long
  | 2 => .int
  | 3 => .long
  | 4 => .long
  | 5 => .array .int
  | 6 => .array .int
  | 7 => .array .long
  | 8 => .array .byte
  | 9 => .array .byte
  | 10 => .int
  | 11 => .int
  | 12 => .int
  | 13 => .int
  | 14 => .int
  | 15 => .int
  | 16 => .int
  | 17 => .int
  | 18 => .int
  | 19 => .int
  | 20 => .int
  | 21 => .array .int
  | 22 => .int
  | 23 => .int
  | 24 => .array .int
  | 25 => .array .int
  | 26 => .array .int
  | 27 => .array .int
  | 28 => .int
  | 29 => .int
  | 30 => .boolean
  | 31 => .array .int
  | 32 => .boolean
  | 33 => .int
  | 34 => .int
  | 35 => .array .int
  | 36 => .array .int
  | 37 => .array .int
  | 38 => .boolean
  | _ => .int
theorem nmX12 : ∀ a, a < 40 → ∀ b, b < 40 → a ≠ b → (TX12 a).2.1 ≠ (TX12 b).2.1 := by decide +kernel
theorem tyX12_ok : ∀ k, k < 40 → parseFieldDescriptor (TX12 k).2.2.1 = some (tyX12 k) := by decide +kernel
abbrev vwCl : List vw_C := [(RX0, TX0, 12), (RX1, TX1, 8), (RX2, TX2, 7), (RX3, TX3, 11), (RX4, TX4, 7), (RX5, TX5, 12), (RX6, TX6, 9), (RX7, TX7, 12), (RX8, TX8, 4), (RX9, TX9, 11), (RX10, TX10, 5), (RX11, TX11, 18), (RX12, TX12, 40)]
