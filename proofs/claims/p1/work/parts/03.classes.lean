def RX0 : String := "LetterAuction$Bids"
def TX0 : u_T := fun k => match k with
  | 0 => ("LetterAuction$Bids", "wanted", "[I", true)
  | 1 => ("LetterAuction$Bids", "offered", "[I", true)
  | 2 => ("LetterAuction$Bids", "paid", "[I", true)
  | 3 => ("LetterAuction$Bids", "sums", "[I", true)
  | 4 => ("LetterAuction$Bids", "away", "[I", true)
  | 5 => ("LetterAuction$Bids", "best", "I", false)
  | 6 => ("LetterAuction$Bids", "cost", "I", false)
  | _ => ("LetterAuction$Bids", "bidders", "I", false)
def tyX0 : Nat → FieldType := fun k => match k with
  | 0 => .array .int
  | 1 => .array .int
  | 2 => .array .int
  | 3 => .array .int
  | 4 => .array .int
  | 5 => .int
  | 6 => .int
  | _ => .int
abbrev wsX00 : List Cond := u_ws RX0 TX0 8
theorem nmX0 : ∀ a, a < 8 → ∀ b, b < 8 → a ≠ b → (TX0 a).2.1 ≠ (TX0 b).2.1 := by decide +kernel
theorem tyX0_ok : ∀ k, k < 8 → parseFieldDescriptor (TX0 k).2.2.1 = some (tyX0 k) := by decide +kernel
def RX1 : String := "LetterAuction$Past"
def TX1 : u_T := fun k => match k with
  | 0 => ("LetterAuction$Past", "changes", "I", false)
  | 1 => ("LetterAuction$Past", "nextChange", "I", false)
  | 2 => ("LetterAuction$Past", "savedSlots", "I", false)
  | 3 => ("LetterAuction$Past", "befores", "[LLetterAuction$Standing;", true)
  | _ => ("LetterAuction$Past", "slots", "[LLetterAuction$Standing;", true)
def tyX1 : Nat → FieldType := fun k => match k with
  | 0 => .int
  | 1 => .int
  | 2 => .int
  | 3 => .array (.object "LetterAuction$Standing")
  | _ => .array (.object "LetterAuction$Standing")
abbrev wsX10 : List Cond := u_ws RX1 TX1 5
theorem nmX1 : ∀ a, a < 5 → ∀ b, b < 5 → a ≠ b → (TX1 a).2.1 ≠ (TX1 b).2.1 := by decide +kernel
theorem tyX1_ok : ∀ k, k < 5 → parseFieldDescriptor (TX1 k).2.2.1 = some (tyX1 k) := by decide +kernel
def RX2 : String := "LetterAuction$Plan"
def TX2 : u_T := fun k => match k with
  | 0 => ("LetterAuction$Plan", "letters", "I", false)
  | 1 => ("LetterAuction$Plan", "machines", "I", false)
  | 2 => ("LetterAuction$Plan", "listeners", "I", false)
  | 3 => ("LetterAuction$Plan", "turnRounds", "I", false)
  | 4 => ("LetterAuction$Plan", "turnPrice", "I", false)
  | 5 => ("LetterAuction$Plan", "coins", "[I", true)
  | 6 => ("LetterAuction$Plan", "weights", "[I", true)
  | 7 => ("LetterAuction$Plan", "states", "[I", true)
  | 8 => ("LetterAuction$Plan", "goals", "[I", true)
  | 9 => ("LetterAuction$Plan", "times", "[I", true)
  | _ => ("LetterAuction$Plan", "targets", "[I", true)
def tyX2 : Nat → FieldType := fun k => match k with
  | 0 => .int
  | 1 => .int
  | 2 => .int
  | 3 => .int
  | 4 => .int
  | 5 => .array .int
  | 6 => .array .int
  | 7 => .array .int
  | 8 => .array .int
  | 9 => .array .int
  | _ => .array .int
abbrev wsX20 : List Cond := u_ws RX2 TX2 11
theorem nmX2 : ∀ a, a < 11 → ∀ b, b < 11 → a ≠ b → (TX2 a).2.1 ≠ (TX2 b).2.1 := by decide +kernel
theorem tyX2_ok : ∀ k, k < 11 → parseFieldDescriptor (TX2 k).2.2.1 = some (tyX2 k) := by decide +kernel
def RX3 : String := "LetterAuction$Reader"
def TX3 : u_T := fun k => match k with
  | 0 => ("LetterAuction$Reader", "filled", "I", false)
  | 1 => ("LetterAuction$Reader", "errorCode", "I", false)
  | 2 => ("LetterAuction$Reader", "errorStart", "I", false)
  | 3 => ("LetterAuction$Reader", "bytes", "[B", true)
  | 4 => ("LetterAuction$Reader", "tokens", "LLetterAuction$Tokens;", true)
  | 5 => ("LetterAuction$Reader", "names", "[J", true)
  | 6 => ("LetterAuction$Reader", "isTurnRead", "Z", false)
  | 7 => ("LetterAuction$Reader", "next", "I", false)
  | _ => ("LetterAuction$Reader", "taken", "I", false)
def tyX3 : Nat → FieldType := fun k => match k with
  | 0 => .int
  | 1 => .int
  | 2 => .int
  | 3 => .array .byte
  | 4 => .object "LetterAuction$Tokens"
  | 5 => .array .long
  | 6 => .boolean
  | 7 => .int
  | _ => .int
abbrev wsX30 : List Cond := u_ws RX3 TX3 9
theorem nmX3 : ∀ a, a < 9 → ∀ b, b < 9 → a ≠ b → (TX3 a).2.1 ≠ (TX3 b).2.1 := by decide +kernel
theorem tyX3_ok : ∀ k, k < 9 → parseFieldDescriptor (TX3 k).2.2.1 = some (tyX3 k) := by decide +kernel
def RX4 : String := "LetterAuction$Search"
def TX4 : u_T := fun k => match k with
  | 0 => ("LetterAuction$Search", "places", "[I", true)
  | 1 => ("LetterAuction$Search", "met", "[I", true)
  | 2 => ("LetterAuction$Search", "origins", "[I", true)
  | 3 => ("LetterAuction$Search", "metCount", "I", false)
  | 4 => ("LetterAuction$Search", "ways", "[J", false)
  | 5 => ("LetterAuction$Search", "longerWays", "[J", false)
  | 6 => ("LetterAuction$Search", "set", "I", false)
  | _ => ("LetterAuction$Search", "isApart", "Z", false)
def tyX4 : Nat → FieldType := fun k => match k with
  | 0 => .array .int
  | 1 => .array .int
  | 2 => .array .int
  | 3 => .int
  | 4 => .array .long
  | 5 => .array .long
  | 6 => .int
  | _ => .boolean
abbrev wsX40 : List Cond := u_ws RX4 TX4 8
theorem nmX4 : ∀ a, a < 8 → ∀ b, b < 8 → a ≠ b → (TX4 a).2.1 ≠ (TX4 b).2.1 := by decide +kernel
theorem tyX4_ok : ∀ k, k < 8 → parseFieldDescriptor (TX4 k).2.2.1 = some (tyX4 k) := by decide +kernel
def RX5 : String := "LetterAuction$Standing"
def TX5 : u_T := fun k => match k with
  | 0 => ("LetterAuction$Standing", "state", "[I", true)
  | 1 => ("LetterAuction$Standing", "coins", "[I", true)
  | 2 => ("LetterAuction$Standing", "weight", "[I", true)
  | 3 => ("LetterAuction$Standing", "went", "[I", true)
  | 4 => ("LetterAuction$Standing", "balked", "[I", true)
  | 5 => ("LetterAuction$Standing", "strengths", "[I", true)
  | 6 => ("LetterAuction$Standing", "word", "[I", true)
  | 7 => ("LetterAuction$Standing", "accounts", "[I", true)
  | 8 => ("LetterAuction$Standing", "told", "I", false)
  | 9 => ("LetterAuction$Standing", "rounds", "I", false)
  | 10 => ("LetterAuction$Standing", "chest", "I", false)
  | 11 => ("LetterAuction$Standing", "turn", "I", false)
  | 12 => ("LetterAuction$Standing", "entries", "[I", true)
  | 13 => ("LetterAuction$Standing", "entryCount", "I", false)
  | _ => ("LetterAuction$Standing", "nextEntry", "I", false)
def tyX5 : Nat → FieldType := fun k => match k with
  | 0 => .array .int
  | 1 => .array .int
  | 2 => .array .int
  | 3 => .array .int
  | 4 => .array .int
  | 5 => .array .int
  | 6 => .array .int
  | 7 => .array .int
  | 8 => .int
  | 9 => .int
  | 10 => .int
  | 11 => .int
  | 12 => .array .int
  | 13 => .int
  | _ => .int
abbrev wsX50 : List Cond := u_ws RX5 TX5 15
theorem nmX5 : ∀ a, a < 15 → ∀ b, b < 15 → a ≠ b → (TX5 a).2.1 ≠ (TX5 b).2.1 := by decide +kernel
theorem tyX5_ok : ∀ k, k < 15 → parseFieldDescriptor (TX5 k).2.2.1 = some (tyX5 k) := by decide +kernel
def RX6 : String := "LetterAuction$Tokens"
def TX6 : u_T := fun k => match k with
  | 0 => ("LetterAuction$Tokens", "kinds", "[B", true)
  | 1 => ("LetterAuction$Tokens", "starts", "[I", true)
  | 2 => ("LetterAuction$Tokens", "values", "[J", true)
  | _ => ("LetterAuction$Tokens", "count", "I", false)
def tyX6 : Nat → FieldType := fun k => match k with
  | 0 => .array .byte
  | 1 => .array .int
  | 2 => .array .long
  | _ => .int
abbrev wsX60 : List Cond := u_ws RX6 TX6 4
theorem nmX6 : ∀ a, a < 4 → ∀ b, b < 4 → a ≠ b → (TX6 a).2.1 ≠ (TX6 b).2.1 := by decide +kernel
theorem tyX6_ok : ∀ k, k < 4 → parseFieldDescriptor (TX6 k).2.2.1 = some (tyX6 k) := by decide +kernel
def RX7 : String := "LetterAuction"
def TX7 : u_T := fun k => match k with
  | 0 => ("LetterAuction", "reader", "LLetterAuction$Reader;", true)
  | 1 => ("LetterAuction", "bids", "LLetterAuction$Bids;", true)
  | 2 => ("LetterAuction", "search", "LLetterAuction$Search;", true)
  | 3 => ("LetterAuction", "past", "LLetterAuction$Past;", true)
  | 4 => ("LetterAuction", "now", "LLetterAuction$Standing;", true)
  | 5 => ("LetterAuction", "trial", "LLetterAuction$Standing;", true)
  | 6 => ("LetterAuction", "plan", "LLetterAuction$Plan;", false)
  | _ => ("LetterAuction", "draft", "LLetterAuction$Plan;", false)
def tyX7 : Nat → FieldType := fun k => match k with
  | 0 => .object "LetterAuction$Reader"
  | 1 => .object "LetterAuction$Bids"
  | 2 => .object "LetterAuction$Search"
  | 3 => .object "LetterAuction$Past"
  | 4 => .object "LetterAuction$Standing"
  | 5 => .object "LetterAuction$Standing"
  | 6 => .object "LetterAuction$Plan"
  | _ => .object "LetterAuction$Plan"
abbrev wsX70 : List Cond := u_ws RX7 TX7 8
theorem nmX7 : ∀ a, a < 8 → ∀ b, b < 8 → a ≠ b → (TX7 a).2.1 ≠ (TX7 b).2.1 := by decide +kernel
theorem tyX7_ok : ∀ k, k < 8 → parseFieldDescriptor (TX7 k).2.2.1 = some (tyX7 k) := by decide +kernel
def RX8 : String := "LetterAuctionModel"
def TX8 : u_T := fun k => match k with
  | 0 => ("LetterAuctionModel", "thrown", "I", false)
  | 1 => ("LetterAuctionModel", "told", "[I", true)
  | 2 => ("LetterAuctionModel", "now", "[I", true)
  | 3 => ("LetterAuctionModel", "text", "[B", true)
  | 4 => ("LetterAuctionModel", "length", "I", false)
  | 5 => ("LetterAuctionModel", "textSize", "I", false)
  | 6 => ("LetterAuctionModel", "start", "I", false)
  | 7 => ("LetterAuctionModel", "next", "I", false)
  | 8 => ("LetterAuctionModel", "token", "I", false)
  | 9 => ("LetterAuctionModel", "value", "I", false)
  | 10 => ("LetterAuctionModel", "letters", "J", false)
  | 11 => ("LetterAuctionModel", "error", "I", false)
  | 12 => ("LetterAuctionModel", "errorAt", "I", false)
  | 13 => ("LetterAuctionModel", "number", "I", false)
  | 14 => ("LetterAuctionModel", "isTurned", "Z", false)
  | 15 => ("LetterAuctionModel", "read", "[I", true)
  | 16 => ("LetterAuctionModel", "readNames", "[J", true)
  | 17 => ("LetterAuctionModel", "machineAt", "I", false)
  | 18 => ("LetterAuctionModel", "paid", "[I", true)
  | 19 => ("LetterAuctionModel", "aside", "[I", true)
  | 20 => ("LetterAuctionModel", "ways", "[J", true)
  | 21 => ("LetterAuctionModel", "waysThen", "[J", true)
  | 22 => ("LetterAuctionModel", "waiting", "[I", true)
  | 23 => ("LetterAuctionModel", "before", "[I", true)
  | 24 => ("LetterAuctionModel", "byLetter", "[I", true)
  | 25 => ("LetterAuctionModel", "levels", "[I", true)
  | 26 => ("LetterAuctionModel", "undos", "I", false)
  | 27 => ("LetterAuctionModel", "undo", "[I", true)
  | 28 => ("LetterAuctionModel", "slots", "[I", true)
  | _ => ("LetterAuctionModel", "isSaved", "[Z", true)
def tyX8 : Nat → FieldType := fun k => match k with
  | 0 => .int
  | 1 => .array .int
  | 2 => .array .int
  | 3 => .array .byte
  | 4 => .int
  | 5 => .int
  | 6 => .int
  | 7 => .int
  | 8 => .int
  | 9 => .int
  | 10 => .long
  | 11 => .int
  | 12 => .int
  | 13 => .int
  | 14 => .boolean
  | 15 => .array .int
  | 16 => .array .long
  | 17 => .int
  | 18 => .array .int
  | 19 => .array .int
  | 20 => .array .long
  | 21 => .array .long
  | 22 => .array .int
  | 23 => .array .int
  | 24 => .array .int
  | 25 => .array .int
  | 26 => .int
  | 27 => .array .int
  | 28 => .array .int
  | _ => .array .boolean
abbrev wsX80 : List Cond := u_ws RX8 TX8 30
theorem nmX8 : ∀ a, a < 30 → ∀ b, b < 30 → a ≠ b → (TX8 a).2.1 ≠ (TX8 b).2.1 := by decide +kernel
theorem tyX8_ok : ∀ k, k < 30 → parseFieldDescriptor (TX8 k).2.2.1 = some (tyX8 k) := by decide +kernel
abbrev vwCl : List vw_C := [(RX0, TX0, 8), (RX1, TX1, 5), (RX2, TX2, 11), (RX3, TX3, 9), (RX4, TX4, 8), (RX5, TX5, 15), (RX6, TX6, 4), (RX7, TX7, 8), (RX8, TX8, 30)]
