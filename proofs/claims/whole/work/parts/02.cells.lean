/-! The cells: classes by number, their fields; which cells there are behind the constructors, and what the references hold that never change. Printed by wip/gen/cells.py. -/
def jR0 : String := "HalfHands$Journey"
def jT0 : u_T := fun k => match k with
  | 0 => ("HalfHands$Journey", "hour", "I", false)
  | 1 => ("HalfHands$Journey", "purses", "[I", true)
  | 2 => ("HalfHands$Journey", "turns", "[I", true)
  | 3 => ("HalfHands$Journey", "parcels", "I", false)
  | 4 => ("HalfHands$Journey", "from", "[I", true)
  | 5 => ("HalfHands$Journey", "wholes", "[I", true)
  | 6 => ("HalfHands$Journey", "due", "[I", true)
  | 7 => ("HalfHands$Journey", "states", "[I", true)
  | 8 => ("HalfHands$Journey", "left", "[I", true)
  | 9 => ("HalfHands$Journey", "hands", "[I", true)
  | 10 => ("HalfHands$Journey", "to", "[I", true)
  | 11 => ("HalfHands$Journey", "told", "LHalfHands$Telling;", false)
  | 12 => ("HalfHands$Journey", "otherwise", "I", false)
  | _ => ("HalfHands$Journey", "whose", "I", false)
def jY0 : Nat → FieldType := fun k => match k with
  | 0 => .int
  | 1 => .array .int
  | 2 => .array .int
  | 3 => .int
  | 4 => .array .int
  | 5 => .array .int
  | 6 => .array .int
  | 7 => .array .int
  | 8 => .array .int
  | 9 => .array .int
  | 10 => .array .int
  | 11 => .object "HalfHands$Telling"
  | 12 => .int
  | _ => .int
def jR1 : String := "HalfHands$Laws"
def jT1 : u_T := fun k => match k with
  | 0 => ("HalfHands$Laws", "knots", "I", false)
  | 1 => ("HalfHands$Laws", "toldLaw", "Z", false)
  | 2 => ("HalfHands$Laws", "written", "I", false)
  | 3 => ("HalfHands$Laws", "kinds", "[I", true)
  | 4 => ("HalfHands$Laws", "numbers", "[I", true)
  | 5 => ("HalfHands$Laws", "starts", "[I", true)
  | 6 => ("HalfHands$Laws", "ends", "[I", true)
  | 7 => ("HalfHands$Laws", "names", "[I", true)
  | _ => ("HalfHands$Laws", "stack", "[J", true)
def jY1 : Nat → FieldType := fun k => match k with
  | 0 => .int
  | 1 => .boolean
  | 2 => .int
  | 3 => .array .int
  | 4 => .array .int
  | 5 => .array .int
  | 6 => .array .int
  | 7 => .array .int
  | _ => .array .long
def jR2 : String := "HalfHands$Notes"
def jT2 : u_T := fun k => match k with
  | 0 => ("HalfHands$Notes", "size", "I", false)
  | 1 => ("HalfHands$Notes", "knownBy", "I", false)
  | 2 => ("HalfHands$Notes", "lengths", "[I", true)
  | 3 => ("HalfHands$Notes", "rows", "[J", true)
  | 4 => ("HalfHands$Notes", "coins", "[I", true)
  | 5 => ("HalfHands$Notes", "lows", "[I", true)
  | 6 => ("HalfHands$Notes", "highs", "[I", true)
  | 7 => ("HalfHands$Notes", "targets", "[I", true)
  | _ => ("HalfHands$Notes", "struck", "[Z", true)
def jY2 : Nat → FieldType := fun k => match k with
  | 0 => .int
  | 1 => .int
  | 2 => .array .int
  | 3 => .array .long
  | 4 => .array .int
  | 5 => .array .int
  | 6 => .array .int
  | 7 => .array .int
  | _ => .array .boolean
def jR3 : String := "HalfHands$Orders"
def jT3 : u_T := fun k => match k with
  | 0 => ("HalfHands$Orders", "row", "LHalfHands$Row;", true)
  | 1 => ("HalfHands$Orders", "told", "LHalfHands$Telling;", false)
  | 2 => ("HalfHands$Orders", "size", "I", false)
  | 3 => ("HalfHands$Orders", "carriers", "[I", true)
  | 4 => ("HalfHands$Orders", "homes", "[I", true)
  | 5 => ("HalfHands$Orders", "floors", "[I", true)
  | 6 => ("HalfHands$Orders", "stays", "[Z", true)
  | 7 => ("HalfHands$Orders", "table", "[I", true)
  | 8 => ("HalfHands$Orders", "laid", "[I", true)
  | 9 => ("HalfHands$Orders", "laidSize", "I", false)
  | 10 => ("HalfHands$Orders", "aim", "I", false)
  | _ => ("HalfHands$Orders", "wanted", "I", false)
def jY3 : Nat → FieldType := fun k => match k with
  | 0 => .object "HalfHands$Row"
  | 1 => .object "HalfHands$Telling"
  | 2 => .int
  | 3 => .array .int
  | 4 => .array .int
  | 5 => .array .int
  | 6 => .array .boolean
  | 7 => .array .int
  | 8 => .array .int
  | 9 => .int
  | 10 => .int
  | _ => .int
def jR4 : String := "HalfHands$Reader"
def jT4 : u_T := fun k => match k with
  | 0 => ("HalfHands$Reader", "fault", "I", false)
  | 1 => ("HalfHands$Reader", "faultPlace", "I", false)
  | 2 => ("HalfHands$Reader", "tokens", "LHalfHands$Tokens;", true)
  | 3 => ("HalfHands$Reader", "told", "LHalfHands$Telling;", false)
  | _ => ("HalfHands$Reader", "number", "I", false)
def jY4 : Nat → FieldType := fun k => match k with
  | 0 => .int
  | 1 => .int
  | 2 => .object "HalfHands$Tokens"
  | 3 => .object "HalfHands$Telling"
  | _ => .int
def jR5 : String := "HalfHands$Row"
def jT5 : u_T := fun k => match k with
  | 0 => ("HalfHands$Row", "length", "I", false)
  | _ => ("HalfHands$Row", "people", "[I", true)
def jY5 : Nat → FieldType := fun k => match k with
  | 0 => .int
  | _ => .array .int
def jR6 : String := "HalfHands$Telling"
def jT6 : u_T := fun k => match k with
  | 0 => ("HalfHands$Telling", "people", "I", false)
  | 1 => ("HalfHands$Telling", "personNames", "[I", true)
  | 2 => ("HalfHands$Telling", "ages", "[I", true)
  | 3 => ("HalfHands$Telling", "purses", "[I", true)
  | 4 => ("HalfHands$Telling", "ways", "[I", true)
  | 5 => ("HalfHands$Telling", "heirs", "[I", true)
  | 6 => ("HalfHands$Telling", "parcels", "I", false)
  | 7 => ("HalfHands$Telling", "from", "[I", true)
  | 8 => ("HalfHands$Telling", "coins", "[I", true)
  | 9 => ("HalfHands$Telling", "due", "[I", true)
  | 10 => ("HalfHands$Telling", "mays", "I", false)
  | 11 => ("HalfHands$Telling", "mayNames", "[I", true)
  | _ => ("HalfHands$Telling", "laws", "LHalfHands$Laws;", true)
def jY6 : Nat → FieldType := fun k => match k with
  | 0 => .int
  | 1 => .array .int
  | 2 => .array .int
  | 3 => .array .int
  | 4 => .array .int
  | 5 => .array .int
  | 6 => .int
  | 7 => .array .int
  | 8 => .array .int
  | 9 => .array .int
  | 10 => .int
  | 11 => .array .int
  | _ => .object "HalfHands$Laws"
def jR7 : String := "HalfHands$Tokens"
def jT7 : u_T := fun k => match k with
  | 0 => ("HalfHands$Tokens", "kind", "I", false)
  | 1 => ("HalfHands$Tokens", "place", "I", false)
  | 2 => ("HalfHands$Tokens", "value", "I", false)
  | 3 => ("HalfHands$Tokens", "behind", "I", false)
  | 4 => ("HalfHands$Tokens", "length", "I", false)
  | 5 => ("HalfHands$Tokens", "bytes", "[I", true)
  | _ => ("HalfHands$Tokens", "words", "[I", true)
def jY7 : Nat → FieldType := fun k => match k with
  | 0 => .int
  | 1 => .int
  | 2 => .int
  | 3 => .int
  | 4 => .int
  | 5 => .array .int
  | _ => .array .int
def jR8 : String := "HalfHands"
def jT8 : u_T := fun k => match k with
  | 0 => ("HalfHands", "tape", "[I", true)
  | 1 => ("HalfHands", "tapeLength", "I", false)
  | 2 => ("HalfHands", "told", "LHalfHands$Telling;", false)
  | 3 => ("HalfHands", "spare", "LHalfHands$Telling;", false)
  | 4 => ("HalfHands", "reader", "LHalfHands$Reader;", true)
  | 5 => ("HalfHands", "faultKind", "I", false)
  | 6 => ("HalfHands", "faultPlace", "I", false)
  | 7 => ("HalfHands", "run", "LHalfHands$Journey;", true)
  | 8 => ("HalfHands", "image", "LHalfHands$Journey;", true)
  | 9 => ("HalfHands", "imaged", "Z", false)
  | 10 => ("HalfHands", "trial", "LHalfHands$Journey;", true)
  | 11 => ("HalfHands", "chain", "LHalfHands$Row;", true)
  | 12 => ("HalfHands", "orders", "LHalfHands$Orders;", true)
  | _ => ("HalfHands", "notes", "LHalfHands$Notes;", true)
def jY8 : Nat → FieldType := fun k => match k with
  | 0 => .array .int
  | 1 => .int
  | 2 => .object "HalfHands$Telling"
  | 3 => .object "HalfHands$Telling"
  | 4 => .object "HalfHands$Reader"
  | 5 => .int
  | 6 => .int
  | 7 => .object "HalfHands$Journey"
  | 8 => .object "HalfHands$Journey"
  | 9 => .boolean
  | 10 => .object "HalfHands$Journey"
  | 11 => .object "HalfHands$Row"
  | 12 => .object "HalfHands$Orders"
  | _ => .object "HalfHands$Notes"
def jR9 : String := "HalfHandsModel"
def jT9 : u_T := fun k => match k with
  | 0 => ("HalfHandsModel", "thrown", "I", false)
  | 1 => ("HalfHandsModel", "tape", "[I", true)
  | 2 => ("HalfHandsModel", "taped", "I", false)
  | 3 => ("HalfHandsModel", "number", "[I", true)
  | 4 => ("HalfHandsModel", "personName", "[I", true)
  | 5 => ("HalfHandsModel", "age", "[I", true)
  | 6 => ("HalfHandsModel", "purse", "[I", true)
  | 7 => ("HalfHandsModel", "handsMany", "[I", true)
  | 8 => ("HalfHandsModel", "handsTo", "[I", true)
  | 9 => ("HalfHandsModel", "toldFrom", "[I", true)
  | 10 => ("HalfHandsModel", "toldCoins", "[I", true)
  | 11 => ("HalfHandsModel", "toldHour", "[I", true)
  | 12 => ("HalfHandsModel", "mayName", "[I", true)
  | 13 => ("HalfHandsModel", "sumFrom", "[I", true)
  | 14 => ("HalfHandsModel", "sumTo", "[I", true)
  | 15 => ("HalfHandsModel", "knotSort", "[I", true)
  | 16 => ("HalfHandsModel", "knotValue", "[I", true)
  | 17 => ("HalfHandsModel", "lines", "I", false)
  | 18 => ("HalfHandsModel", "size", "I", false)
  | 19 => ("HalfHandsModel", "at", "I", false)
  | 20 => ("HalfHandsModel", "place", "I", false)
  | 21 => ("HalfHandsModel", "sort", "I", false)
  | 22 => ("HalfHandsModel", "value", "I", false)
  | 23 => ("HalfHandsModel", "fault", "I", false)
  | 24 => ("HalfHandsModel", "faultPlace", "I", false)
  | 25 => ("HalfHandsModel", "lastFault", "I", false)
  | 26 => ("HalfHandsModel", "lastPlace", "I", false)
  | 27 => ("HalfHandsModel", "open", "I", false)
  | 28 => ("HalfHandsModel", "counted", "I", false)
  | 29 => ("HalfHandsModel", "hasLaw", "Z", false)
  | 30 => ("HalfHandsModel", "tryWhat", "I", false)
  | 31 => ("HalfHandsModel", "tryAt", "I", false)
  | 32 => ("HalfHandsModel", "lawBy", "I", false)
  | 33 => ("HalfHandsModel", "names", "[J", true)
  | 34 => ("HalfHandsModel", "worked", "[J", true)
  | 35 => ("HalfHandsModel", "workedMany", "I", false)
  | 36 => ("HalfHandsModel", "parcels", "I", false)
  | 37 => ("HalfHandsModel", "fromOf", "[I", true)
  | 38 => ("HalfHandsModel", "coinsOf", "[I", true)
  | 39 => ("HalfHandsModel", "hourOf", "[I", true)
  | 40 => ("HalfHandsModel", "next", "[I", true)
  | 41 => ("HalfHandsModel", "has", "[I", true)
  | 42 => ("HalfHandsModel", "turn", "[I", true)
  | 43 => ("HalfHandsModel", "state", "[I", true)
  | 44 => ("HalfHandsModel", "onWay", "[I", true)
  | 45 => ("HalfHandsModel", "handsIn", "[I", true)
  | 46 => ("HalfHandsModel", "toWhom", "[I", true)
  | 47 => ("HalfHandsModel", "imageParcels", "I", false)
  | 48 => ("HalfHandsModel", "hasImage", "Z", false)
  | 49 => ("HalfHandsModel", "row", "[I", true)
  | 50 => ("HalfHandsModel", "rowMany", "I", false)
  | 51 => ("HalfHandsModel", "keptBy", "[I", true)
  | 52 => ("HalfHandsModel", "backFrom", "J", false)
  | 53 => ("HalfHandsModel", "backTo", "J", false)
  | 54 => ("HalfHandsModel", "first", "[I", true)
  | 55 => ("HalfHandsModel", "task", "I", false)
  | 56 => ("HalfHandsModel", "sent", "I", false)
  | 57 => ("HalfHandsModel", "aim", "I", false)
  | 58 => ("HalfHandsModel", "watched", "I", false)
  | 59 => ("HalfHandsModel", "most", "I", false)
  | 60 => ("HalfHandsModel", "least", "I", false)
  | 61 => ("HalfHandsModel", "mostAt", "I", false)
  | 62 => ("HalfHandsModel", "leastAt", "I", false)
  | 63 => ("HalfHandsModel", "mostRow", "J", false)
  | 64 => ("HalfHandsModel", "leastRow", "J", false)
  | 65 => ("HalfHandsModel", "orders", "I", false)
  | 66 => ("HalfHandsModel", "aimRow", "J", false)
  | 67 => ("HalfHandsModel", "fewest", "I", false)
  | 68 => ("HalfHandsModel", "fewestRow", "J", false)
  | 69 => ("HalfHandsModel", "notes", "I", false)
  | 70 => ("HalfHandsModel", "knownBy", "I", false)
  | 71 => ("HalfHandsModel", "noteMany", "[I", true)
  | 72 => ("HalfHandsModel", "noteRow", "[J", true)
  | 73 => ("HalfHandsModel", "noteCoins", "[I", true)
  | 74 => ("HalfHandsModel", "noteLow", "[I", true)
  | 75 => ("HalfHandsModel", "noteHigh", "[I", true)
  | 76 => ("HalfHandsModel", "isStruck", "[Z", true)
  | 77 => ("HalfHandsModel", "imageFrom", "[I", true)
  | 78 => ("HalfHandsModel", "imageCoins", "[I", true)
  | _ => ("HalfHandsModel", "imageHour", "[I", true)
def jY9 : Nat → FieldType := fun k => match k with
  | 0 => .int
  | 1 => .array .int
  | 2 => .int
  | 3 => .array .int
  | 4 => .array .int
  | 5 => .array .int
  | 6 => .array .int
  | 7 => .array .int
  | 8 => .array .int
  | 9 => .array .int
  | 10 => .array .int
  | 11 => .array .int
  | 12 => .array .int
  | 13 => .array .int
  | 14 => .array .int
  | 15 => .array .int
  | 16 => .array .int
  | 17 => .int
  | 18 => .int
  | 19 => .int
  | 20 => .int
  | 21 => .int
  | 22 => .int
  | 23 => .int
  | 24 => .int
  | 25 => .int
  | 26 => .int
  | 27 => .int
  | 28 => .int
  | 29 => .boolean
  | 30 => .int
  | 31 => .int
  | 32 => .int
  | 33 => .array .long
  | 34 => .array .long
  | 35 => .int
  | 36 => .int
  | 37 => .array .int
  | 38 => .array .int
  | 39 => .array .int
  | 40 => .array .int
  | 41 => .array .int
  | 42 => .array .int
  | 43 => .array .int
  | 44 => .array .int
  | 45 => .array .int
  | 46 => .array .int
  | 47 => .int
  | 48 => .boolean
  | 49 => .array .int
  | 50 => .int
  | 51 => .array .int
  | 52 => .long
  | 53 => .long
  | 54 => .array .int
  | 55 => .int
  | 56 => .int
  | 57 => .int
  | 58 => .int
  | 59 => .int
  | 60 => .int
  | 61 => .int
  | 62 => .int
  | 63 => .long
  | 64 => .long
  | 65 => .int
  | 66 => .long
  | 67 => .int
  | 68 => .long
  | 69 => .int
  | 70 => .int
  | 71 => .array .int
  | 72 => .array .long
  | 73 => .array .int
  | 74 => .array .int
  | 75 => .array .int
  | 76 => .array .boolean
  | 77 => .array .int
  | 78 => .array .int
  | _ => .array .int
abbrev jcl : List vw_C := [(jR0, jT0, 14), (jR1, jT1, 9), (jR2, jT2, 9), (jR3, jT3, 12), (jR4, jT4, 5), (jR5, jT5, 2), (jR6, jT6, 13), (jR7, jT7, 7), (jR8, jT8, 14), (jR9, jT9, 80)]
def jyl : List (Nat → FieldType) := [jY0, jY1, jY2, jY3, jY4, jY5, jY6, jY7, jY8, jY9]
/-- kinds of fields: 0 int, 1 boolean, 2 long, 3 a reference that may change, 4 one that never does -/
def jFK : List (List Nat) := [[0, 4, 4, 0, 4, 4, 4, 4, 4, 4, 4, 3, 0, 0], [0, 1, 0, 4, 4, 4, 4, 4, 4], [0, 0, 4, 4, 4, 4, 4, 4, 4], [4, 3, 0, 4, 4, 4, 4, 4, 4, 0, 0, 0], [0, 0, 4, 3, 0], [0, 4], [0, 4, 4, 4, 4, 4, 0, 4, 4, 4, 0, 4, 4], [0, 0, 0, 0, 0, 4, 4], [4, 0, 3, 3, 4, 0, 0, 4, 4, 1, 4, 4, 4, 4], [0, 4, 0, 4, 4, 4, 4, 4, 4, 4, 4, 4, 4, 4, 4, 4, 4, 0, 0, 0, 0, 0, 0, 0, 0, 0, 0, 0, 0, 1, 0, 0, 0, 4, 4, 0, 0, 4, 4, 4, 4, 4, 4, 4, 4, 4, 4, 0, 1, 4, 0, 4, 2, 2, 4, 0, 0, 0, 0, 0, 0, 0, 0, 2, 2, 0, 2, 0, 2, 0, 0, 4, 4, 4, 4, 4, 4, 4, 4, 4]]
def j_fk (ci : Nat) : List Nat := jFK.getD ci []
/-- the cells: (0 int, 1 boolean, 2 long; length) of an array, or the number of an object's class -/
def jSH : List ((Nat × Nat) ⊕ Nat) := [.inr 8, .inl (0, 700), .inr 6, .inl (0, 10), .inl (0, 10), .inl (0, 10), .inl (0, 10), .inl (0, 30), .inl (0, 12), .inl (0, 12), .inl (0, 12), .inl (0, 4), .inr 1, .inl (0, 64), .inl (0, 64), .inl (0, 5), .inl (0, 5), .inl (0, 6), .inl (2, 64), .inr 6, .inl (0, 10), .inl (0, 10), .inl (0, 10), .inl (0, 10), .inl (0, 30), .inl (0, 12), .inl (0, 12), .inl (0, 12), .inl (0, 4), .inr 1, .inl (0, 64), .inl (0, 64), .inl (0, 5), .inl (0, 5), .inl (0, 6), .inl (2, 64), .inr 4, .inr 7, .inl (0, 16), .inr 0, .inl (0, 10), .inl (0, 10), .inl (0, 30), .inl (0, 30), .inl (0, 30), .inl (0, 30), .inl (0, 30), .inl (0, 30), .inl (0, 30), .inr 0, .inl (0, 10), .inl (0, 10), .inl (0, 30), .inl (0, 30), .inl (0, 30), .inl (0, 30), .inl (0, 30), .inl (0, 30), .inl (0, 30), .inr 0, .inl (0, 10), .inl (0, 10), .inl (0, 30), .inl (0, 30), .inl (0, 30), .inl (0, 30), .inl (0, 30), .inl (0, 30), .inl (0, 30), .inr 5, .inl (0, 10), .inr 3, .inl (0, 8), .inl (0, 8), .inl (0, 10), .inl (1, 729), .inl (0, 4096), .inl (0, 8), .inr 2, .inl (0, 40), .inl (2, 40), .inl (0, 40), .inl (0, 40), .inl (0, 40), .inl (0, 40), .inl (1, 40), .inr 9, .inl (0, 700), .inl (0, 8), .inl (0, 20), .inl (0, 20), .inl (0, 20), .inl (0, 20), .inl (0, 60), .inl (0, 24), .inl (0, 24), .inl (0, 24), .inl (0, 8), .inl (0, 10), .inl (0, 10), .inl (0, 128), .inl (0, 128), .inl (2, 6), .inl (2, 64), .inl (0, 30), .inl (0, 30), .inl (0, 30), .inl (0, 3), .inl (0, 30), .inl (0, 30), .inl (0, 90), .inl (0, 90), .inl (0, 90), .inl (0, 90), .inl (0, 10), .inl (0, 10), .inl (0, 10), .inl (0, 40), .inl (2, 40), .inl (0, 40), .inl (0, 40), .inl (0, 40), .inl (1, 40), .inl (0, 30), .inl (0, 30), .inl (0, 30), .inl (2, 1)]
/-- references that never change, by cell and field -/
def jCR : List (List Nat) := [[1, 0, 0, 0, 36, 0, 0, 39, 49, 0, 59, 69, 71, 78], [], [0, 3, 4, 5, 6, 7, 0, 8, 9, 10, 0, 11, 12], [], [], [], [], [], [], [], [], [], [0, 0, 0, 13, 14, 15, 16, 17, 18], [], [], [], [], [], [], [0, 20, 21, 22, 23, 24, 0, 25, 26, 27, 0, 28, 29], [], [], [], [], [], [], [], [], [], [0, 0, 0, 30, 31, 32, 33, 34, 35], [], [], [], [], [], [], [0, 0, 37, 0, 0], [0, 0, 0, 0, 0, 1, 38], [], [0, 40, 41, 0, 42, 43, 44, 45, 46, 47, 48, 0, 0, 0], [], [], [], [], [], [], [], [], [], [0, 50, 51, 0, 52, 53, 54, 55, 56, 57, 58, 0, 0, 0], [], [], [], [], [], [], [], [], [], [0, 60, 61, 0, 62, 63, 64, 65, 66, 67, 68, 0, 0, 0], [], [], [], [], [], [], [], [], [], [0, 70], [], [69, 0, 0, 72, 73, 74, 75, 76, 77, 0, 0, 0], [], [], [], [], [], [], [0, 0, 79, 80, 81, 82, 83, 84, 85], [], [], [], [], [], [], [], [0, 87, 0, 88, 89, 90, 91, 92, 93, 94, 95, 96, 97, 98, 99, 100, 101, 0, 0, 0, 0, 0, 0, 0, 0, 0, 0, 0, 0, 0, 0, 0, 0, 102, 103, 0, 0, 104, 105, 106, 107, 108, 109, 110, 111, 112, 113, 0, 0, 114, 0, 115, 0, 0, 116, 0, 0, 0, 0, 0, 0, 0, 0, 0, 0, 0, 0, 0, 0, 0, 0, 117, 118, 119, 120, 121, 122, 123, 124, 125], [], [], [], [], [], [], [], [], [], [], [], [], [], [], [], [], [], [], [], [], [], [], [], [], [], [], [], [], [], [], [], [], [], [], [], [], [], [], [], []]
/-- a place of a list, worked out step by step -/
noncomputable def jlook {α : Type} (l : List α) : Nat → Option α := List.rec (motive := fun _ => Nat → Option α) (fun _ => none) (fun x _ ih n => Nat.casesOn (motive := fun _ => Option α) n (some x) (fun m => ih m)) l
theorem jlook_eq {α : Type} : ∀ (l : List α) (n : Nat), jlook l n = l[n]?
  | [], _ => rfl
  | _ :: _, 0 => rfl
  | _ :: l, n + 1 => jlook_eq l n
noncomputable def j_sh (a : Nat) : Option ((Nat × Nat) ⊕ Nat) := jlook jSH a
theorem j_sh_eq (a : Nat) : j_sh a = jSH[a]? := jlook_eq jSH a
-- 0: x
-- 1: x.tape
-- 2: tA
-- 3: tA.personNames
-- 4: tA.ages
-- 5: tA.purses
-- 6: tA.ways
-- 7: tA.heirs
-- 8: tA.from
-- 9: tA.coins
-- 10: tA.due
-- 11: tA.mayNames
-- 12: tA.laws
-- 13: tA.laws.kinds
-- 14: tA.laws.numbers
-- 15: tA.laws.starts
-- 16: tA.laws.ends
-- 17: tA.laws.names
-- 18: tA.laws.stack
-- 19: tB
-- 20: tB.personNames
-- 21: tB.ages
-- 22: tB.purses
-- 23: tB.ways
-- 24: tB.heirs
-- 25: tB.from
-- 26: tB.coins
-- 27: tB.due
-- 28: tB.mayNames
-- 29: tB.laws
-- 30: tB.laws.kinds
-- 31: tB.laws.numbers
-- 32: tB.laws.starts
-- 33: tB.laws.ends
-- 34: tB.laws.names
-- 35: tB.laws.stack
-- 36: rd
-- 37: tk
-- 38: tk.words
-- 39: run
-- 40: run.purses
-- 41: run.turns
-- 42: run.from
-- 43: run.wholes
-- 44: run.due
-- 45: run.states
-- 46: run.left
-- 47: run.hands
-- 48: run.to
-- 49: image
-- 50: image.purses
-- 51: image.turns
-- 52: image.from
-- 53: image.wholes
-- 54: image.due
-- 55: image.states
-- 56: image.left
-- 57: image.hands
-- 58: image.to
-- 59: trial
-- 60: trial.purses
-- 61: trial.turns
-- 62: trial.from
-- 63: trial.wholes
-- 64: trial.due
-- 65: trial.states
-- 66: trial.left
-- 67: trial.hands
-- 68: trial.to
-- 69: chain
-- 70: chain.people
-- 71: orders
-- 72: orders.carriers
-- 73: orders.homes
-- 74: orders.floors
-- 75: orders.stays
-- 76: orders.table
-- 77: orders.laid
-- 78: notes
-- 79: notes.lengths
-- 80: notes.rows
-- 81: notes.coins
-- 82: notes.lows
-- 83: notes.highs
-- 84: notes.targets
-- 85: notes.struck
-- 86: m
-- 87: m.tape
-- 88: m.number
-- 89: m.personName
-- 90: m.age
-- 91: m.purse
-- 92: m.handsMany
-- 93: m.handsTo
-- 94: m.toldFrom
-- 95: m.toldCoins
-- 96: m.toldHour
-- 97: m.mayName
-- 98: m.sumFrom
-- 99: m.sumTo
-- 100: m.knotSort
-- 101: m.knotValue
-- 102: m.names
-- 103: m.worked
-- 104: m.fromOf
-- 105: m.coinsOf
-- 106: m.hourOf
-- 107: m.next
-- 108: m.has
-- 109: m.turn
-- 110: m.state
-- 111: m.onWay
-- 112: m.handsIn
-- 113: m.toWhom
-- 114: m.row
-- 115: m.keptBy
-- 116: m.first
-- 117: m.noteMany
-- 118: m.noteRow
-- 119: m.noteCoins
-- 120: m.noteLow
-- 121: m.noteHigh
-- 122: m.isStruck
-- 123: m.imageFrom
-- 124: m.imageCoins
-- 125: m.imageHour
-- 126: out
