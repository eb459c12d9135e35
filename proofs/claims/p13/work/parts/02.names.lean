section
def RX0 : String := "StaveHouse$ByteRow"
def TX0 : u_T := fun k => match k with
  | 0 => ("StaveHouse$ByteRow", "bytes", "[I", true)
  | 1 => ("StaveHouse$ByteRow", "size", "I", false)
  | _ => ("StaveHouse$ByteRow", "full", "Z", false)
def tyX0 : Nat → FieldType := fun k => match k with
  | 0 => .array .int
  | 1 => .int
  | _ => .boolean
theorem nmX0 : ∀ a, a < 3 → ∀ b, b < 3 → a ≠ b → (TX0 a).2.1 ≠ (TX0 b).2.1 := by decide +kernel
theorem tyX0_ok : ∀ k, k < 3 → parseFieldDescriptor (TX0 k).2.2.1 = some (tyX0 k) := by decide +kernel
def RX1 : String := "StaveHouse$Event"
def TX1 : u_T := fun k => match k with
  | 0 => ("StaveHouse$Event", "place", "J", false)
  | 1 => ("StaveHouse$Event", "length", "J", false)
  | 2 => ("StaveHouse$Event", "value", "I", false)
  | 3 => ("StaveHouse$Event", "tupletFirst", "I", false)
  | 4 => ("StaveHouse$Event", "tupletSecond", "I", false)
  | 5 => ("StaveHouse$Event", "bracket", "I", false)
  | 6 => ("StaveHouse$Event", "bracketPlace", "I", false)
  | 7 => ("StaveHouse$Event", "marks", "I", false)
  | 8 => ("StaveHouse$Event", "loud", "I", false)
  | 9 => ("StaveHouse$Event", "token", "I", false)
  | 10 => ("StaveHouse$Event", "count", "I", false)
  | 11 => ("StaveHouse$Event", "slurred", "Z", false)
  | 12 => ("StaveHouse$Event", "steps", "[I", true)
  | _ => ("StaveHouse$Event", "alterations", "[I", true)
def tyX1 : Nat → FieldType := fun k => match k with
  | 0 => .long
  | 1 => .long
  | 2 => .int
  | 3 => .int
  | 4 => .int
  | 5 => .int
  | 6 => .int
  | 7 => .int
  | 8 => .int
  | 9 => .int
  | 10 => .int
  | 11 => .boolean
  | 12 => .array .int
  | _ => .array .int
theorem nmX1 : ∀ a, a < 14 → ∀ b, b < 14 → a ≠ b → (TX1 a).2.1 ≠ (TX1 b).2.1 := by decide +kernel
theorem tyX1_ok : ∀ k, k < 14 → parseFieldDescriptor (TX1 k).2.2.1 = some (tyX1 k) := by decide +kernel
def RX2 : String := "StaveHouse$Layout"
def TX2 : u_T := fun k => match k with
  | 0 => ("StaveHouse$Layout", "lineCount", "I", false)
  | 1 => ("StaveHouse$Layout", "columnPlaces", "[J", true)
  | 2 => ("StaveHouse$Layout", "columnWidths", "[I", true)
  | 3 => ("StaveHouse$Layout", "columnXs", "[I", true)
  | 4 => ("StaveHouse$Layout", "columns", "I", false)
  | 5 => ("StaveHouse$Layout", "barFirsts", "[I", true)
  | 6 => ("StaveHouse$Layout", "barWidths", "[I", true)
  | 7 => ("StaveHouse$Layout", "lineFirsts", "[I", true)
  | 8 => ("StaveHouse$Layout", "lineWidths", "[I", true)
  | 9 => ("StaveHouse$Layout", "linePrices", "[J", true)
  | 10 => ("StaveHouse$Layout", "best", "[J", true)
  | 11 => ("StaveHouse$Layout", "breaks", "[I", true)
  | _ => ("StaveHouse$Layout", "nexts", "[I", true)
def tyX2 : Nat → FieldType := fun k => match k with
  | 0 => .int
  | 1 => .array .long
  | 2 => .array .int
  | 3 => .array .int
  | 4 => .int
  | 5 => .array .int
  | 6 => .array .int
  | 7 => .array .int
  | 8 => .array .int
  | 9 => .array .long
  | 10 => .array .long
  | 11 => .array .int
  | _ => .array .int
theorem nmX2 : ∀ a, a < 13 → ∀ b, b < 13 → a ≠ b → (TX2 a).2.1 ≠ (TX2 b).2.1 := by decide +kernel
theorem tyX2_ok : ∀ k, k < 13 → parseFieldDescriptor (TX2 k).2.2.1 = some (tyX2 k) := by decide +kernel
def RX3 : String := "StaveHouse$Parser"
def TX3 : u_T := fun k => match k with
  | 0 => ("StaveHouse$Parser", "kind", "[I", true)
  | 1 => ("StaveHouse$Parser", "place", "[I", true)
  | 2 => ("StaveHouse$Parser", "first", "[I", true)
  | 3 => ("StaveHouse$Parser", "second", "[I", true)
  | 4 => ("StaveHouse$Parser", "child", "[I", true)
  | 5 => ("StaveHouse$Parser", "next", "[I", true)
  | 6 => ("StaveHouse$Parser", "count", "[I", true)
  | 7 => ("StaveHouse$Parser", "marks", "[I", true)
  | 8 => ("StaveHouse$Parser", "pitchSteps", "[I", true)
  | 9 => ("StaveHouse$Parser", "pitchAlterations", "[I", true)
  | 10 => ("StaveHouse$Parser", "pitchPlaces", "[I", true)
  | 11 => ("StaveHouse$Parser", "token", "LStaveHouse$Tokens;", true)
  | 12 => ("StaveHouse$Parser", "letNames", "[J", true)
  | 13 => ("StaveHouse$Parser", "letItems", "[I", true)
  | 14 => ("StaveHouse$Parser", "items", "I", false)
  | 15 => ("StaveHouse$Parser", "pitches", "I", false)
  | 16 => ("StaveHouse$Parser", "lets", "I", false)
  | 17 => ("StaveHouse$Parser", "headsTold", "I", false)
  | 18 => ("StaveHouse$Parser", "depth", "I", false)
  | 19 => ("StaveHouse$Parser", "number", "I", false)
  | 20 => ("StaveHouse$Parser", "length", "I", false)
  | _ => ("StaveHouse$Parser", "wrong", "I", false)
def tyX3 : Nat → FieldType := fun k => match k with
  | 0 => .array .int
  | 1 => .array .int
  | 2 => .array .int
  | 3 => .array .int
  | 4 => .array .int
  | 5 => .array .int
  | 6 => .array .int
  | 7 => .array .int
  | 8 => .array .int
  | 9 => .array .int
  | 10 => .array .int
  | 11 => .object "StaveHouse$Tokens"
  | 12 => .array .long
  | 13 => .array .int
  | 14 => .int
  | 15 => .int
  | 16 => .int
  | 17 => .int
  | 18 => .int
  | 19 => .int
  | 20 => .int
  | _ => .int
theorem nmX3 : ∀ a, a < 22 → ∀ b, b < 22 → a ≠ b → (TX3 a).2.1 ≠ (TX3 b).2.1 := by decide +kernel
theorem tyX3_ok : ∀ k, k < 22 → parseFieldDescriptor (TX3 k).2.2.1 = some (tyX3 k) := by decide +kernel
def RX4 : String := "StaveHouse$Part"
def TX4 : u_T := fun k => match k with
  | 0 => ("StaveHouse$Part", "word", "J", false)
  | 1 => ("StaveHouse$Part", "clef", "I", false)
  | 2 => ("StaveHouse$Part", "number", "I", false)
  | 3 => ("StaveHouse$Part", "token", "I", false)
  | 4 => ("StaveHouse$Part", "root", "I", false)
  | 5 => ("StaveHouse$Part", "events", "[LStaveHouse$Event;", true)
  | 6 => ("StaveHouse$Part", "eventCount", "I", false)
  | 7 => ("StaveHouse$Part", "endPlace", "J", false)
  | 8 => ("StaveHouse$Part", "notes", "[[I", true)
  | 9 => ("StaveHouse$Part", "notePlaces", "[J", true)
  | 10 => ("StaveHouse$Part", "noteCount", "I", false)
  | 11 => ("StaveHouse$Part", "tooManyNotes", "Z", false)
  | _ => ("StaveHouse$Part", "known", "[I", true)
def tyX4 : Nat → FieldType := fun k => match k with
  | 0 => .long
  | 1 => .int
  | 2 => .int
  | 3 => .int
  | 4 => .int
  | 5 => .array (.object "StaveHouse$Event")
  | 6 => .int
  | 7 => .long
  | 8 => .array (.array .int)
  | 9 => .array .long
  | 10 => .int
  | 11 => .boolean
  | _ => .array .int
theorem nmX4 : ∀ a, a < 13 → ∀ b, b < 13 → a ≠ b → (TX4 a).2.1 ≠ (TX4 b).2.1 := by decide +kernel
theorem tyX4_ok : ∀ k, k < 13 → parseFieldDescriptor (TX4 k).2.2.1 = some (tyX4 k) := by decide +kernel
def RX5 : String := "StaveHouse$Performance"
def TX5 : u_T := fun k => match k with
  | 0 => ("StaveHouse$Performance", "count", "I", false)
  | 1 => ("StaveHouse$Performance", "tooMany", "Z", false)
  | 2 => ("StaveHouse$Performance", "made", "I", false)
  | 3 => ("StaveHouse$Performance", "latest", "I", false)
  | 4 => ("StaveHouse$Performance", "heardRow", "[I", true)
  | 5 => ("StaveHouse$Performance", "codeRow", "[I", true)
  | 6 => ("StaveHouse$Performance", "mix", "[I", true)
  | 7 => ("StaveHouse$Performance", "sounds", "[[I", true)
  | 8 => ("StaveHouse$Performance", "strokes", "[J", false)
  | 9 => ("StaveHouse$Performance", "otherStrokes", "[J", false)
  | 10 => ("StaveHouse$Performance", "keyTicks", "[J", true)
  | 11 => ("StaveHouse$Performance", "heard", "I", false)
  | 12 => ("StaveHouse$Performance", "predicted", "I", false)
  | _ => ("StaveHouse$Performance", "index", "I", false)
def tyX5 : Nat → FieldType := fun k => match k with
  | 0 => .int
  | 1 => .boolean
  | 2 => .int
  | 3 => .int
  | 4 => .array .int
  | 5 => .array .int
  | 6 => .array .int
  | 7 => .array (.array .int)
  | 8 => .array .long
  | 9 => .array .long
  | 10 => .array .long
  | 11 => .int
  | 12 => .int
  | _ => .int
theorem nmX5 : ∀ a, a < 14 → ∀ b, b < 14 → a ≠ b → (TX5 a).2.1 ≠ (TX5 b).2.1 := by decide +kernel
theorem tyX5_ok : ∀ k, k < 14 → parseFieldDescriptor (TX5 k).2.2.1 = some (tyX5 k) := by decide +kernel
def RX6 : String := "StaveHouse$Piece"
def TX6 : u_T := fun k => match k with
  | 0 => ("StaveHouse$Piece", "parts", "[LStaveHouse$Part;", true)
  | 1 => ("StaveHouse$Piece", "partCount", "I", false)
  | 2 => ("StaveHouse$Piece", "fifths", "I", false)
  | 3 => ("StaveHouse$Piece", "minor", "I", false)
  | 4 => ("StaveHouse$Piece", "above", "I", false)
  | 5 => ("StaveHouse$Piece", "below", "I", false)
  | 6 => ("StaveHouse$Piece", "tempo", "I", false)
  | 7 => ("StaveHouse$Piece", "bars", "I", false)
  | 8 => ("StaveHouse$Piece", "layout", "LStaveHouse$Layout;", false)
  | 9 => ("StaveHouse$Piece", "performance", "LStaveHouse$Performance;", false)
  | 10 => ("StaveHouse$Piece", "performed", "Z", false)
  | 11 => ("StaveHouse$Piece", "sounded", "Z", false)
  | 12 => ("StaveHouse$Piece", "study", "LStaveHouse$Study;", false)
  | _ => ("StaveHouse$Piece", "studied", "Z", false)
def tyX6 : Nat → FieldType := fun k => match k with
  | 0 => .array (.object "StaveHouse$Part")
  | 1 => .int
  | 2 => .int
  | 3 => .int
  | 4 => .int
  | 5 => .int
  | 6 => .int
  | 7 => .int
  | 8 => .object "StaveHouse$Layout"
  | 9 => .object "StaveHouse$Performance"
  | 10 => .boolean
  | 11 => .boolean
  | 12 => .object "StaveHouse$Study"
  | _ => .boolean
theorem nmX6 : ∀ a, a < 14 → ∀ b, b < 14 → a ≠ b → (TX6 a).2.1 ≠ (TX6 b).2.1 := by decide +kernel
theorem tyX6_ok : ∀ k, k < 14 → parseFieldDescriptor (TX6 k).2.2.1 = some (tyX6 k) := by decide +kernel
def RX7 : String := "StaveHouse$Scribe"
def TX7 : u_T := fun k => match k with
  | 0 => ("StaveHouse$Scribe", "source", "LStaveHouse$SoundFile;", false)
  | 1 => ("StaveHouse$Scribe", "page", "LStaveHouse$ByteRow;", false)
  | 2 => ("StaveHouse$Scribe", "grid", "I", false)
  | 3 => ("StaveHouse$Scribe", "bar", "I", false)
  | 4 => ("StaveHouse$Scribe", "event", "LStaveHouse$Event;", true)
  | 5 => ("StaveHouse$Scribe", "from", "J", false)
  | 6 => ("StaveHouse$Scribe", "to", "J", false)
  | 7 => ("StaveHouse$Scribe", "next", "I", false)
  | _ => ("StaveHouse$Scribe", "hasTone", "[Z", true)
def tyX7 : Nat → FieldType := fun k => match k with
  | 0 => .object "StaveHouse$SoundFile"
  | 1 => .object "StaveHouse$ByteRow"
  | 2 => .int
  | 3 => .int
  | 4 => .object "StaveHouse$Event"
  | 5 => .long
  | 6 => .long
  | 7 => .int
  | _ => .array .boolean
theorem nmX7 : ∀ a, a < 9 → ∀ b, b < 9 → a ≠ b → (TX7 a).2.1 ≠ (TX7 b).2.1 := by decide +kernel
theorem tyX7_ok : ∀ k, k < 9 → parseFieldDescriptor (TX7 k).2.2.1 = some (tyX7 k) := by decide +kernel
def RX8 : String := "StaveHouse$SoundFile"
def TX8 : u_T := fun k => match k with
  | 0 => ("StaveHouse$SoundFile", "head", "[I", true)
  | 1 => ("StaveHouse$SoundFile", "sounds", "[[J", true)
  | 2 => ("StaveHouse$SoundFile", "count", "I", false)
  | 3 => ("StaveHouse$SoundFile", "numbers", "[I", true)
  | 4 => ("StaveHouse$SoundFile", "row", "LStaveHouse$ByteRow;", false)
  | 5 => ("StaveHouse$SoundFile", "at", "I", false)
  | 6 => ("StaveHouse$SoundFile", "limit", "I", false)
  | 7 => ("StaveHouse$SoundFile", "wrong", "I", false)
  | 8 => ("StaveHouse$SoundFile", "track", "I", false)
  | 9 => ("StaveHouse$SoundFile", "status", "I", false)
  | 10 => ("StaveHouse$SoundFile", "tick", "J", false)
  | 11 => ("StaveHouse$SoundFile", "trackDone", "Z", false)
  | 12 => ("StaveHouse$SoundFile", "keyTold", "Z", false)
  | 13 => ("StaveHouse$SoundFile", "timeTold", "Z", false)
  | _ => ("StaveHouse$SoundFile", "tempoTold", "Z", false)
def tyX8 : Nat → FieldType := fun k => match k with
  | 0 => .array .int
  | 1 => .array (.array .long)
  | 2 => .int
  | 3 => .array .int
  | 4 => .object "StaveHouse$ByteRow"
  | 5 => .int
  | 6 => .int
  | 7 => .int
  | 8 => .int
  | 9 => .int
  | 10 => .long
  | 11 => .boolean
  | 12 => .boolean
  | 13 => .boolean
  | _ => .boolean
theorem nmX8 : ∀ a, a < 15 → ∀ b, b < 15 → a ≠ b → (TX8 a).2.1 ≠ (TX8 b).2.1 := by decide +kernel
theorem tyX8_ok : ∀ k, k < 15 → parseFieldDescriptor (TX8 k).2.2.1 = some (tyX8 k) := by decide +kernel
def RX9 : String := "StaveHouse$Study"
def TX9 : u_T := fun k => match k with
  | 0 => ("StaveHouse$Study", "moments", "I", false)
  | 1 => ("StaveHouse$Study", "places", "[J", true)
  | 2 => ("StaveHouse$Study", "faults", "I", false)
  | 3 => ("StaveHouse$Study", "faultRows", "[[I", true)
  | 4 => ("StaveHouse$Study", "eventsAt", "[[I", true)
  | 5 => ("StaveHouse$Study", "steps", "[I", true)
  | 6 => ("StaveHouse$Study", "tones", "[I", true)
  | 7 => ("StaveHouse$Study", "oldSteps", "[I", true)
  | 8 => ("StaveHouse$Study", "oldTones", "[I", true)
  | 9 => ("StaveHouse$Study", "begins", "[Z", true)
  | _ => ("StaveHouse$Study", "letters", "[I", true)
def tyX9 : Nat → FieldType := fun k => match k with
  | 0 => .int
  | 1 => .array .long
  | 2 => .int
  | 3 => .array (.array .int)
  | 4 => .array (.array .int)
  | 5 => .array .int
  | 6 => .array .int
  | 7 => .array .int
  | 8 => .array .int
  | 9 => .array .boolean
  | _ => .array .int
theorem nmX9 : ∀ a, a < 11 → ∀ b, b < 11 → a ≠ b → (TX9 a).2.1 ≠ (TX9 b).2.1 := by decide +kernel
theorem tyX9_ok : ∀ k, k < 11 → parseFieldDescriptor (TX9 k).2.2.1 = some (tyX9 k) := by decide +kernel
def RX10 : String := "StaveHouse$Tokens"
def TX10 : u_T := fun k => match k with
  | 0 => ("StaveHouse$Tokens", "kind", "I", false)
  | 1 => ("StaveHouse$Tokens", "place", "I", false)
  | 2 => ("StaveHouse$Tokens", "value", "J", false)
  | 3 => ("StaveHouse$Tokens", "step", "I", false)
  | 4 => ("StaveHouse$Tokens", "alteration", "I", false)
  | 5 => ("StaveHouse$Tokens", "kinds", "[I", true)
  | 6 => ("StaveHouse$Tokens", "places", "[I", true)
  | 7 => ("StaveHouse$Tokens", "values", "[J", true)
  | _ => ("StaveHouse$Tokens", "next", "I", false)
def tyX10 : Nat → FieldType := fun k => match k with
  | 0 => .int
  | 1 => .int
  | 2 => .long
  | 3 => .int
  | 4 => .int
  | 5 => .array .int
  | 6 => .array .int
  | 7 => .array .long
  | _ => .int
theorem nmX10 : ∀ a, a < 9 → ∀ b, b < 9 → a ≠ b → (TX10 a).2.1 ≠ (TX10 b).2.1 := by decide +kernel
theorem tyX10_ok : ∀ k, k < 9 → parseFieldDescriptor (TX10 k).2.2.1 = some (tyX10 k) := by decide +kernel
def RX11 : String := "StaveHouse$Walker"
def TX11 : u_T := fun k => match k with
  | 0 => ("StaveHouse$Walker", "tree", "LStaveHouse$Parser;", false)
  | 1 => ("StaveHouse$Walker", "part", "LStaveHouse$Part;", false)
  | 2 => ("StaveHouse$Walker", "wrong", "I", false)
  | 3 => ("StaveHouse$Walker", "gone", "I", false)
  | 4 => ("StaveHouse$Walker", "loud", "I", false)
  | 5 => ("StaveHouse$Walker", "backs", "I", false)
  | 6 => ("StaveHouse$Walker", "brackets", "I", false)
  | 7 => ("StaveHouse$Walker", "bracket", "I", false)
  | 8 => ("StaveHouse$Walker", "bracketPlace", "I", false)
  | 9 => ("StaveHouse$Walker", "tupletFirst", "I", false)
  | 10 => ("StaveHouse$Walker", "tupletSecond", "I", false)
  | 11 => ("StaveHouse$Walker", "come", "J", false)
  | 12 => ("StaveHouse$Walker", "farthest", "J", false)
  | 13 => ("StaveHouse$Walker", "bar", "J", false)
  | 14 => ("StaveHouse$Walker", "powers", "[I", true)
  | 15 => ("StaveHouse$Walker", "carrySigns", "[I", true)
  | 16 => ("StaveHouse$Walker", "carrySteps", "[I", true)
  | 17 => ("StaveHouse$Walker", "carryTones", "[I", true)
  | _ => ("StaveHouse$Walker", "carries", "I", false)
def tyX11 : Nat → FieldType := fun k => match k with
  | 0 => .object "StaveHouse$Parser"
  | 1 => .object "StaveHouse$Part"
  | 2 => .int
  | 3 => .int
  | 4 => .int
  | 5 => .int
  | 6 => .int
  | 7 => .int
  | 8 => .int
  | 9 => .int
  | 10 => .int
  | 11 => .long
  | 12 => .long
  | 13 => .long
  | 14 => .array .int
  | 15 => .array .int
  | 16 => .array .int
  | 17 => .array .int
  | _ => .int
theorem nmX11 : ∀ a, a < 19 → ∀ b, b < 19 → a ≠ b → (TX11 a).2.1 ≠ (TX11 b).2.1 := by decide +kernel
theorem tyX11_ok : ∀ k, k < 19 → parseFieldDescriptor (TX11 k).2.2.1 = some (tyX11 k) := by decide +kernel
def RX12 : String := "StaveHouse"
def TX12 : u_T := fun k => match k with
  | 0 => ("StaveHouse", "tape", "LStaveHouse$ByteRow;", true)
  | 1 => ("StaveHouse", "waiting", "[I", true)
  | 2 => ("StaveHouse", "written", "LStaveHouse$ByteRow;", true)
  | 3 => ("StaveHouse", "pieces", "[LStaveHouse$Piece;", true)
  | 4 => ("StaveHouse", "parser", "LStaveHouse$Parser;", true)
  | 5 => ("StaveHouse", "walker", "LStaveHouse$Walker;", true)
  | 6 => ("StaveHouse", "scribe", "LStaveHouse$Scribe;", true)
  | 7 => ("StaveHouse", "spare", "LStaveHouse$Piece;", false)
  | 8 => ("StaveHouse", "opened", "LStaveHouse$SoundFile;", false)
  | _ => ("StaveHouse", "spareFile", "LStaveHouse$SoundFile;", false)
def tyX12 : Nat → FieldType := fun k => match k with
  | 0 => .object "StaveHouse$ByteRow"
  | 1 => .array .int
  | 2 => .object "StaveHouse$ByteRow"
  | 3 => .array (.object "StaveHouse$Piece")
  | 4 => .object "StaveHouse$Parser"
  | 5 => .object "StaveHouse$Walker"
  | 6 => .object "StaveHouse$Scribe"
  | 7 => .object "StaveHouse$Piece"
  | 8 => .object "StaveHouse$SoundFile"
  | _ => .object "StaveHouse$SoundFile"
theorem nmX12 : ∀ a, a < 10 → ∀ b, b < 10 → a ≠ b → (TX12 a).2.1 ≠ (TX12 b).2.1 := by decide +kernel
theorem tyX12_ok : ∀ k, k < 10 → parseFieldDescriptor (TX12 k).2.2.1 = some (tyX12 k) := by decide +kernel
def RX13 : String := "StaveHouseModel$Piece"
def TX13 : u_T := fun k => match k with
  | 0 => ("StaveHouseModel$Piece", "there", "Z", false)
  | 1 => ("StaveHouseModel$Piece", "voices", "I", false)
  | 2 => ("StaveHouseModel$Piece", "fifths", "I", false)
  | 3 => ("StaveHouseModel$Piece", "minor", "Z", false)
  | 4 => ("StaveHouseModel$Piece", "n", "I", false)
  | 5 => ("StaveHouseModel$Piece", "d", "I", false)
  | 6 => ("StaveHouseModel$Piece", "tempo", "I", false)
  | 7 => ("StaveHouseModel$Piece", "bars", "I", false)
  | 8 => ("StaveHouseModel$Piece", "clef", "[I", true)
  | 9 => ("StaveHouseModel$Piece", "number", "[I", true)
  | 10 => ("StaveHouseModel$Piece", "name", "[J", true)
  | 11 => ("StaveHouseModel$Piece", "letters", "[I", true)
  | 12 => ("StaveHouseModel$Piece", "events", "[I", true)
  | 13 => ("StaveHouseModel$Piece", "notes", "[I", true)
  | 14 => ("StaveHouseModel$Piece", "up", "[J", true)
  | 15 => ("StaveHouseModel$Piece", "down", "[J", true)
  | 16 => ("StaveHouseModel$Piece", "lengthUp", "[J", true)
  | 17 => ("StaveHouseModel$Piece", "lengthDown", "[J", true)
  | 18 => ("StaveHouseModel$Piece", "marks", "[I", true)
  | 19 => ("StaveHouseModel$Piece", "loud", "[I", true)
  | 20 => ("StaveHouseModel$Piece", "token", "[I", true)
  | 21 => ("StaveHouseModel$Piece", "many", "[I", true)
  | 22 => ("StaveHouseModel$Piece", "inside", "[I", true)
  | 23 => ("StaveHouseModel$Piece", "ratioUp", "[I", true)
  | 24 => ("StaveHouseModel$Piece", "ratioDown", "[I", true)
  | 25 => ("StaveHouseModel$Piece", "outer", "[I", true)
  | 26 => ("StaveHouseModel$Piece", "outerToken", "[I", true)
  | 27 => ("StaveHouseModel$Piece", "slur", "[Z", true)
  | 28 => ("StaveHouseModel$Piece", "step", "[I", true)
  | 29 => ("StaveHouseModel$Piece", "alt", "[I", true)
  | 30 => ("StaveHouseModel$Piece", "of", "[I", true)
  | 31 => ("StaveHouseModel$Piece", "bar", "[I", true)
  | 32 => ("StaveHouseModel$Piece", "inUp", "[J", true)
  | 33 => ("StaveHouseModel$Piece", "inDown", "[J", true)
  | 34 => ("StaveHouseModel$Piece", "form", "[I", true)
  | 35 => ("StaveHouseModel$Piece", "points", "[I", true)
  | 36 => ("StaveHouseModel$Piece", "held", "[I", true)
  | 37 => ("StaveHouseModel$Piece", "accidentals", "[I", true)
  | 38 => ("StaveHouseModel$Piece", "ledgers", "[I", true)
  | 39 => ("StaveHouseModel$Piece", "group", "[I", true)
  | 40 => ("StaveHouseModel$Piece", "beams", "[I", true)
  | 41 => ("StaveHouseModel$Piece", "stem", "[I", true)
  | 42 => ("StaveHouseModel$Piece", "firstColumn", "[I", true)
  | 43 => ("StaveHouseModel$Piece", "columnUp", "[J", true)
  | 44 => ("StaveHouseModel$Piece", "columnDown", "[J", true)
  | 45 => ("StaveHouseModel$Piece", "columnWide", "[I", true)
  | 46 => ("StaveHouseModel$Piece", "barWide", "[I", true)
  | 47 => ("StaveHouseModel$Piece", "width", "I", false)
  | 48 => ("StaveHouseModel$Piece", "lines", "I", false)
  | 49 => ("StaveHouseModel$Piece", "lineBar", "[I", true)
  | 50 => ("StaveHouseModel$Piece", "lineBars", "[I", true)
  | 51 => ("StaveHouseModel$Piece", "lineWide", "[I", true)
  | 52 => ("StaveHouseModel$Piece", "linePrice", "[J", true)
  | 53 => ("StaveHouseModel$Piece", "performed", "Z", false)
  | 54 => ("StaveHouseModel$Piece", "sounds", "I", false)
  | 55 => ("StaveHouseModel$Piece", "begins", "[I", true)
  | 56 => ("StaveHouseModel$Piece", "ends", "[I", true)
  | 57 => ("StaveHouseModel$Piece", "tone", "[I", true)
  | 58 => ("StaveHouseModel$Piece", "force", "[I", true)
  | 59 => ("StaveHouseModel$Piece", "voiceOf", "[I", true)
  | 60 => ("StaveHouseModel$Piece", "strokes", "I", false)
  | 61 => ("StaveHouseModel$Piece", "strokeTick", "[I", true)
  | 62 => ("StaveHouseModel$Piece", "strokeVoice", "[I", true)
  | 63 => ("StaveHouseModel$Piece", "strokeTone", "[I", true)
  | 64 => ("StaveHouseModel$Piece", "strokeForce", "[I", true)
  | 65 => ("StaveHouseModel$Piece", "made", "I", false)
  | 66 => ("StaveHouseModel$Piece", "latest", "I", false)
  | 67 => ("StaveHouseModel$Piece", "last", "I", false)
  | 68 => ("StaveHouseModel$Piece", "predicted", "I", false)
  | 69 => ("StaveHouseModel$Piece", "index", "I", false)
  | 70 => ("StaveHouseModel$Piece", "heard", "[I", true)
  | 71 => ("StaveHouseModel$Piece", "codes", "[I", true)
  | 72 => ("StaveHouseModel$Piece", "moments", "I", false)
  | 73 => ("StaveHouseModel$Piece", "momentUp", "[J", true)
  | 74 => ("StaveHouseModel$Piece", "momentDown", "[J", true)
  | 75 => ("StaveHouseModel$Piece", "lies", "[I", true)
  | 76 => ("StaveHouseModel$Piece", "faults", "I", false)
  | 77 => ("StaveHouseModel$Piece", "faultMoment", "[I", true)
  | 78 => ("StaveHouseModel$Piece", "faultKind", "[I", true)
  | 79 => ("StaveHouseModel$Piece", "faultFirst", "[I", true)
  | _ => ("StaveHouseModel$Piece", "faultSecond", "[I", true)
def tyX13 : Nat → FieldType := fun k => match k with
  | 0 => .boolean
  | 1 => .int
  | 2 => .int
  | 3 => .boolean
  | 4 => .int
  | 5 => .int
  | 6 => .int
  | 7 => .int
  | 8 => .array .int
  | 9 => .array .int
  | 10 => .array .long
  | 11 => .array .int
  | 12 => .array .int
  | 13 => .array .int
  | 14 => .array .long
  | 15 => .array .long
  | 16 => .array .long
  | 17 => .array .long
  | 18 => .array .int
  | 19 => .array .int
  | 20 => .array .int
  | 21 => .array .int
  | 22 => .array .int
  | 23 => .array .int
  | 24 => .array .int
  | 25 => .array .int
  | 26 => .array .int
  | 27 => .array .boolean
  | 28 => .array .int
  | 29 => .array .int
  | 30 => .array .int
  | 31 => .array .int
  | 32 => .array .long
  | 33 => .array .long
  | 34 => .array .int
  | 35 => .array .int
  | 36 => .array .int
  | 37 => .array .int
  | 38 => .array .int
  | 39 => .array .int
  | 40 => .array .int
  | 41 => .array .int
  | 42 => .array .int
  | 43 => .array .long
  | 44 => .array .long
  | 45 => .array .int
  | 46 => .array .int
  | 47 => .int
  | 48 => .int
  | 49 => .array .int
  | 50 => .array .int
  | 51 => .array .int
  | 52 => .array .long
  | 53 => .boolean
  | 54 => .int
  | 55 => .array .int
  | 56 => .array .int
  | 57 => .array .int
  | 58 => .array .int
  | 59 => .array .int
  | 60 => .int
  | 61 => .array .int
  | 62 => .array .int
  | 63 => .array .int
  | 64 => .array .int
  | 65 => .int
  | 66 => .int
  | 67 => .int
  | 68 => .int
  | 69 => .int
  | 70 => .array .int
  | 71 => .array .int
  | 72 => .int
  | 73 => .array .long
  | 74 => .array .long
  | 75 => .array .int
  | 76 => .int
  | 77 => .array .int
  | 78 => .array .int
  | 79 => .array .int
  | _ => .array .int
theorem nmX13 : ∀ a, a < 81 → ∀ b, b < 81 → a ≠ b → (TX13 a).2.1 ≠ (TX13 b).2.1 := by decide +kernel
theorem tyX13_ok : ∀ k, k < 81 → parseFieldDescriptor (TX13 k).2.2.1 = some (tyX13 k) := by decide +kernel
def RX14 : String := "StaveHouseModel"
def TX14 : u_T := fun k => match k with
  | 0 => ("StaveHouseModel", "ru", "J", false)
  | 1 => ("StaveHouseModel", "rd", "J", false)
  | 2 => ("StaveHouseModel", "tape", "[B", true)
  | 3 => ("StaveHouseModel", "size", "I", false)
  | 4 => ("StaveHouseModel", "waits", "[B", true)
  | 5 => ("StaveHouseModel", "pieces", "[LStaveHouseModel$Piece;", true)
  | 6 => ("StaveHouseModel", "work", "LStaveHouseModel$Piece;", false)
  | 7 => ("StaveHouseModel", "kind", "[I", true)
  | 8 => ("StaveHouseModel", "at", "[I", true)
  | 9 => ("StaveHouseModel", "value", "[I", true)
  | 10 => ("StaveHouseModel", "altered", "[I", true)
  | 11 => ("StaveHouseModel", "word", "[J", true)
  | 12 => ("StaveHouseModel", "tokens", "I", false)
  | 13 => ("StaveHouseModel", "clefs", "[J", true)
  | 14 => ("StaveHouseModel", "louds", "[J", true)
  | 15 => ("StaveHouseModel", "others", "[J", true)
  | 16 => ("StaveHouseModel", "t", "I", false)
  | 17 => ("StaveHouseModel", "fault", "I", false)
  | 18 => ("StaveHouseModel", "place", "I", false)
  | 19 => ("StaveHouseModel", "openMany", "I", false)
  | 20 => ("StaveHouseModel", "nearNumber", "I", false)
  | 21 => ("StaveHouseModel", "nearPoints", "I", false)
  | 22 => ("StaveHouseModel", "hadKey", "Z", false)
  | 23 => ("StaveHouseModel", "hadTime", "Z", false)
  | 24 => ("StaveHouseModel", "hadTempo", "Z", false)
  | 25 => ("StaveHouseModel", "letName", "[J", true)
  | 26 => ("StaveHouseModel", "letOpen", "[I", true)
  | 27 => ("StaveHouseModel", "lets", "I", false)
  | 28 => ("StaveHouseModel", "voiceToken", "[I", true)
  | 29 => ("StaveHouseModel", "voiceOpen", "[I", true)
  | 30 => ("StaveHouseModel", "closeOf", "[I", true)
  | 31 => ("StaveHouseModel", "behind", "[I", true)
  | 32 => ("StaveHouseModel", "lengthNumber", "[I", true)
  | 33 => ("StaveHouseModel", "lengthPoints", "[I", true)
  | 34 => ("StaveHouseModel", "marksOf", "[I", true)
  | 35 => ("StaveHouseModel", "v", "I", false)
  | 36 => ("StaveHouseModel", "made", "I", false)
  | 37 => ("StaveHouseModel", "items", "I", false)
  | 38 => ("StaveHouseModel", "comeUp", "J", false)
  | 39 => ("StaveHouseModel", "comeDown", "J", false)
  | 40 => ("StaveHouseModel", "loud", "I", false)
  | 41 => ("StaveHouseModel", "backs", "I", false)
  | 42 => ("StaveHouseModel", "mirrors", "[Z", true)
  | 43 => ("StaveHouseModel", "steps", "[I", true)
  | 44 => ("StaveHouseModel", "tones", "[I", true)
  | 45 => ("StaveHouseModel", "changes", "I", false)
  | 46 => ("StaveHouseModel", "firsts", "[I", true)
  | 47 => ("StaveHouseModel", "seconds", "[I", true)
  | 48 => ("StaveHouseModel", "brackets", "I", false)
  | 49 => ("StaveHouseModel", "outerToken", "I", false)
  | 50 => ("StaveHouseModel", "outerTimes", "I", false)
  | 51 => ("StaveHouseModel", "powers", "[I", true)
  | 52 => ("StaveHouseModel", "leftUp", "J", false)
  | 53 => ("StaveHouseModel", "leftDown", "J", false)
  | 54 => ("StaveHouseModel", "hereUp", "J", false)
  | 55 => ("StaveHouseModel", "hereDown", "J", false)
  | 56 => ("StaveHouseModel", "bestForm", "I", false)
  | 57 => ("StaveHouseModel", "bestPoints", "I", false)
  | 58 => ("StaveHouseModel", "knows", "[I", true)
  | 59 => ("StaveHouseModel", "least", "[J", true)
  | 60 => ("StaveHouseModel", "most", "[I", true)
  | 61 => ("StaveHouseModel", "forces", "[I", true)
  | 62 => ("StaveHouseModel", "sounds", "I", false)
  | 63 => ("StaveHouseModel", "begins", "[I", true)
  | 64 => ("StaveHouseModel", "ends", "[I", true)
  | 65 => ("StaveHouseModel", "tonesOf", "[I", true)
  | 66 => ("StaveHouseModel", "forcesOf", "[I", true)
  | 67 => ("StaveHouseModel", "voicesOf", "[I", true)
  | 68 => ("StaveHouseModel", "eventsOf", "[I", true)
  | 69 => ("StaveHouseModel", "order", "[I", true)
  | 70 => ("StaveHouseModel", "out", "[B", true)
  | 71 => ("StaveHouseModel", "outs", "I", false)
  | 72 => ("StaveHouseModel", "isOpen", "Z", false)
  | 73 => ("StaveHouseModel", "told", "[I", true)
  | 74 => ("StaveHouseModel", "toldNow", "[I", true)
  | 75 => ("StaveHouseModel", "soundTrack", "[I", true)
  | 76 => ("StaveHouseModel", "soundChannel", "[I", true)
  | 77 => ("StaveHouseModel", "soundTone", "[I", true)
  | 78 => ("StaveHouseModel", "soundForce", "[I", true)
  | 79 => ("StaveHouseModel", "soundBegin", "[J", true)
  | 80 => ("StaveHouseModel", "soundEnd", "[J", true)
  | 81 => ("StaveHouseModel", "trackNumber", "[I", true)
  | 82 => ("StaveHouseModel", "nowTrack", "[I", true)
  | 83 => ("StaveHouseModel", "nowChannel", "[I", true)
  | 84 => ("StaveHouseModel", "nowTone", "[I", true)
  | 85 => ("StaveHouseModel", "nowForce", "[I", true)
  | 86 => ("StaveHouseModel", "nowBegin", "[J", true)
  | 87 => ("StaveHouseModel", "nowEnd", "[J", true)
  | 88 => ("StaveHouseModel", "nowNumber", "[I", true)
  | 89 => ("StaveHouseModel", "p", "I", false)
  | 90 => ("StaveHouseModel", "limit", "J", false)
  | 91 => ("StaveHouseModel", "hasTime", "Z", false)
  | 92 => ("StaveHouseModel", "hasKey", "Z", false)
  | 93 => ("StaveHouseModel", "hasTempo", "Z", false)
  | 94 => ("StaveHouseModel", "nowSounds", "I", false)
  | 95 => ("StaveHouseModel", "sixTones", "[I", true)
  | 96 => ("StaveHouseModel", "table", "[I", true)
  | 97 => ("StaveHouseModel", "moves", "[I", true)
  | 98 => ("StaveHouseModel", "classLetter", "[I", true)
  | 99 => ("StaveHouseModel", "classAlt", "[I", true)
  | 100 => ("StaveHouseModel", "classes", "I", false)
  | 101 => ("StaveHouseModel", "bass", "I", false)
  | 102 => ("StaveHouseModel", "bassStep", "I", false)
  | 103 => ("StaveHouseModel", "bassAlt", "I", false)
  | 104 => ("StaveHouseModel", "chordKind", "I", false)
  | 105 => ("StaveHouseModel", "root", "I", false)
  | _ => ("StaveHouseModel", "weights", "[I", true)
def tyX14 : Nat → FieldType := fun k => match k with
  | 0 => .long
  | 1 => .long
  | 2 => .array .byte
  | 3 => .int
  | 4 => .array .byte
  | 5 => .array (.object "StaveHouseModel$Piece")
  | 6 => .object "StaveHouseModel$Piece"
  | 7 => .array .int
  | 8 => .array .int
  | 9 => .array .int
  | 10 => .array .int
  | 11 => .array .long
  | 12 => .int
  | 13 => .array .long
  | 14 => .array .long
  | 15 => .array .long
  | 16 => .int
  | 17 => .int
  | 18 => .int
  | 19 => .int
  | 20 => .int
  | 21 => .int
  | 22 => .boolean
  | 23 => .boolean
  | 24 => .boolean
  | 25 => .array .long
  | 26 => .array .int
  | 27 => .int
  | 28 => .array .int
  | 29 => .array .int
  | 30 => .array .int
  | 31 => .array .int
  | 32 => .array .int
  | 33 => .array .int
  | 34 => .array .int
  | 35 => .int
  | 36 => .int
  | 37 => .int
  | 38 => .long
  | 39 => .long
  | 40 => .int
  | 41 => .int
  | 42 => .array .boolean
  | 43 => .array .int
  | 44 => .array .int
  | 45 => .int
  | 46 => .array .int
  | 47 => .array .int
  | 48 => .int
  | 49 => .int
  | 50 => .int
  | 51 => .array .int
  | 52 => .long
  | 53 => .long
  | 54 => .long
  | 55 => .long
  | 56 => .int
  | 57 => .int
  | 58 => .array .int
  | 59 => .array .long
  | 60 => .array .int
  | 61 => .array .int
  | 62 => .int
  | 63 => .array .int
  | 64 => .array .int
  | 65 => .array .int
  | 66 => .array .int
  | 67 => .array .int
  | 68 => .array .int
  | 69 => .array .int
  | 70 => .array .byte
  | 71 => .int
  | 72 => .boolean
  | 73 => .array .int
  | 74 => .array .int
  | 75 => .array .int
  | 76 => .array .int
  | 77 => .array .int
  | 78 => .array .int
  | 79 => .array .long
  | 80 => .array .long
  | 81 => .array .int
  | 82 => .array .int
  | 83 => .array .int
  | 84 => .array .int
  | 85 => .array .int
  | 86 => .array .long
  | 87 => .array .long
  | 88 => .array .int
  | 89 => .int
  | 90 => .long
  | 91 => .boolean
  | 92 => .boolean
  | 93 => .boolean
  | 94 => .int
  | 95 => .array .int
  | 96 => .array .int
  | 97 => .array .int
  | 98 => .array .int
  | 99 => .array .int
  | 100 => .int
  | 101 => .int
  | 102 => .int
  | 103 => .int
  | 104 => .int
  | 105 => .int
  | _ => .array .int
theorem nmX14 : ∀ a, a < 107 → ∀ b, b < 107 → a ≠ b → (TX14 a).2.1 ≠ (TX14 b).2.1 := by decide +kernel
theorem tyX14_ok : ∀ k, k < 107 → parseFieldDescriptor (TX14 k).2.2.1 = some (tyX14 k) := by decide +kernel
abbrev cls : List vw_C := [(RX0, TX0, 3), (RX1, TX1, 14), (RX2, TX2, 13), (RX3, TX3, 22), (RX4, TX4, 13), (RX5, TX5, 14), (RX6, TX6, 14), (RX7, TX7, 9), (RX8, TX8, 15), (RX9, TX9, 11), (RX10, TX10, 9), (RX11, TX11, 19), (RX12, TX12, 10), (RX13, TX13, 81), (RX14, TX14, 107)]
abbrev tyL (ca : Nat → ClassId) : List (ClassId × FieldType) := [(ca 0, .int), (ca 1, .long), (ca 2, .byte), (ca 3, .boolean), (ca 4, .object "StaveHouse$Piece"), (ca 5, .object "StaveHouseModel$Piece"), (ca 6, .object "StaveHouse$Part"), (ca 7, .object "StaveHouse$Event"), (ca 8, .array .int), (ca 9, .array .long)]
end
section
section
/-! ===== instructions read byte by byte ===== -/
def u1R (code : ByteArray) (p v : Nat) : Prop := (Reader.u1 : Decoder Nat).runAt code p = .ok (v, p + 1)
def chW (code : ByteArray) (n : Nat) (C : List Nat) : Prop := ∃ R, (code.data.toList.drop n).map UInt8.toNat = C ++ R
theorem chW_of {code : ByteArray} {n : Nat} {C : List Nat} (h : ((code.data.toList.drop n).take C.length).map UInt8.toNat = C) : chW code n C :=
  ⟨((code.data.toList.drop n).drop C.length).map UInt8.toNat, by
    have e := congrArg (· ++ ((code.data.toList.drop n).drop C.length).map UInt8.toNat) h
    simp only [← List.map_append, List.take_append_drop] at e
    exact e⟩
theorem u1_of {code : ByteArray} {p : Nat} {b : UInt8} (h : code.data.toList[p]? = some b) : u1R code p b.toNat := by
  obtain ⟨hp, hb⟩ := List.getElem?_eq_some_iff.mp h
  have hs : p < code.size := by
    show p < code.data.size
    rw [Array.length_toList] at hp
    exact hp
  have hg : code[p] = b := by
    show code.data[p] = b
    rw [← Array.getElem_toList]
    exact hb
  unfold u1R Reader.runAt Reader.u1
  show (dite (p < code.size) _ _ : Decoder Nat) code p = _
  rw [dif_pos hs]
  show Except.ok (code[p].toNat, p + 1) = _
  rw [hg]
theorem uW {code : ByteArray} {n i v : Nat} {C : List Nat} (h : chW code n C) (hi : C[i]? = some v) : u1R code (n + i) v := by
  obtain ⟨R, hR⟩ := h
  have h1 : ((code.data.toList.drop n).map UInt8.toNat)[i]? = some v := by
    rw [hR, List.getElem?_append_left (List.getElem?_eq_some_iff.mp hi).1]
    exact hi
  rw [List.getElem?_map, List.getElem?_drop] at h1
  cases hb : code.data.toList[n + i]? with
  | none => rw [hb] at h1; cases h1
  | some b =>
    rw [hb] at h1
    cases h1
    exact u1_of hb
theorem runX {α β : Type} {code : ByteArray} {p p' : Nat} {v : β} {r : Decoder β} {k : β → Decoder α} (h : r.runAt code p = .ok (v, p')) : (r >>= k).runAt code p = (k v).runAt code p' := by
  have e : (r >>= k).runAt code p = Except.bind (r.runAt code p) (fun x => (k x.1).runAt code x.2) := rfl
  rw [e, h]
  rfl
theorem runB {α : Type} {code : ByteArray} {p v : Nat} {k : Nat → Decoder α} (h : u1R code p v) : ((Reader.u1 : Decoder Nat) >>= k).runAt code p = (k v).runAt code (p + 1) := runX h
theorem decB {code : ByteArray} {pc nx : Nat} {ins : Instr} (h : (Decoder.instr pc).runAt code pc = .ok (ins, nx)) : decode code pc = .ok (ins, nx - pc) := by
  unfold decode
  rw [h]
  rfl
theorem u2R {code : ByteArray} {p a b : Nat} (h : u1R code p a) (h' : u1R code (p + 1) b) : (Reader.u2 : Decoder Nat).runAt code p = .ok (a * 256 + b, p + 1 + 1) := by
  unfold Reader.u2
  rw [runB h, runB h']
  rfl
theorem s1R {code : ByteArray} {p a : Nat} (h : u1R code p a) : (Reader.s1 : Decoder Int).runAt code p = .ok (Reader.signed 8 a, p + 1) := by
  have e : (Reader.s1 : Decoder Int).runAt code p = Except.bind ((Reader.u1 : Decoder Nat).runAt code p) (fun x => Except.ok (Reader.signed 8 x.1, x.2)) := rfl
  unfold u1R at h
  rw [e, h]
  rfl
theorem s2R {code : ByteArray} {p a b : Nat} (h : u1R code p a) (h' : u1R code (p + 1) b) : (Reader.s2 : Decoder Int).runAt code p = .ok (Reader.signed 16 (a * 256 + b), p + 1 + 1) := by
  have e : (Reader.s2 : Decoder Int).runAt code p = Except.bind ((Reader.u2 : Decoder Nat).runAt code p) (fun x => Except.ok (Reader.signed 16 x.1, x.2)) := rfl
  rw [e, u2R h h']
  rfl
theorem runB2 {α : Type} {code : ByteArray} {p a b : Nat} {k : Nat → Decoder α} (h : u1R code p a) (h' : u1R code (p + 1) b) : ((Reader.u2 : Decoder Nat) >>= k).runAt code p = (k (a * 256 + b)).runAt code (p + 1 + 1) := runX (u2R h h')
theorem runS1 {α : Type} {code : ByteArray} {p a : Nat} {k : Int → Decoder α} (h : u1R code p a) : ((Reader.s1 : Decoder Int) >>= k).runAt code p = (k (Reader.signed 8 a)).runAt code (p + 1) := runX (s1R h)
theorem runS2 {α : Type} {code : ByteArray} {p a b : Nat} {k : Int → Decoder α} (h : u1R code p a) (h' : u1R code (p + 1) b) : ((Reader.s2 : Decoder Int) >>= k).runAt code p = (k (Reader.signed 16 (a * 256 + b))).runAt code (p + 1 + 1) := runX (s2R h h')
theorem chW_1 {code : ByteArray} {n i o : Nat} {C r : List Nat} (h : chW code n C) (hi : C.drop i = o :: r) : u1R code (n + i) o := uW h (by
  have e : (C.drop i)[0]? = some o := by rw [hi]; rfl
  rw [List.getElem?_drop] at e
  exact e)
theorem chW_2 {code : ByteArray} {n i o a : Nat} {C r : List Nat} (h : chW code n C) (hi : C.drop i = o :: a :: r) : u1R code (n + i + 1) a := uW (n := n) (i := i + 1) h (by
  have e : (C.drop i)[1]? = some a := by rw [hi]; rfl
  rw [List.getElem?_drop] at e
  exact e)
theorem chW_3 {code : ByteArray} {n i o a b : Nat} {C r : List Nat} (h : chW code n C) (hi : C.drop i = o :: a :: b :: r) : u1R code (n + i + 1 + 1) b := uW (n := n) (i := i + 1 + 1) h (by
  have e : (C.drop i)[2]? = some b := by rw [hi]; rfl
  rw [List.getElem?_drop] at e
  exact e)
theorem D_1 {code : ByteArray} {n pc : Nat} {C r : List Nat} (h : chW code n C) (i : Nat) (hi : C.drop i = 1 :: r) (hp : n + i = pc) : decode code pc = .ok (.aconst_null, 1) := by
  subst hp
  have e := decB (nx := n + i + 1) (ins := .aconst_null) ((runB (chW_1 h hi)).trans rfl)
  rw [e, show n + i + 1 - (n + i) = 1 by omega]
theorem D_2 {code : ByteArray} {n pc : Nat} {C r : List Nat} (h : chW code n C) (i : Nat) (hi : C.drop i = 2 :: r) (hp : n + i = pc) : decode code pc = .ok (.iconst (-1), 1) := by
  subst hp
  have e := decB (nx := n + i + 1) (ins := .iconst (-1)) ((runB (chW_1 h hi)).trans rfl)
  rw [e, show n + i + 1 - (n + i) = 1 by omega]
theorem D_3 {code : ByteArray} {n pc : Nat} {C r : List Nat} (h : chW code n C) (i : Nat) (hi : C.drop i = 3 :: r) (hp : n + i = pc) : decode code pc = .ok (.iconst 0, 1) := by
  subst hp
  have e := decB (nx := n + i + 1) (ins := .iconst 0) ((runB (chW_1 h hi)).trans rfl)
  rw [e, show n + i + 1 - (n + i) = 1 by omega]
theorem D_4 {code : ByteArray} {n pc : Nat} {C r : List Nat} (h : chW code n C) (i : Nat) (hi : C.drop i = 4 :: r) (hp : n + i = pc) : decode code pc = .ok (.iconst 1, 1) := by
  subst hp
  have e := decB (nx := n + i + 1) (ins := .iconst 1) ((runB (chW_1 h hi)).trans rfl)
  rw [e, show n + i + 1 - (n + i) = 1 by omega]
theorem D_5 {code : ByteArray} {n pc : Nat} {C r : List Nat} (h : chW code n C) (i : Nat) (hi : C.drop i = 5 :: r) (hp : n + i = pc) : decode code pc = .ok (.iconst 2, 1) := by
  subst hp
  have e := decB (nx := n + i + 1) (ins := .iconst 2) ((runB (chW_1 h hi)).trans rfl)
  rw [e, show n + i + 1 - (n + i) = 1 by omega]
theorem D_6 {code : ByteArray} {n pc : Nat} {C r : List Nat} (h : chW code n C) (i : Nat) (hi : C.drop i = 6 :: r) (hp : n + i = pc) : decode code pc = .ok (.iconst 3, 1) := by
  subst hp
  have e := decB (nx := n + i + 1) (ins := .iconst 3) ((runB (chW_1 h hi)).trans rfl)
  rw [e, show n + i + 1 - (n + i) = 1 by omega]
theorem D_7 {code : ByteArray} {n pc : Nat} {C r : List Nat} (h : chW code n C) (i : Nat) (hi : C.drop i = 7 :: r) (hp : n + i = pc) : decode code pc = .ok (.iconst 4, 1) := by
  subst hp
  have e := decB (nx := n + i + 1) (ins := .iconst 4) ((runB (chW_1 h hi)).trans rfl)
  rw [e, show n + i + 1 - (n + i) = 1 by omega]
theorem D_8 {code : ByteArray} {n pc : Nat} {C r : List Nat} (h : chW code n C) (i : Nat) (hi : C.drop i = 8 :: r) (hp : n + i = pc) : decode code pc = .ok (.iconst 5, 1) := by
  subst hp
  have e := decB (nx := n + i + 1) (ins := .iconst 5) ((runB (chW_1 h hi)).trans rfl)
  rw [e, show n + i + 1 - (n + i) = 1 by omega]
theorem D_9 {code : ByteArray} {n pc : Nat} {C r : List Nat} (h : chW code n C) (i : Nat) (hi : C.drop i = 9 :: r) (hp : n + i = pc) : decode code pc = .ok (.lconst 0, 1) := by
  subst hp
  have e := decB (nx := n + i + 1) (ins := .lconst 0) ((runB (chW_1 h hi)).trans rfl)
  rw [e, show n + i + 1 - (n + i) = 1 by omega]
theorem D_10 {code : ByteArray} {n pc : Nat} {C r : List Nat} (h : chW code n C) (i : Nat) (hi : C.drop i = 10 :: r) (hp : n + i = pc) : decode code pc = .ok (.lconst 1, 1) := by
  subst hp
  have e := decB (nx := n + i + 1) (ins := .lconst 1) ((runB (chW_1 h hi)).trans rfl)
  rw [e, show n + i + 1 - (n + i) = 1 by omega]
theorem D_16 {code : ByteArray} {n pc : Nat} {C r : List Nat} {a : Nat} {x : Int} (h : chW code n C) (i : Nat) (hi : C.drop i = 16 :: a :: r) (hp : n + i = pc) (hx : Reader.signed 8 a = x) : decode code pc = .ok (.bipush x, 2) := by
  subst hp
  have e := decB (nx := n + i + 1 + 1) (ins := .bipush (Reader.signed 8 a)) ((runB (chW_1 h hi)).trans ((runS1 (chW_2 h hi)).trans rfl))
  rw [e, show n + i + 1 + 1 - (n + i) = 2 by omega, hx]
theorem D_17 {code : ByteArray} {n pc : Nat} {C r : List Nat} {a b : Nat} {x : Int} (h : chW code n C) (i : Nat) (hi : C.drop i = 17 :: a :: b :: r) (hp : n + i = pc) (hx : Reader.signed 16 (a * 256 + b) = x) : decode code pc = .ok (.sipush x, 3) := by
  subst hp
  have e := decB (nx := n + i + 1 + 1 + 1) (ins := .sipush (Reader.signed 16 (a * 256 + b))) ((runB (chW_1 h hi)).trans ((runS2 (chW_2 h hi) (chW_3 h hi)).trans rfl))
  rw [e, show n + i + 1 + 1 + 1 - (n + i) = 3 by omega, hx]
theorem D_18 {code : ByteArray} {n pc : Nat} {C r : List Nat} {x : Nat} (h : chW code n C) (i : Nat) (hi : C.drop i = 18 :: x :: r) (hp : n + i = pc) : decode code pc = .ok (.ldc x, 2) := by
  subst hp
  have e := decB (nx := n + i + 1 + 1) (ins := .ldc x) ((runB (chW_1 h hi)).trans ((runB (chW_2 h hi)).trans rfl))
  rw [e, show n + i + 1 + 1 - (n + i) = 2 by omega]
theorem D_19 {code : ByteArray} {n pc : Nat} {C r : List Nat} {a b x : Nat} (h : chW code n C) (i : Nat) (hi : C.drop i = 19 :: a :: b :: r) (hp : n + i = pc) (hx : a * 256 + b = x) : decode code pc = .ok (.ldc_w x, 3) := by
  subst hp
  have e := decB (nx := n + i + 1 + 1 + 1) (ins := .ldc_w (a * 256 + b)) ((runB (chW_1 h hi)).trans ((runB2 (chW_2 h hi) (chW_3 h hi)).trans rfl))
  rw [e, show n + i + 1 + 1 + 1 - (n + i) = 3 by omega, hx]
theorem D_20 {code : ByteArray} {n pc : Nat} {C r : List Nat} {a b x : Nat} (h : chW code n C) (i : Nat) (hi : C.drop i = 20 :: a :: b :: r) (hp : n + i = pc) (hx : a * 256 + b = x) : decode code pc = .ok (.ldc2_w x, 3) := by
  subst hp
  have e := decB (nx := n + i + 1 + 1 + 1) (ins := .ldc2_w (a * 256 + b)) ((runB (chW_1 h hi)).trans ((runB2 (chW_2 h hi) (chW_3 h hi)).trans rfl))
  rw [e, show n + i + 1 + 1 + 1 - (n + i) = 3 by omega, hx]
theorem D_21 {code : ByteArray} {n pc : Nat} {C r : List Nat} {x : Nat} (h : chW code n C) (i : Nat) (hi : C.drop i = 21 :: x :: r) (hp : n + i = pc) : decode code pc = .ok (.iload x, 2) := by
  subst hp
  have e := decB (nx := n + i + 1 + 1) (ins := .iload x) ((runB (chW_1 h hi)).trans ((runB (chW_2 h hi)).trans rfl))
  rw [e, show n + i + 1 + 1 - (n + i) = 2 by omega]
theorem D_22 {code : ByteArray} {n pc : Nat} {C r : List Nat} {x : Nat} (h : chW code n C) (i : Nat) (hi : C.drop i = 22 :: x :: r) (hp : n + i = pc) : decode code pc = .ok (.lload x, 2) := by
  subst hp
  have e := decB (nx := n + i + 1 + 1) (ins := .lload x) ((runB (chW_1 h hi)).trans ((runB (chW_2 h hi)).trans rfl))
  rw [e, show n + i + 1 + 1 - (n + i) = 2 by omega]
theorem D_25 {code : ByteArray} {n pc : Nat} {C r : List Nat} {x : Nat} (h : chW code n C) (i : Nat) (hi : C.drop i = 25 :: x :: r) (hp : n + i = pc) : decode code pc = .ok (.aload x, 2) := by
  subst hp
  have e := decB (nx := n + i + 1 + 1) (ins := .aload x) ((runB (chW_1 h hi)).trans ((runB (chW_2 h hi)).trans rfl))
  rw [e, show n + i + 1 + 1 - (n + i) = 2 by omega]
theorem D_26 {code : ByteArray} {n pc : Nat} {C r : List Nat} (h : chW code n C) (i : Nat) (hi : C.drop i = 26 :: r) (hp : n + i = pc) : decode code pc = .ok (.iload_n 0, 1) := by
  subst hp
  have e := decB (nx := n + i + 1) (ins := .iload_n 0) ((runB (chW_1 h hi)).trans rfl)
  rw [e, show n + i + 1 - (n + i) = 1 by omega]
theorem D_27 {code : ByteArray} {n pc : Nat} {C r : List Nat} (h : chW code n C) (i : Nat) (hi : C.drop i = 27 :: r) (hp : n + i = pc) : decode code pc = .ok (.iload_n 1, 1) := by
  subst hp
  have e := decB (nx := n + i + 1) (ins := .iload_n 1) ((runB (chW_1 h hi)).trans rfl)
  rw [e, show n + i + 1 - (n + i) = 1 by omega]
theorem D_28 {code : ByteArray} {n pc : Nat} {C r : List Nat} (h : chW code n C) (i : Nat) (hi : C.drop i = 28 :: r) (hp : n + i = pc) : decode code pc = .ok (.iload_n 2, 1) := by
  subst hp
  have e := decB (nx := n + i + 1) (ins := .iload_n 2) ((runB (chW_1 h hi)).trans rfl)
  rw [e, show n + i + 1 - (n + i) = 1 by omega]
theorem D_29 {code : ByteArray} {n pc : Nat} {C r : List Nat} (h : chW code n C) (i : Nat) (hi : C.drop i = 29 :: r) (hp : n + i = pc) : decode code pc = .ok (.iload_n 3, 1) := by
  subst hp
  have e := decB (nx := n + i + 1) (ins := .iload_n 3) ((runB (chW_1 h hi)).trans rfl)
  rw [e, show n + i + 1 - (n + i) = 1 by omega]
theorem D_30 {code : ByteArray} {n pc : Nat} {C r : List Nat} (h : chW code n C) (i : Nat) (hi : C.drop i = 30 :: r) (hp : n + i = pc) : decode code pc = .ok (.lload_n 0, 1) := by
  subst hp
  have e := decB (nx := n + i + 1) (ins := .lload_n 0) ((runB (chW_1 h hi)).trans rfl)
  rw [e, show n + i + 1 - (n + i) = 1 by omega]
theorem D_31 {code : ByteArray} {n pc : Nat} {C r : List Nat} (h : chW code n C) (i : Nat) (hi : C.drop i = 31 :: r) (hp : n + i = pc) : decode code pc = .ok (.lload_n 1, 1) := by
  subst hp
  have e := decB (nx := n + i + 1) (ins := .lload_n 1) ((runB (chW_1 h hi)).trans rfl)
  rw [e, show n + i + 1 - (n + i) = 1 by omega]
theorem D_32 {code : ByteArray} {n pc : Nat} {C r : List Nat} (h : chW code n C) (i : Nat) (hi : C.drop i = 32 :: r) (hp : n + i = pc) : decode code pc = .ok (.lload_n 2, 1) := by
  subst hp
  have e := decB (nx := n + i + 1) (ins := .lload_n 2) ((runB (chW_1 h hi)).trans rfl)
  rw [e, show n + i + 1 - (n + i) = 1 by omega]
theorem D_33 {code : ByteArray} {n pc : Nat} {C r : List Nat} (h : chW code n C) (i : Nat) (hi : C.drop i = 33 :: r) (hp : n + i = pc) : decode code pc = .ok (.lload_n 3, 1) := by
  subst hp
  have e := decB (nx := n + i + 1) (ins := .lload_n 3) ((runB (chW_1 h hi)).trans rfl)
  rw [e, show n + i + 1 - (n + i) = 1 by omega]
theorem D_42 {code : ByteArray} {n pc : Nat} {C r : List Nat} (h : chW code n C) (i : Nat) (hi : C.drop i = 42 :: r) (hp : n + i = pc) : decode code pc = .ok (.aload_n 0, 1) := by
  subst hp
  have e := decB (nx := n + i + 1) (ins := .aload_n 0) ((runB (chW_1 h hi)).trans rfl)
  rw [e, show n + i + 1 - (n + i) = 1 by omega]
theorem D_43 {code : ByteArray} {n pc : Nat} {C r : List Nat} (h : chW code n C) (i : Nat) (hi : C.drop i = 43 :: r) (hp : n + i = pc) : decode code pc = .ok (.aload_n 1, 1) := by
  subst hp
  have e := decB (nx := n + i + 1) (ins := .aload_n 1) ((runB (chW_1 h hi)).trans rfl)
  rw [e, show n + i + 1 - (n + i) = 1 by omega]
theorem D_44 {code : ByteArray} {n pc : Nat} {C r : List Nat} (h : chW code n C) (i : Nat) (hi : C.drop i = 44 :: r) (hp : n + i = pc) : decode code pc = .ok (.aload_n 2, 1) := by
  subst hp
  have e := decB (nx := n + i + 1) (ins := .aload_n 2) ((runB (chW_1 h hi)).trans rfl)
  rw [e, show n + i + 1 - (n + i) = 1 by omega]
theorem D_45 {code : ByteArray} {n pc : Nat} {C r : List Nat} (h : chW code n C) (i : Nat) (hi : C.drop i = 45 :: r) (hp : n + i = pc) : decode code pc = .ok (.aload_n 3, 1) := by
  subst hp
  have e := decB (nx := n + i + 1) (ins := .aload_n 3) ((runB (chW_1 h hi)).trans rfl)
  rw [e, show n + i + 1 - (n + i) = 1 by omega]
theorem D_46 {code : ByteArray} {n pc : Nat} {C r : List Nat} (h : chW code n C) (i : Nat) (hi : C.drop i = 46 :: r) (hp : n + i = pc) : decode code pc = .ok (.iaload, 1) := by
  subst hp
  have e := decB (nx := n + i + 1) (ins := .iaload) ((runB (chW_1 h hi)).trans rfl)
  rw [e, show n + i + 1 - (n + i) = 1 by omega]
theorem D_47 {code : ByteArray} {n pc : Nat} {C r : List Nat} (h : chW code n C) (i : Nat) (hi : C.drop i = 47 :: r) (hp : n + i = pc) : decode code pc = .ok (.laload, 1) := by
  subst hp
  have e := decB (nx := n + i + 1) (ins := .laload) ((runB (chW_1 h hi)).trans rfl)
  rw [e, show n + i + 1 - (n + i) = 1 by omega]
theorem D_50 {code : ByteArray} {n pc : Nat} {C r : List Nat} (h : chW code n C) (i : Nat) (hi : C.drop i = 50 :: r) (hp : n + i = pc) : decode code pc = .ok (.aaload, 1) := by
  subst hp
  have e := decB (nx := n + i + 1) (ins := .aaload) ((runB (chW_1 h hi)).trans rfl)
  rw [e, show n + i + 1 - (n + i) = 1 by omega]
theorem D_51 {code : ByteArray} {n pc : Nat} {C r : List Nat} (h : chW code n C) (i : Nat) (hi : C.drop i = 51 :: r) (hp : n + i = pc) : decode code pc = .ok (.baload, 1) := by
  subst hp
  have e := decB (nx := n + i + 1) (ins := .baload) ((runB (chW_1 h hi)).trans rfl)
  rw [e, show n + i + 1 - (n + i) = 1 by omega]
theorem D_54 {code : ByteArray} {n pc : Nat} {C r : List Nat} {x : Nat} (h : chW code n C) (i : Nat) (hi : C.drop i = 54 :: x :: r) (hp : n + i = pc) : decode code pc = .ok (.istore x, 2) := by
  subst hp
  have e := decB (nx := n + i + 1 + 1) (ins := .istore x) ((runB (chW_1 h hi)).trans ((runB (chW_2 h hi)).trans rfl))
  rw [e, show n + i + 1 + 1 - (n + i) = 2 by omega]
theorem D_55 {code : ByteArray} {n pc : Nat} {C r : List Nat} {x : Nat} (h : chW code n C) (i : Nat) (hi : C.drop i = 55 :: x :: r) (hp : n + i = pc) : decode code pc = .ok (.lstore x, 2) := by
  subst hp
  have e := decB (nx := n + i + 1 + 1) (ins := .lstore x) ((runB (chW_1 h hi)).trans ((runB (chW_2 h hi)).trans rfl))
  rw [e, show n + i + 1 + 1 - (n + i) = 2 by omega]
theorem D_58 {code : ByteArray} {n pc : Nat} {C r : List Nat} {x : Nat} (h : chW code n C) (i : Nat) (hi : C.drop i = 58 :: x :: r) (hp : n + i = pc) : decode code pc = .ok (.astore x, 2) := by
  subst hp
  have e := decB (nx := n + i + 1 + 1) (ins := .astore x) ((runB (chW_1 h hi)).trans ((runB (chW_2 h hi)).trans rfl))
  rw [e, show n + i + 1 + 1 - (n + i) = 2 by omega]
theorem D_59 {code : ByteArray} {n pc : Nat} {C r : List Nat} (h : chW code n C) (i : Nat) (hi : C.drop i = 59 :: r) (hp : n + i = pc) : decode code pc = .ok (.istore_n 0, 1) := by
  subst hp
  have e := decB (nx := n + i + 1) (ins := .istore_n 0) ((runB (chW_1 h hi)).trans rfl)
  rw [e, show n + i + 1 - (n + i) = 1 by omega]
theorem D_60 {code : ByteArray} {n pc : Nat} {C r : List Nat} (h : chW code n C) (i : Nat) (hi : C.drop i = 60 :: r) (hp : n + i = pc) : decode code pc = .ok (.istore_n 1, 1) := by
  subst hp
  have e := decB (nx := n + i + 1) (ins := .istore_n 1) ((runB (chW_1 h hi)).trans rfl)
  rw [e, show n + i + 1 - (n + i) = 1 by omega]
theorem D_61 {code : ByteArray} {n pc : Nat} {C r : List Nat} (h : chW code n C) (i : Nat) (hi : C.drop i = 61 :: r) (hp : n + i = pc) : decode code pc = .ok (.istore_n 2, 1) := by
  subst hp
  have e := decB (nx := n + i + 1) (ins := .istore_n 2) ((runB (chW_1 h hi)).trans rfl)
  rw [e, show n + i + 1 - (n + i) = 1 by omega]
theorem D_62 {code : ByteArray} {n pc : Nat} {C r : List Nat} (h : chW code n C) (i : Nat) (hi : C.drop i = 62 :: r) (hp : n + i = pc) : decode code pc = .ok (.istore_n 3, 1) := by
  subst hp
  have e := decB (nx := n + i + 1) (ins := .istore_n 3) ((runB (chW_1 h hi)).trans rfl)
  rw [e, show n + i + 1 - (n + i) = 1 by omega]
theorem D_63 {code : ByteArray} {n pc : Nat} {C r : List Nat} (h : chW code n C) (i : Nat) (hi : C.drop i = 63 :: r) (hp : n + i = pc) : decode code pc = .ok (.lstore_n 0, 1) := by
  subst hp
  have e := decB (nx := n + i + 1) (ins := .lstore_n 0) ((runB (chW_1 h hi)).trans rfl)
  rw [e, show n + i + 1 - (n + i) = 1 by omega]
theorem D_64 {code : ByteArray} {n pc : Nat} {C r : List Nat} (h : chW code n C) (i : Nat) (hi : C.drop i = 64 :: r) (hp : n + i = pc) : decode code pc = .ok (.lstore_n 1, 1) := by
  subst hp
  have e := decB (nx := n + i + 1) (ins := .lstore_n 1) ((runB (chW_1 h hi)).trans rfl)
  rw [e, show n + i + 1 - (n + i) = 1 by omega]
theorem D_65 {code : ByteArray} {n pc : Nat} {C r : List Nat} (h : chW code n C) (i : Nat) (hi : C.drop i = 65 :: r) (hp : n + i = pc) : decode code pc = .ok (.lstore_n 2, 1) := by
  subst hp
  have e := decB (nx := n + i + 1) (ins := .lstore_n 2) ((runB (chW_1 h hi)).trans rfl)
  rw [e, show n + i + 1 - (n + i) = 1 by omega]
theorem D_66 {code : ByteArray} {n pc : Nat} {C r : List Nat} (h : chW code n C) (i : Nat) (hi : C.drop i = 66 :: r) (hp : n + i = pc) : decode code pc = .ok (.lstore_n 3, 1) := by
  subst hp
  have e := decB (nx := n + i + 1) (ins := .lstore_n 3) ((runB (chW_1 h hi)).trans rfl)
  rw [e, show n + i + 1 - (n + i) = 1 by omega]
theorem D_76 {code : ByteArray} {n pc : Nat} {C r : List Nat} (h : chW code n C) (i : Nat) (hi : C.drop i = 76 :: r) (hp : n + i = pc) : decode code pc = .ok (.astore_n 1, 1) := by
  subst hp
  have e := decB (nx := n + i + 1) (ins := .astore_n 1) ((runB (chW_1 h hi)).trans rfl)
  rw [e, show n + i + 1 - (n + i) = 1 by omega]
theorem D_77 {code : ByteArray} {n pc : Nat} {C r : List Nat} (h : chW code n C) (i : Nat) (hi : C.drop i = 77 :: r) (hp : n + i = pc) : decode code pc = .ok (.astore_n 2, 1) := by
  subst hp
  have e := decB (nx := n + i + 1) (ins := .astore_n 2) ((runB (chW_1 h hi)).trans rfl)
  rw [e, show n + i + 1 - (n + i) = 1 by omega]
theorem D_78 {code : ByteArray} {n pc : Nat} {C r : List Nat} (h : chW code n C) (i : Nat) (hi : C.drop i = 78 :: r) (hp : n + i = pc) : decode code pc = .ok (.astore_n 3, 1) := by
  subst hp
  have e := decB (nx := n + i + 1) (ins := .astore_n 3) ((runB (chW_1 h hi)).trans rfl)
  rw [e, show n + i + 1 - (n + i) = 1 by omega]
theorem D_79 {code : ByteArray} {n pc : Nat} {C r : List Nat} (h : chW code n C) (i : Nat) (hi : C.drop i = 79 :: r) (hp : n + i = pc) : decode code pc = .ok (.iastore, 1) := by
  subst hp
  have e := decB (nx := n + i + 1) (ins := .iastore) ((runB (chW_1 h hi)).trans rfl)
  rw [e, show n + i + 1 - (n + i) = 1 by omega]
theorem D_80 {code : ByteArray} {n pc : Nat} {C r : List Nat} (h : chW code n C) (i : Nat) (hi : C.drop i = 80 :: r) (hp : n + i = pc) : decode code pc = .ok (.lastore, 1) := by
  subst hp
  have e := decB (nx := n + i + 1) (ins := .lastore) ((runB (chW_1 h hi)).trans rfl)
  rw [e, show n + i + 1 - (n + i) = 1 by omega]
theorem D_83 {code : ByteArray} {n pc : Nat} {C r : List Nat} (h : chW code n C) (i : Nat) (hi : C.drop i = 83 :: r) (hp : n + i = pc) : decode code pc = .ok (.aastore, 1) := by
  subst hp
  have e := decB (nx := n + i + 1) (ins := .aastore) ((runB (chW_1 h hi)).trans rfl)
  rw [e, show n + i + 1 - (n + i) = 1 by omega]
theorem D_84 {code : ByteArray} {n pc : Nat} {C r : List Nat} (h : chW code n C) (i : Nat) (hi : C.drop i = 84 :: r) (hp : n + i = pc) : decode code pc = .ok (.bastore, 1) := by
  subst hp
  have e := decB (nx := n + i + 1) (ins := .bastore) ((runB (chW_1 h hi)).trans rfl)
  rw [e, show n + i + 1 - (n + i) = 1 by omega]
theorem D_87 {code : ByteArray} {n pc : Nat} {C r : List Nat} (h : chW code n C) (i : Nat) (hi : C.drop i = 87 :: r) (hp : n + i = pc) : decode code pc = .ok (.pop, 1) := by
  subst hp
  have e := decB (nx := n + i + 1) (ins := .pop) ((runB (chW_1 h hi)).trans rfl)
  rw [e, show n + i + 1 - (n + i) = 1 by omega]
theorem D_88 {code : ByteArray} {n pc : Nat} {C r : List Nat} (h : chW code n C) (i : Nat) (hi : C.drop i = 88 :: r) (hp : n + i = pc) : decode code pc = .ok (.pop2, 1) := by
  subst hp
  have e := decB (nx := n + i + 1) (ins := .pop2) ((runB (chW_1 h hi)).trans rfl)
  rw [e, show n + i + 1 - (n + i) = 1 by omega]
theorem D_89 {code : ByteArray} {n pc : Nat} {C r : List Nat} (h : chW code n C) (i : Nat) (hi : C.drop i = 89 :: r) (hp : n + i = pc) : decode code pc = .ok (.dup, 1) := by
  subst hp
  have e := decB (nx := n + i + 1) (ins := .dup) ((runB (chW_1 h hi)).trans rfl)
  rw [e, show n + i + 1 - (n + i) = 1 by omega]
theorem D_92 {code : ByteArray} {n pc : Nat} {C r : List Nat} (h : chW code n C) (i : Nat) (hi : C.drop i = 92 :: r) (hp : n + i = pc) : decode code pc = .ok (.dup2, 1) := by
  subst hp
  have e := decB (nx := n + i + 1) (ins := .dup2) ((runB (chW_1 h hi)).trans rfl)
  rw [e, show n + i + 1 - (n + i) = 1 by omega]
theorem D_96 {code : ByteArray} {n pc : Nat} {C r : List Nat} (h : chW code n C) (i : Nat) (hi : C.drop i = 96 :: r) (hp : n + i = pc) : decode code pc = .ok (.iadd, 1) := by
  subst hp
  have e := decB (nx := n + i + 1) (ins := .iadd) ((runB (chW_1 h hi)).trans rfl)
  rw [e, show n + i + 1 - (n + i) = 1 by omega]
theorem D_97 {code : ByteArray} {n pc : Nat} {C r : List Nat} (h : chW code n C) (i : Nat) (hi : C.drop i = 97 :: r) (hp : n + i = pc) : decode code pc = .ok (.ladd, 1) := by
  subst hp
  have e := decB (nx := n + i + 1) (ins := .ladd) ((runB (chW_1 h hi)).trans rfl)
  rw [e, show n + i + 1 - (n + i) = 1 by omega]
theorem D_100 {code : ByteArray} {n pc : Nat} {C r : List Nat} (h : chW code n C) (i : Nat) (hi : C.drop i = 100 :: r) (hp : n + i = pc) : decode code pc = .ok (.isub, 1) := by
  subst hp
  have e := decB (nx := n + i + 1) (ins := .isub) ((runB (chW_1 h hi)).trans rfl)
  rw [e, show n + i + 1 - (n + i) = 1 by omega]
theorem D_101 {code : ByteArray} {n pc : Nat} {C r : List Nat} (h : chW code n C) (i : Nat) (hi : C.drop i = 101 :: r) (hp : n + i = pc) : decode code pc = .ok (.lsub, 1) := by
  subst hp
  have e := decB (nx := n + i + 1) (ins := .lsub) ((runB (chW_1 h hi)).trans rfl)
  rw [e, show n + i + 1 - (n + i) = 1 by omega]
theorem D_104 {code : ByteArray} {n pc : Nat} {C r : List Nat} (h : chW code n C) (i : Nat) (hi : C.drop i = 104 :: r) (hp : n + i = pc) : decode code pc = .ok (.imul, 1) := by
  subst hp
  have e := decB (nx := n + i + 1) (ins := .imul) ((runB (chW_1 h hi)).trans rfl)
  rw [e, show n + i + 1 - (n + i) = 1 by omega]
theorem D_105 {code : ByteArray} {n pc : Nat} {C r : List Nat} (h : chW code n C) (i : Nat) (hi : C.drop i = 105 :: r) (hp : n + i = pc) : decode code pc = .ok (.lmul, 1) := by
  subst hp
  have e := decB (nx := n + i + 1) (ins := .lmul) ((runB (chW_1 h hi)).trans rfl)
  rw [e, show n + i + 1 - (n + i) = 1 by omega]
theorem D_108 {code : ByteArray} {n pc : Nat} {C r : List Nat} (h : chW code n C) (i : Nat) (hi : C.drop i = 108 :: r) (hp : n + i = pc) : decode code pc = .ok (.idiv, 1) := by
  subst hp
  have e := decB (nx := n + i + 1) (ins := .idiv) ((runB (chW_1 h hi)).trans rfl)
  rw [e, show n + i + 1 - (n + i) = 1 by omega]
theorem D_109 {code : ByteArray} {n pc : Nat} {C r : List Nat} (h : chW code n C) (i : Nat) (hi : C.drop i = 109 :: r) (hp : n + i = pc) : decode code pc = .ok (.ldiv, 1) := by
  subst hp
  have e := decB (nx := n + i + 1) (ins := .ldiv) ((runB (chW_1 h hi)).trans rfl)
  rw [e, show n + i + 1 - (n + i) = 1 by omega]
theorem D_112 {code : ByteArray} {n pc : Nat} {C r : List Nat} (h : chW code n C) (i : Nat) (hi : C.drop i = 112 :: r) (hp : n + i = pc) : decode code pc = .ok (.irem, 1) := by
  subst hp
  have e := decB (nx := n + i + 1) (ins := .irem) ((runB (chW_1 h hi)).trans rfl)
  rw [e, show n + i + 1 - (n + i) = 1 by omega]
theorem D_113 {code : ByteArray} {n pc : Nat} {C r : List Nat} (h : chW code n C) (i : Nat) (hi : C.drop i = 113 :: r) (hp : n + i = pc) : decode code pc = .ok (.lrem, 1) := by
  subst hp
  have e := decB (nx := n + i + 1) (ins := .lrem) ((runB (chW_1 h hi)).trans rfl)
  rw [e, show n + i + 1 - (n + i) = 1 by omega]
theorem D_116 {code : ByteArray} {n pc : Nat} {C r : List Nat} (h : chW code n C) (i : Nat) (hi : C.drop i = 116 :: r) (hp : n + i = pc) : decode code pc = .ok (.ineg, 1) := by
  subst hp
  have e := decB (nx := n + i + 1) (ins := .ineg) ((runB (chW_1 h hi)).trans rfl)
  rw [e, show n + i + 1 - (n + i) = 1 by omega]
theorem D_120 {code : ByteArray} {n pc : Nat} {C r : List Nat} (h : chW code n C) (i : Nat) (hi : C.drop i = 120 :: r) (hp : n + i = pc) : decode code pc = .ok (.ishl, 1) := by
  subst hp
  have e := decB (nx := n + i + 1) (ins := .ishl) ((runB (chW_1 h hi)).trans rfl)
  rw [e, show n + i + 1 - (n + i) = 1 by omega]
theorem D_121 {code : ByteArray} {n pc : Nat} {C r : List Nat} (h : chW code n C) (i : Nat) (hi : C.drop i = 121 :: r) (hp : n + i = pc) : decode code pc = .ok (.lshl, 1) := by
  subst hp
  have e := decB (nx := n + i + 1) (ins := .lshl) ((runB (chW_1 h hi)).trans rfl)
  rw [e, show n + i + 1 - (n + i) = 1 by omega]
theorem D_122 {code : ByteArray} {n pc : Nat} {C r : List Nat} (h : chW code n C) (i : Nat) (hi : C.drop i = 122 :: r) (hp : n + i = pc) : decode code pc = .ok (.ishr, 1) := by
  subst hp
  have e := decB (nx := n + i + 1) (ins := .ishr) ((runB (chW_1 h hi)).trans rfl)
  rw [e, show n + i + 1 - (n + i) = 1 by omega]
theorem D_123 {code : ByteArray} {n pc : Nat} {C r : List Nat} (h : chW code n C) (i : Nat) (hi : C.drop i = 123 :: r) (hp : n + i = pc) : decode code pc = .ok (.lshr, 1) := by
  subst hp
  have e := decB (nx := n + i + 1) (ins := .lshr) ((runB (chW_1 h hi)).trans rfl)
  rw [e, show n + i + 1 - (n + i) = 1 by omega]
theorem D_124 {code : ByteArray} {n pc : Nat} {C r : List Nat} (h : chW code n C) (i : Nat) (hi : C.drop i = 124 :: r) (hp : n + i = pc) : decode code pc = .ok (.iushr, 1) := by
  subst hp
  have e := decB (nx := n + i + 1) (ins := .iushr) ((runB (chW_1 h hi)).trans rfl)
  rw [e, show n + i + 1 - (n + i) = 1 by omega]
theorem D_125 {code : ByteArray} {n pc : Nat} {C r : List Nat} (h : chW code n C) (i : Nat) (hi : C.drop i = 125 :: r) (hp : n + i = pc) : decode code pc = .ok (.lushr, 1) := by
  subst hp
  have e := decB (nx := n + i + 1) (ins := .lushr) ((runB (chW_1 h hi)).trans rfl)
  rw [e, show n + i + 1 - (n + i) = 1 by omega]
theorem D_126 {code : ByteArray} {n pc : Nat} {C r : List Nat} (h : chW code n C) (i : Nat) (hi : C.drop i = 126 :: r) (hp : n + i = pc) : decode code pc = .ok (.iand, 1) := by
  subst hp
  have e := decB (nx := n + i + 1) (ins := .iand) ((runB (chW_1 h hi)).trans rfl)
  rw [e, show n + i + 1 - (n + i) = 1 by omega]
theorem D_127 {code : ByteArray} {n pc : Nat} {C r : List Nat} (h : chW code n C) (i : Nat) (hi : C.drop i = 127 :: r) (hp : n + i = pc) : decode code pc = .ok (.land, 1) := by
  subst hp
  have e := decB (nx := n + i + 1) (ins := .land) ((runB (chW_1 h hi)).trans rfl)
  rw [e, show n + i + 1 - (n + i) = 1 by omega]
theorem D_128 {code : ByteArray} {n pc : Nat} {C r : List Nat} (h : chW code n C) (i : Nat) (hi : C.drop i = 128 :: r) (hp : n + i = pc) : decode code pc = .ok (.ior, 1) := by
  subst hp
  have e := decB (nx := n + i + 1) (ins := .ior) ((runB (chW_1 h hi)).trans rfl)
  rw [e, show n + i + 1 - (n + i) = 1 by omega]
theorem D_129 {code : ByteArray} {n pc : Nat} {C r : List Nat} (h : chW code n C) (i : Nat) (hi : C.drop i = 129 :: r) (hp : n + i = pc) : decode code pc = .ok (.lor, 1) := by
  subst hp
  have e := decB (nx := n + i + 1) (ins := .lor) ((runB (chW_1 h hi)).trans rfl)
  rw [e, show n + i + 1 - (n + i) = 1 by omega]
theorem D_130 {code : ByteArray} {n pc : Nat} {C r : List Nat} (h : chW code n C) (i : Nat) (hi : C.drop i = 130 :: r) (hp : n + i = pc) : decode code pc = .ok (.ixor, 1) := by
  subst hp
  have e := decB (nx := n + i + 1) (ins := .ixor) ((runB (chW_1 h hi)).trans rfl)
  rw [e, show n + i + 1 - (n + i) = 1 by omega]
theorem D_132 {code : ByteArray} {n pc : Nat} {C r : List Nat} {a b : Nat} {x : Int} (h : chW code n C) (i : Nat) (hi : C.drop i = 132 :: a :: b :: r) (hp : n + i = pc) (hx : Reader.signed 8 b = x) : decode code pc = .ok (.iinc a x, 3) := by
  subst hp
  have e := decB (nx := n + i + 1 + 1 + 1) (ins := .iinc a (Reader.signed 8 b)) ((runB (chW_1 h hi)).trans ((runB (chW_2 h hi)).trans ((runS1 (chW_3 h hi)).trans rfl)))
  rw [e, show n + i + 1 + 1 + 1 - (n + i) = 3 by omega, hx]
theorem D_133 {code : ByteArray} {n pc : Nat} {C r : List Nat} (h : chW code n C) (i : Nat) (hi : C.drop i = 133 :: r) (hp : n + i = pc) : decode code pc = .ok (.i2l, 1) := by
  subst hp
  have e := decB (nx := n + i + 1) (ins := .i2l) ((runB (chW_1 h hi)).trans rfl)
  rw [e, show n + i + 1 - (n + i) = 1 by omega]
theorem D_136 {code : ByteArray} {n pc : Nat} {C r : List Nat} (h : chW code n C) (i : Nat) (hi : C.drop i = 136 :: r) (hp : n + i = pc) : decode code pc = .ok (.l2i, 1) := by
  subst hp
  have e := decB (nx := n + i + 1) (ins := .l2i) ((runB (chW_1 h hi)).trans rfl)
  rw [e, show n + i + 1 - (n + i) = 1 by omega]
theorem D_145 {code : ByteArray} {n pc : Nat} {C r : List Nat} (h : chW code n C) (i : Nat) (hi : C.drop i = 145 :: r) (hp : n + i = pc) : decode code pc = .ok (.i2b, 1) := by
  subst hp
  have e := decB (nx := n + i + 1) (ins := .i2b) ((runB (chW_1 h hi)).trans rfl)
  rw [e, show n + i + 1 - (n + i) = 1 by omega]
theorem D_146 {code : ByteArray} {n pc : Nat} {C r : List Nat} (h : chW code n C) (i : Nat) (hi : C.drop i = 146 :: r) (hp : n + i = pc) : decode code pc = .ok (.i2c, 1) := by
  subst hp
  have e := decB (nx := n + i + 1) (ins := .i2c) ((runB (chW_1 h hi)).trans rfl)
  rw [e, show n + i + 1 - (n + i) = 1 by omega]
theorem D_148 {code : ByteArray} {n pc : Nat} {C r : List Nat} (h : chW code n C) (i : Nat) (hi : C.drop i = 148 :: r) (hp : n + i = pc) : decode code pc = .ok (.lcmp, 1) := by
  subst hp
  have e := decB (nx := n + i + 1) (ins := .lcmp) ((runB (chW_1 h hi)).trans rfl)
  rw [e, show n + i + 1 - (n + i) = 1 by omega]
theorem D_153 {code : ByteArray} {n pc : Nat} {C r : List Nat} {a b : Nat} {x : Int} (h : chW code n C) (i : Nat) (hi : C.drop i = 153 :: a :: b :: r) (hp : n + i = pc) (hx : Reader.signed 16 (a * 256 + b) = x) : decode code pc = .ok (.ifCond .eq x, 3) := by
  subst hp
  have e := decB (nx := n + i + 1 + 1 + 1) (ins := .ifCond .eq (Reader.signed 16 (a * 256 + b))) ((runB (chW_1 h hi)).trans ((runS2 (chW_2 h hi) (chW_3 h hi)).trans rfl))
  rw [e, show n + i + 1 + 1 + 1 - (n + i) = 3 by omega, hx]
theorem D_154 {code : ByteArray} {n pc : Nat} {C r : List Nat} {a b : Nat} {x : Int} (h : chW code n C) (i : Nat) (hi : C.drop i = 154 :: a :: b :: r) (hp : n + i = pc) (hx : Reader.signed 16 (a * 256 + b) = x) : decode code pc = .ok (.ifCond .ne x, 3) := by
  subst hp
  have e := decB (nx := n + i + 1 + 1 + 1) (ins := .ifCond .ne (Reader.signed 16 (a * 256 + b))) ((runB (chW_1 h hi)).trans ((runS2 (chW_2 h hi) (chW_3 h hi)).trans rfl))
  rw [e, show n + i + 1 + 1 + 1 - (n + i) = 3 by omega, hx]
theorem D_155 {code : ByteArray} {n pc : Nat} {C r : List Nat} {a b : Nat} {x : Int} (h : chW code n C) (i : Nat) (hi : C.drop i = 155 :: a :: b :: r) (hp : n + i = pc) (hx : Reader.signed 16 (a * 256 + b) = x) : decode code pc = .ok (.ifCond .lt x, 3) := by
  subst hp
  have e := decB (nx := n + i + 1 + 1 + 1) (ins := .ifCond .lt (Reader.signed 16 (a * 256 + b))) ((runB (chW_1 h hi)).trans ((runS2 (chW_2 h hi) (chW_3 h hi)).trans rfl))
  rw [e, show n + i + 1 + 1 + 1 - (n + i) = 3 by omega, hx]
theorem D_156 {code : ByteArray} {n pc : Nat} {C r : List Nat} {a b : Nat} {x : Int} (h : chW code n C) (i : Nat) (hi : C.drop i = 156 :: a :: b :: r) (hp : n + i = pc) (hx : Reader.signed 16 (a * 256 + b) = x) : decode code pc = .ok (.ifCond .ge x, 3) := by
  subst hp
  have e := decB (nx := n + i + 1 + 1 + 1) (ins := .ifCond .ge (Reader.signed 16 (a * 256 + b))) ((runB (chW_1 h hi)).trans ((runS2 (chW_2 h hi) (chW_3 h hi)).trans rfl))
  rw [e, show n + i + 1 + 1 + 1 - (n + i) = 3 by omega, hx]
theorem D_157 {code : ByteArray} {n pc : Nat} {C r : List Nat} {a b : Nat} {x : Int} (h : chW code n C) (i : Nat) (hi : C.drop i = 157 :: a :: b :: r) (hp : n + i = pc) (hx : Reader.signed 16 (a * 256 + b) = x) : decode code pc = .ok (.ifCond .gt x, 3) := by
  subst hp
  have e := decB (nx := n + i + 1 + 1 + 1) (ins := .ifCond .gt (Reader.signed 16 (a * 256 + b))) ((runB (chW_1 h hi)).trans ((runS2 (chW_2 h hi) (chW_3 h hi)).trans rfl))
  rw [e, show n + i + 1 + 1 + 1 - (n + i) = 3 by omega, hx]
theorem D_158 {code : ByteArray} {n pc : Nat} {C r : List Nat} {a b : Nat} {x : Int} (h : chW code n C) (i : Nat) (hi : C.drop i = 158 :: a :: b :: r) (hp : n + i = pc) (hx : Reader.signed 16 (a * 256 + b) = x) : decode code pc = .ok (.ifCond .le x, 3) := by
  subst hp
  have e := decB (nx := n + i + 1 + 1 + 1) (ins := .ifCond .le (Reader.signed 16 (a * 256 + b))) ((runB (chW_1 h hi)).trans ((runS2 (chW_2 h hi) (chW_3 h hi)).trans rfl))
  rw [e, show n + i + 1 + 1 + 1 - (n + i) = 3 by omega, hx]
theorem D_159 {code : ByteArray} {n pc : Nat} {C r : List Nat} {a b : Nat} {x : Int} (h : chW code n C) (i : Nat) (hi : C.drop i = 159 :: a :: b :: r) (hp : n + i = pc) (hx : Reader.signed 16 (a * 256 + b) = x) : decode code pc = .ok (.if_icmp .eq x, 3) := by
  subst hp
  have e := decB (nx := n + i + 1 + 1 + 1) (ins := .if_icmp .eq (Reader.signed 16 (a * 256 + b))) ((runB (chW_1 h hi)).trans ((runS2 (chW_2 h hi) (chW_3 h hi)).trans rfl))
  rw [e, show n + i + 1 + 1 + 1 - (n + i) = 3 by omega, hx]
theorem D_160 {code : ByteArray} {n pc : Nat} {C r : List Nat} {a b : Nat} {x : Int} (h : chW code n C) (i : Nat) (hi : C.drop i = 160 :: a :: b :: r) (hp : n + i = pc) (hx : Reader.signed 16 (a * 256 + b) = x) : decode code pc = .ok (.if_icmp .ne x, 3) := by
  subst hp
  have e := decB (nx := n + i + 1 + 1 + 1) (ins := .if_icmp .ne (Reader.signed 16 (a * 256 + b))) ((runB (chW_1 h hi)).trans ((runS2 (chW_2 h hi) (chW_3 h hi)).trans rfl))
  rw [e, show n + i + 1 + 1 + 1 - (n + i) = 3 by omega, hx]
theorem D_161 {code : ByteArray} {n pc : Nat} {C r : List Nat} {a b : Nat} {x : Int} (h : chW code n C) (i : Nat) (hi : C.drop i = 161 :: a :: b :: r) (hp : n + i = pc) (hx : Reader.signed 16 (a * 256 + b) = x) : decode code pc = .ok (.if_icmp .lt x, 3) := by
  subst hp
  have e := decB (nx := n + i + 1 + 1 + 1) (ins := .if_icmp .lt (Reader.signed 16 (a * 256 + b))) ((runB (chW_1 h hi)).trans ((runS2 (chW_2 h hi) (chW_3 h hi)).trans rfl))
  rw [e, show n + i + 1 + 1 + 1 - (n + i) = 3 by omega, hx]
theorem D_162 {code : ByteArray} {n pc : Nat} {C r : List Nat} {a b : Nat} {x : Int} (h : chW code n C) (i : Nat) (hi : C.drop i = 162 :: a :: b :: r) (hp : n + i = pc) (hx : Reader.signed 16 (a * 256 + b) = x) : decode code pc = .ok (.if_icmp .ge x, 3) := by
  subst hp
  have e := decB (nx := n + i + 1 + 1 + 1) (ins := .if_icmp .ge (Reader.signed 16 (a * 256 + b))) ((runB (chW_1 h hi)).trans ((runS2 (chW_2 h hi) (chW_3 h hi)).trans rfl))
  rw [e, show n + i + 1 + 1 + 1 - (n + i) = 3 by omega, hx]
theorem D_163 {code : ByteArray} {n pc : Nat} {C r : List Nat} {a b : Nat} {x : Int} (h : chW code n C) (i : Nat) (hi : C.drop i = 163 :: a :: b :: r) (hp : n + i = pc) (hx : Reader.signed 16 (a * 256 + b) = x) : decode code pc = .ok (.if_icmp .gt x, 3) := by
  subst hp
  have e := decB (nx := n + i + 1 + 1 + 1) (ins := .if_icmp .gt (Reader.signed 16 (a * 256 + b))) ((runB (chW_1 h hi)).trans ((runS2 (chW_2 h hi) (chW_3 h hi)).trans rfl))
  rw [e, show n + i + 1 + 1 + 1 - (n + i) = 3 by omega, hx]
theorem D_164 {code : ByteArray} {n pc : Nat} {C r : List Nat} {a b : Nat} {x : Int} (h : chW code n C) (i : Nat) (hi : C.drop i = 164 :: a :: b :: r) (hp : n + i = pc) (hx : Reader.signed 16 (a * 256 + b) = x) : decode code pc = .ok (.if_icmp .le x, 3) := by
  subst hp
  have e := decB (nx := n + i + 1 + 1 + 1) (ins := .if_icmp .le (Reader.signed 16 (a * 256 + b))) ((runB (chW_1 h hi)).trans ((runS2 (chW_2 h hi) (chW_3 h hi)).trans rfl))
  rw [e, show n + i + 1 + 1 + 1 - (n + i) = 3 by omega, hx]
theorem D_167 {code : ByteArray} {n pc : Nat} {C r : List Nat} {a b : Nat} {x : Int} (h : chW code n C) (i : Nat) (hi : C.drop i = 167 :: a :: b :: r) (hp : n + i = pc) (hx : Reader.signed 16 (a * 256 + b) = x) : decode code pc = .ok (.goto x, 3) := by
  subst hp
  have e := decB (nx := n + i + 1 + 1 + 1) (ins := .goto (Reader.signed 16 (a * 256 + b))) ((runB (chW_1 h hi)).trans ((runS2 (chW_2 h hi) (chW_3 h hi)).trans rfl))
  rw [e, show n + i + 1 + 1 + 1 - (n + i) = 3 by omega, hx]
theorem D_172 {code : ByteArray} {n pc : Nat} {C r : List Nat} (h : chW code n C) (i : Nat) (hi : C.drop i = 172 :: r) (hp : n + i = pc) : decode code pc = .ok (.ireturn, 1) := by
  subst hp
  have e := decB (nx := n + i + 1) (ins := .ireturn) ((runB (chW_1 h hi)).trans rfl)
  rw [e, show n + i + 1 - (n + i) = 1 by omega]
theorem D_173 {code : ByteArray} {n pc : Nat} {C r : List Nat} (h : chW code n C) (i : Nat) (hi : C.drop i = 173 :: r) (hp : n + i = pc) : decode code pc = .ok (.lreturn, 1) := by
  subst hp
  have e := decB (nx := n + i + 1) (ins := .lreturn) ((runB (chW_1 h hi)).trans rfl)
  rw [e, show n + i + 1 - (n + i) = 1 by omega]
theorem D_176 {code : ByteArray} {n pc : Nat} {C r : List Nat} (h : chW code n C) (i : Nat) (hi : C.drop i = 176 :: r) (hp : n + i = pc) : decode code pc = .ok (.areturn, 1) := by
  subst hp
  have e := decB (nx := n + i + 1) (ins := .areturn) ((runB (chW_1 h hi)).trans rfl)
  rw [e, show n + i + 1 - (n + i) = 1 by omega]
theorem D_177 {code : ByteArray} {n pc : Nat} {C r : List Nat} (h : chW code n C) (i : Nat) (hi : C.drop i = 177 :: r) (hp : n + i = pc) : decode code pc = .ok (.return_, 1) := by
  subst hp
  have e := decB (nx := n + i + 1) (ins := .return_) ((runB (chW_1 h hi)).trans rfl)
  rw [e, show n + i + 1 - (n + i) = 1 by omega]
theorem D_178 {code : ByteArray} {n pc : Nat} {C r : List Nat} {a b x : Nat} (h : chW code n C) (i : Nat) (hi : C.drop i = 178 :: a :: b :: r) (hp : n + i = pc) (hx : a * 256 + b = x) : decode code pc = .ok (.getstatic x, 3) := by
  subst hp
  have e := decB (nx := n + i + 1 + 1 + 1) (ins := .getstatic (a * 256 + b)) ((runB (chW_1 h hi)).trans ((runB2 (chW_2 h hi) (chW_3 h hi)).trans rfl))
  rw [e, show n + i + 1 + 1 + 1 - (n + i) = 3 by omega, hx]
theorem D_180 {code : ByteArray} {n pc : Nat} {C r : List Nat} {a b x : Nat} (h : chW code n C) (i : Nat) (hi : C.drop i = 180 :: a :: b :: r) (hp : n + i = pc) (hx : a * 256 + b = x) : decode code pc = .ok (.getfield x, 3) := by
  subst hp
  have e := decB (nx := n + i + 1 + 1 + 1) (ins := .getfield (a * 256 + b)) ((runB (chW_1 h hi)).trans ((runB2 (chW_2 h hi) (chW_3 h hi)).trans rfl))
  rw [e, show n + i + 1 + 1 + 1 - (n + i) = 3 by omega, hx]
theorem D_181 {code : ByteArray} {n pc : Nat} {C r : List Nat} {a b x : Nat} (h : chW code n C) (i : Nat) (hi : C.drop i = 181 :: a :: b :: r) (hp : n + i = pc) (hx : a * 256 + b = x) : decode code pc = .ok (.putfield x, 3) := by
  subst hp
  have e := decB (nx := n + i + 1 + 1 + 1) (ins := .putfield (a * 256 + b)) ((runB (chW_1 h hi)).trans ((runB2 (chW_2 h hi) (chW_3 h hi)).trans rfl))
  rw [e, show n + i + 1 + 1 + 1 - (n + i) = 3 by omega, hx]
theorem D_182 {code : ByteArray} {n pc : Nat} {C r : List Nat} {a b x : Nat} (h : chW code n C) (i : Nat) (hi : C.drop i = 182 :: a :: b :: r) (hp : n + i = pc) (hx : a * 256 + b = x) : decode code pc = .ok (.invokevirtual x, 3) := by
  subst hp
  have e := decB (nx := n + i + 1 + 1 + 1) (ins := .invokevirtual (a * 256 + b)) ((runB (chW_1 h hi)).trans ((runB2 (chW_2 h hi) (chW_3 h hi)).trans rfl))
  rw [e, show n + i + 1 + 1 + 1 - (n + i) = 3 by omega, hx]
theorem D_183 {code : ByteArray} {n pc : Nat} {C r : List Nat} {a b x : Nat} (h : chW code n C) (i : Nat) (hi : C.drop i = 183 :: a :: b :: r) (hp : n + i = pc) (hx : a * 256 + b = x) : decode code pc = .ok (.invokespecial x, 3) := by
  subst hp
  have e := decB (nx := n + i + 1 + 1 + 1) (ins := .invokespecial (a * 256 + b)) ((runB (chW_1 h hi)).trans ((runB2 (chW_2 h hi) (chW_3 h hi)).trans rfl))
  rw [e, show n + i + 1 + 1 + 1 - (n + i) = 3 by omega, hx]
theorem D_184 {code : ByteArray} {n pc : Nat} {C r : List Nat} {a b x : Nat} (h : chW code n C) (i : Nat) (hi : C.drop i = 184 :: a :: b :: r) (hp : n + i = pc) (hx : a * 256 + b = x) : decode code pc = .ok (.invokestatic x, 3) := by
  subst hp
  have e := decB (nx := n + i + 1 + 1 + 1) (ins := .invokestatic (a * 256 + b)) ((runB (chW_1 h hi)).trans ((runB2 (chW_2 h hi) (chW_3 h hi)).trans rfl))
  rw [e, show n + i + 1 + 1 + 1 - (n + i) = 3 by omega, hx]
theorem D_187 {code : ByteArray} {n pc : Nat} {C r : List Nat} {a b x : Nat} (h : chW code n C) (i : Nat) (hi : C.drop i = 187 :: a :: b :: r) (hp : n + i = pc) (hx : a * 256 + b = x) : decode code pc = .ok (.new x, 3) := by
  subst hp
  have e := decB (nx := n + i + 1 + 1 + 1) (ins := .new (a * 256 + b)) ((runB (chW_1 h hi)).trans ((runB2 (chW_2 h hi) (chW_3 h hi)).trans rfl))
  rw [e, show n + i + 1 + 1 + 1 - (n + i) = 3 by omega, hx]
theorem D_188_4 {code : ByteArray} {n pc : Nat} {C r : List Nat} (h : chW code n C) (i : Nat) (hi : C.drop i = 188 :: 4 :: r) (hp : n + i = pc) : decode code pc = .ok (.newarray .boolean, 2) := by
  subst hp
  have e := decB (nx := n + i + 1 + 1) (ins := .newarray .boolean) ((runB (chW_1 h hi)).trans ((runB (chW_2 h hi)).trans rfl))
  rw [e, show n + i + 1 + 1 - (n + i) = 2 by omega]
theorem D_188_8 {code : ByteArray} {n pc : Nat} {C r : List Nat} (h : chW code n C) (i : Nat) (hi : C.drop i = 188 :: 8 :: r) (hp : n + i = pc) : decode code pc = .ok (.newarray .byte, 2) := by
  subst hp
  have e := decB (nx := n + i + 1 + 1) (ins := .newarray .byte) ((runB (chW_1 h hi)).trans ((runB (chW_2 h hi)).trans rfl))
  rw [e, show n + i + 1 + 1 - (n + i) = 2 by omega]
theorem D_188_10 {code : ByteArray} {n pc : Nat} {C r : List Nat} (h : chW code n C) (i : Nat) (hi : C.drop i = 188 :: 10 :: r) (hp : n + i = pc) : decode code pc = .ok (.newarray .int, 2) := by
  subst hp
  have e := decB (nx := n + i + 1 + 1) (ins := .newarray .int) ((runB (chW_1 h hi)).trans ((runB (chW_2 h hi)).trans rfl))
  rw [e, show n + i + 1 + 1 - (n + i) = 2 by omega]
theorem D_188_11 {code : ByteArray} {n pc : Nat} {C r : List Nat} (h : chW code n C) (i : Nat) (hi : C.drop i = 188 :: 11 :: r) (hp : n + i = pc) : decode code pc = .ok (.newarray .long, 2) := by
  subst hp
  have e := decB (nx := n + i + 1 + 1) (ins := .newarray .long) ((runB (chW_1 h hi)).trans ((runB (chW_2 h hi)).trans rfl))
  rw [e, show n + i + 1 + 1 - (n + i) = 2 by omega]
theorem D_189 {code : ByteArray} {n pc : Nat} {C r : List Nat} {a b x : Nat} (h : chW code n C) (i : Nat) (hi : C.drop i = 189 :: a :: b :: r) (hp : n + i = pc) (hx : a * 256 + b = x) : decode code pc = .ok (.anewarray x, 3) := by
  subst hp
  have e := decB (nx := n + i + 1 + 1 + 1) (ins := .anewarray (a * 256 + b)) ((runB (chW_1 h hi)).trans ((runB2 (chW_2 h hi) (chW_3 h hi)).trans rfl))
  rw [e, show n + i + 1 + 1 + 1 - (n + i) = 3 by omega, hx]
theorem D_190 {code : ByteArray} {n pc : Nat} {C r : List Nat} (h : chW code n C) (i : Nat) (hi : C.drop i = 190 :: r) (hp : n + i = pc) : decode code pc = .ok (.arraylength, 1) := by
  subst hp
  have e := decB (nx := n + i + 1) (ins := .arraylength) ((runB (chW_1 h hi)).trans rfl)
  rw [e, show n + i + 1 - (n + i) = 1 by omega]
theorem D_198 {code : ByteArray} {n pc : Nat} {C r : List Nat} {a b : Nat} {x : Int} (h : chW code n C) (i : Nat) (hi : C.drop i = 198 :: a :: b :: r) (hp : n + i = pc) (hx : Reader.signed 16 (a * 256 + b) = x) : decode code pc = .ok (.ifnull x, 3) := by
  subst hp
  have e := decB (nx := n + i + 1 + 1 + 1) (ins := .ifnull (Reader.signed 16 (a * 256 + b))) ((runB (chW_1 h hi)).trans ((runS2 (chW_2 h hi) (chW_3 h hi)).trans rfl))
  rw [e, show n + i + 1 + 1 + 1 - (n + i) = 3 by omega, hx]
theorem D_199 {code : ByteArray} {n pc : Nat} {C r : List Nat} {a b : Nat} {x : Int} (h : chW code n C) (i : Nat) (hi : C.drop i = 199 :: a :: b :: r) (hp : n + i = pc) (hx : Reader.signed 16 (a * 256 + b) = x) : decode code pc = .ok (.ifnonnull x, 3) := by
  subst hp
  have e := decB (nx := n + i + 1 + 1 + 1) (ins := .ifnonnull (Reader.signed 16 (a * 256 + b))) ((runB (chW_1 h hi)).trans ((runS2 (chW_2 h hi) (chW_3 h hi)).trans rfl))
  rw [e, show n + i + 1 + 1 + 1 - (n + i) = 3 by omega, hx]
end
end
section
def nestL : List (String × Nat × MethodName × String) := [("StaveHouse", 33, ({ cls := "StaveHouse$Parser", name := "<init>", desc := "()V" } : Jvm.MethodName), "StaveHouse"), ("StaveHouse$Parser", 47, ({ cls := "StaveHouse$Tokens", name := "<init>", desc := "()V" } : Jvm.MethodName), "StaveHouse"), ("StaveHouse", 40, ({ cls := "StaveHouse$Walker", name := "<init>", desc := "()V" } : Jvm.MethodName), "StaveHouse"), ("StaveHouse", 47, ({ cls := "StaveHouse$Scribe", name := "<init>", desc := "()V" } : Jvm.MethodName), "StaveHouse"), ("StaveHouse$Scribe", 11, ({ cls := "StaveHouse$Event", name := "<init>", desc := "()V" } : Jvm.MethodName), "StaveHouse"), ("StaveHouse", 67, ({ cls := "StaveHouse$Piece", name := "<init>", desc := "()V" } : Jvm.MethodName), "StaveHouse"), ("StaveHouse$Part", 30, ({ cls := "StaveHouse$Event", name := "<init>", desc := "()V" } : Jvm.MethodName), "StaveHouse"), ("StaveHouse$Piece", 110, ({ cls := "StaveHouse$Study", name := "<init>", desc := "()V" } : Jvm.MethodName), "StaveHouse"), ("StaveHouse$Piece", 99, ({ cls := "StaveHouse$Performance", name := "<init>", desc := "()V" } : Jvm.MethodName), "StaveHouse"), ("StaveHouse", 237, ({ cls := "StaveHouse$Layout", name := "<init>", desc := "()V" } : Jvm.MethodName), "StaveHouse"), ("StaveHouse", 277, ({ cls := "StaveHouse$SoundFile", name := "<init>", desc := "()V" } : Jvm.MethodName), "StaveHouse"), ("StaveHouseModel", 39, ({ cls := "StaveHouseModel$Piece", name := "<init>", desc := "()V" } : Jvm.MethodName), "StaveHouseModel"), ("StaveHouse$Parser", 315, ({ cls := "StaveHouse", name := "naturalTone", desc := "(I)I" } : Jvm.MethodName), "StaveHouse"), ("StaveHouse$Walker", 191, ({ cls := "StaveHouse", name := "naturalTone", desc := "(I)I" } : Jvm.MethodName), "StaveHouse"), ("StaveHouse$Part", 175, ({ cls := "StaveHouse", name := "greatestValue", desc := "(I)I" } : Jvm.MethodName), "StaveHouse"), ("StaveHouse$Part", 169, ({ cls := "StaveHouse", name := "fineValue", desc := "(I)I" } : Jvm.MethodName), "StaveHouse"), ("StaveHouse$Part", 165, ({ cls := "StaveHouse", name := "nextValue", desc := "(IIII)I" } : Jvm.MethodName), "StaveHouse"), ("StaveHouse$Part", 197, ({ cls := "StaveHouse", name := "keyAlteration", desc := "(II)I" } : Jvm.MethodName), "StaveHouse"), ("StaveHouse$Piece", 77, ({ cls := "StaveHouse", name := "beatCount", desc := "(II)I" } : Jvm.MethodName), "StaveHouse"), ("StaveHouse$Event", 25, ({ cls := "StaveHouse", name := "naturalTone", desc := "(I)I" } : Jvm.MethodName), "StaveHouse"), ("StaveHouse$Performance", 150, ({ cls := "StaveHouse", name := "naturalTone", desc := "(I)I" } : Jvm.MethodName), "StaveHouse"), ("StaveHouse$Performance", 156, ({ cls := "StaveHouse", name := "keyAlteration", desc := "(II)I" } : Jvm.MethodName), "StaveHouse"), ("StaveHouse$Scribe", 183, ({ cls := "StaveHouse", name := "nextValue", desc := "(IIII)I" } : Jvm.MethodName), "StaveHouse"), ("StaveHouse$Scribe", 187, ({ cls := "StaveHouse", name := "fineValue", desc := "(I)I" } : Jvm.MethodName), "StaveHouse"), ("StaveHouse$Study", 189, ({ cls := "StaveHouse", name := "keyAlteration", desc := "(II)I" } : Jvm.MethodName), "StaveHouse"), ("StaveHouse$Part", 235, ({ cls := "StaveHouse", name := "gcd", desc := "(JJ)J" } : Jvm.MethodName), "StaveHouse")]
def nestF : List (String × Nat × String × String × String × String) := [("StaveHouse$Parser", 299, "StaveHouse", "POINT_QUARTERS", "[I", "StaveHouse"), ("StaveHouse$Scribe", 126, "StaveHouse", "NATURAL_TONES", "[I", "StaveHouse"), ("StaveHouse$Study", 180, "StaveHouse", "NATURAL_TONES", "[I", "StaveHouse")]
def aoL : List String := ["StaveHouse$Piece", "StaveHouse$Part", "StaveHouseModel$Piece", "StaveHouse$Event"]
def statL : List (String × String × String × Value) := [("java/lang/String", "COMPACT_STRINGS", "Z", .int 1), ("StaveHouseModel", "KEY", "J", .long 7038329), ("StaveHouseModel", "MAJOR", "J", .long 469785800562), ("StaveHouseModel", "MINOR", "J", .long 469920280434), ("StaveHouseModel", "TIME", "J", .long 1953066341), ("StaveHouseModel", "TEMPO", "J", .long 499917877359), ("StaveHouseModel", "LET", "J", .long 7103860), ("StaveHouseModel", "VOICE", "J", .long 508675318629), ("StaveHouseModel", "REPEAT", "J", .long 125780002955636), ("StaveHouseModel", "ALT", "J", .long 6384756), ("StaveHouseModel", "USE", "J", .long 7697253), ("StaveHouseModel", "MOVE", "J", .long 1836021349), ("StaveHouseModel", "MIRROR", "J", .long 120299659095922), ("StaveHouseModel", "BACK", "J", .long 1650549611), ("StaveHouseModel", "SLOW", "J", .long 1936486263), ("StaveHouseModel", "REST", "J", .long 114)]
def strL : List (String × Nat × String × Nat × List Int32) := [("StaveHouse$Parser", 302, "~()'^-%", 7, [126, 40, 41, 39, 94, 45, 37]), ("StaveHouse$Performance", 201, "MThd", 4, [77, 84, 104, 100]), ("StaveHouse$Performance", 221, "MTrk", 4, [77, 84, 114, 107]), ("StaveHouse$Scribe", 133, "key -", 5, [107, 101, 121, 32, 45]), ("StaveHouse$Scribe", 135, "key ", 4, [107, 101, 121, 32]), ("StaveHouse$Scribe", 147, " minor\ntime ", 12, [32, 109, 105, 110, 111, 114, 10, 116, 105, 109, 101, 32]), ("StaveHouse$Scribe", 149, " major\ntime ", 12, [32, 109, 97, 106, 111, 114, 10, 116, 105, 109, 101, 32]), ("StaveHouse$Scribe", 154, "\ntempo ", 7, [10, 116, 101, 109, 112, 111, 32]), ("StaveHouse$Scribe", 156, "voice v", 7, [118, 111, 105, 99, 101, 32, 118]), ("StaveHouse$Scribe", 160, " treble ", 8, [32, 116, 114, 101, 98, 108, 101, 32]), ("StaveHouse$Scribe", 162, " bass ", 6, [32, 98, 97, 115, 115, 32]), ("StaveHouse$Scribe", 167, " {\n", 3, [32, 123, 10]), ("StaveHouse$Scribe", 178, "}\n", 2, [125, 10]), ("StaveHouse$Scribe", 194, "|\n", 2, [124, 10]), ("StaveHouse$Scribe", 200, "<", 1, [60]), ("StaveHouse$Scribe", 202, "", 0, []), ("StaveHouse$Scribe", 204, " ", 1, [32]), ("StaveHouse$Scribe", 215, ">:", 2, [62, 58]), ("StaveHouse$Scribe", 217, ":", 1, [58]), ("StaveHouse$Scribe", 219, "~ ", 2, [126, 32]), ("StaveHouse$Scribe", 221, "cdefgab", 7, [99, 100, 101, 102, 103, 97, 98]), ("StaveHouse$SoundFile", 96, "MThd", 4, [77, 84, 104, 100]), ("StaveHouse$Tokens", 47, "{}[]<>():/.|~!'^-%=", 19, [123, 125, 91, 93, 60, 62, 40, 41, 58, 47, 46, 124, 126, 33, 39, 94, 45, 37, 61]), ("StaveHouseModel", 65, "treble", 6, [116, 114, 101, 98, 108, 101]), ("StaveHouseModel", 71, "bass", 4, [98, 97, 115, 115]), ("StaveHouseModel", 73, "alto", 4, [97, 108, 116, 111]), ("StaveHouseModel", 75, "tenor", 5, [116, 101, 110, 111, 114]), ("StaveHouseModel", 80, "ppp", 3, [112, 112, 112]), ("StaveHouseModel", 82, "pp", 2, [112, 112]), ("StaveHouseModel", 84, "p", 1, [112]), ("StaveHouseModel", 86, "mp", 2, [109, 112]), ("StaveHouseModel", 88, "mf", 2, [109, 102]), ("StaveHouseModel", 90, "f", 1, [102]), ("StaveHouseModel", 92, "ff", 2, [102, 102]), ("StaveHouseModel", 94, "fff", 3, [102, 102, 102]), ("StaveHouseModel", 346, "{}[]<>():/.|~!'^-%=", 19, [123, 125, 91, 93, 60, 62, 40, 41, 58, 47, 46, 124, 126, 33, 39, 94, 45, 37, 61]), ("StaveHouseModel", 969, "MThd", 4, [77, 84, 104, 100]), ("StaveHouseModel", 987, "MTrk", 4, [77, 84, 114, 107]), ("StaveHouseModel", 1091, "key ", 4, [107, 101, 121, 32]), ("StaveHouseModel", 1096, " minor", 6, [32, 109, 105, 110, 111, 114]), ("StaveHouseModel", 1098, " major", 6, [32, 109, 97, 106, 111, 114]), ("StaveHouseModel", 1100, "time ", 5, [116, 105, 109, 101, 32]), ("StaveHouseModel", 1102, "tempo ", 6, [116, 101, 109, 112, 111, 32]), ("StaveHouseModel", 1104, "voice v", 7, [118, 111, 105, 99, 101, 32, 118]), ("StaveHouseModel", 1106, " treble ", 8, [32, 116, 114, 101, 98, 108, 101, 32]), ("StaveHouseModel", 1108, " bass ", 6, [32, 98, 97, 115, 115, 32]), ("StaveHouseModel", 1110, " {", 2, [32, 123]), ("StaveHouseModel", 1116, "cdefgab", 7, [99, 100, 101, 102, 103, 97, 98])]
def staL : List (String × String × String × Bool × List Int) := [("StaveHouse$Parser", "CLEFS", "[J", true, [128034676042853, 1650553715, 1634497647, 499917942642]), ("StaveHouse$Parser", "LOUDS", "[J", true, [7368816, 28784, 112, 28016, 28006, 102, 26214, 6710886]), ("StaveHouse$Parser", "BEGINNERS", "[J", true, [125780002955636, 7697253, 1836021349, 120299659095922, 1650549611, 1936486263]), ("StaveHouse$Parser", "OTHER_WORDS", "[J", true, [7038329, 469785800562, 469920280434, 1953066341, 499917877359, 7103860, 508675318629, 6384756, 114]), ("StaveHouse", "POINT_QUARTERS", "[I", false, [4, 6, 7]), ("StaveHouse", "NATURAL_TONES", "[I", false, [0, 2, 4, 5, 7, 9, 11]), ("StaveHouse$Walker", "PRIMES", "[I", false, [2, 3, 5, 7]), ("StaveHouse", "SHARP_RANKS", "[I", false, [1, 3, 5, 0, 2, 4, 6]), ("StaveHouse$Part", "LOWEST_LINES", "[I", false, [30, 18, 24, 22]), ("StaveHouse$Study", "LEAST_TONES", "[I", false, [0, 1, 3, 5, 7, 8, 10]), ("StaveHouse$Study", "MOST_TONES", "[I", false, [0, 2, 4, 5, 7, 9, 11]), ("StaveHouse$Performance", "MAJOR_WEIGHTS", "[I", false, [635, 223, 348, 233, 438, 409, 252, 519, 239, 366, 229, 288]), ("StaveHouse$Performance", "MINOR_WEIGHTS", "[I", false, [633, 268, 352, 538, 260, 353, 254, 475, 398, 269, 334, 317]), ("StaveHouse$Performance", "TURNS", "[J", true, [2247346494, 2380980670, 2522561148, 2672560440, 2831479154, 2999847666, 3178227890, 3367215155, 3567440188, 3779571220, 4004316221, 4242425254]), ("StaveHouse$Performance", "CODE_STEPS", "[I", false, [7, 8, 9, 10, 11, 12, 13, 14, 16, 17, 19, 21, 23, 25, 28, 31, 34, 37, 41, 45, 50, 55, 60, 66, 73, 80, 88, 97, 107, 118, 130, 143, 157, 173, 190, 209, 230, 253, 279, 307, 337, 371, 408, 449, 494, 544, 598, 658, 724, 796, 876, 963, 1060, 1166, 1282, 1411, 1552, 1707, 1878, 2066, 2272, 2499, 2749, 3024, 3327, 3660, 4026, 4428, 4871, 5358, 5894, 6484, 7132, 7845, 8630, 9493, 10442, 11487, 12635, 13899, 15289, 16818, 18500, 20350, 22385, 24623, 27086, 29794, 32767]), ("StaveHouse$Performance", "INDEX_MOVES", "[I", false, [-1, -1, -1, -1, 2, 4, 6, 8]), ("StaveHouse$Study", "CHORD_TONES", "[I", false, [40799, 30799, 30699, 40899, 40710, 40711, 30710, 30610, 30609, 30711, 49999, 39999, 49910, 49911, 39910, 39911]), ("StaveHouse$Study", "CHORD_KINDS", "[I", false, [0, 1, 2, 3, 4, 5, 6, 7, 8, 9, 0, 1, 4, 5, 6, 9])]
/-! ===== the words, once for all contracts ===== -/
def wAll : List Cond := lw_tbl.filter goodWord
theorem wA_good : ∀ w ∈ wAll, goodWord w = true := fun _ h => (List.mem_filter.mp h).2
theorem wA_in : ∀ w ∈ wAll, w ∈ lw_tbl := fun _ h => (List.mem_filter.mp h).1
theorem wA_of {w : Cond} (h : w ∈ lw_tbl) (hg : goodWord w = true) : w ∈ wAll := List.mem_filter.mpr ⟨h, hg⟩
theorem wA_hts {args : Array Value} {s : State} (h : ∀ w ∈ lw_tbl, w.before args s = true) : ∀ w ∈ wAll, w.before args s = true := fun w hw => h w (wA_in w hw)
theorem gdC {y : MethodName} {b : ByteArray} {n : Nat} {r : Option FieldType} (h : Cond.code y b n r ∈ wAll) : GoodIn wAll (Cond.code y b n r :: wAll) := fun w hw =>
  (List.mem_cons.mp hw).elim (fun e => by rw [e]; exact ⟨h, good_of_word (wA_good _ h)⟩) (fun h1 => ⟨h1, good_of_word (wA_good _ h1)⟩)
theorem gdW {ws : List Cond} (h : ∀ w ∈ ws, w ∈ wAll) : GoodIn wAll ws := fun w hw => ⟨h w hw, good_of_word (wA_good _ (h w hw))⟩
theorem gdV {own C : String} {i : Nat} {y : MethodName} {b : ByteArray} {n : Nat} {r : Option FieldType} (h1 : Cond.methodLink own i y ∈ wAll) (h2 : Cond.instanceMethod y ∈ wAll) (h3 : Cond.selects C y y ∈ wAll) (h4 : Cond.initialized C ∈ wAll) (h : Cond.code y b n r ∈ wAll) : GoodIn wAll (wsV own i C y (Cond.code y b n r :: wAll)) := by
  intro w hw
  unfold wsV at hw
  rcases List.mem_append.mp hw with hw | hw
  · refine gdW (ws := [.methodLink own i y, .instanceMethod y, .selects C y y, .initialized C]) ?_ w hw
    exact List.forall_mem_cons.mpr ⟨h1, List.forall_mem_cons.mpr ⟨h2, List.forall_mem_cons.mpr ⟨h3, List.forall_mem_cons.mpr ⟨h4, fun _ h => absurd h List.not_mem_nil⟩⟩⟩⟩
  · exact gdC h w hw
theorem gdS {own : String} {i : Nat} {y : MethodName} {b : ByteArray} {n : Nat} {r : Option FieldType} (h1 : Cond.methodLink own i y ∈ wAll) (h2 : Cond.static y ∈ wAll) (h4 : Cond.initialized y.cls ∈ wAll) (h : Cond.code y b n r ∈ wAll) : GoodIn wAll (va_wsS own i y (Cond.code y b n r :: wAll)) := by
  intro w hw
  unfold va_wsS at hw
  rcases List.mem_append.mp hw with hw | hw
  · refine gdW (ws := [.methodLink own i y, .static y, .initialized y.cls]) ?_ w hw
    exact List.forall_mem_cons.mpr ⟨h1, List.forall_mem_cons.mpr ⟨h2, List.forall_mem_cons.mpr ⟨h4, fun _ h => absurd h List.not_mem_nil⟩⟩⟩
  · exact gdC h w hw
/-! ===== what is known of a row of values ===== -/
def gF {α : Type} (f : Nat → α) (L : List (Nat × α)) : Prop := ∀ q ∈ L, f q.1 = q.2
def gM {α : Type} (f f' : Nat → α) (ks : List Nat) : Prop := ∀ j, ks.contains j = false → f' j = f j
section GF
variable {α : Type} {f f' f0 : Nat → α} {L L' N : List (Nat × α)} {k : Nat} {v : α} {ks ks' : List Nat}
theorem gF_nil : gF f [] := fun _ h => absurd h List.not_mem_nil
theorem gF_cons (h : f k = v) (hL : gF f L) : gF f ((k, v) :: L) := List.forall_mem_cons.mpr ⟨h, hL⟩
theorem gF.at (h : gF f L) (i : Nat) (hi : L[i]? = some (k, v)) : f k = v := h (k, v) (List.mem_of_getElem? hi)
theorem gF.sub (h : gF f L) (is : List Nat) (hl : is.filterMap (fun i => L[i]?) = L') : gF f L' := by
  intro q hq
  rw [← hl] at hq
  obtain ⟨i, -, hi⟩ := List.mem_filterMap.mp hq
  exact h q (List.mem_of_getElem? hi)
theorem gF.put (h : gF f L) (k : Nat) (v : α) (hl : (k, v) :: L.filter (fun q => !(q.1 == k)) = L') : gF (va_up f k v) L' := by
  rw [← hl]
  refine List.forall_mem_cons.mpr ⟨va_up_self f k v, fun q hq => ?_⟩
  obtain ⟨h1, h2⟩ := List.mem_filter.mp hq
  have h3 : q.1 ≠ k := by simpa using h2
  rw [va_up_ne f v h3]
  exact h q h1
theorem gM.rf : gM f f [] := fun _ _ => rfl
theorem gM.up (f : Nat → α) (k : Nat) (v : α) : gM f (va_up f k v) [k] := fun j hj => va_up_ne f v (by simpa using hj)
theorem gM.tr (h : gM f0 f ks) (h2 : gM f f' ks') : gM f0 f' (ks' ++ ks) := fun j hj => by
  have h3 : ks'.contains j = false ∧ ks.contains j = false := by simpa using hj
  rw [h2 j h3.1, h j h3.2]
theorem gM.mono (h : gM f f' ks) (hs : ks.all (fun k => ks'.contains k) = true) : gM f f' ks' := fun j hj => h j (by
  cases hc : ks.contains j with
  | false => rfl
  | true =>
    have h1 := List.all_eq_true.mp hs j (by simpa using hc)
    rw [hj] at h1
    cases h1)
theorem gF.upd (h : gF f L) (hm : gM f f' ks) (hn : gF f' N) (hl : N ++ L.filter (fun q => !(ks.contains q.1)) = L') : gF f' L' := by
  intro q hq
  rw [← hl] at hq
  rcases List.mem_append.mp hq with hq | hq
  · exact hn q hq
  · obtain ⟨h1, h2⟩ := List.mem_filter.mp hq
    rw [hm q.1 (by simpa using h2)]
    exact h q h1
end GF
def rg (N : Nat) (f : Nat → Value) : List Value := (List.range N).map f
theorem rg_get {N k : Nat} {f : Nat → Value} {v : Value} (hk : k < N) (e : f k = v) : (rg N f)[k]? = some v := by
  unfold rg
  rw [List.getElem?_map, List.getElem?_range hk, ← e]
  rfl
theorem rg_len {N : Nat} {f : Nat → Value} : (rg N f).length = N := by simp [rg]
theorem rg_set {N k : Nat} {f : Nat → Value} {v : Value} : (rg N f).set k v = rg N (va_up f k v) := by
  unfold rg
  apply List.ext_getElem?
  intro i
  rw [List.getElem?_set, List.getElem?_map, List.getElem?_map]
  by_cases hi : i < N
  · rw [List.getElem?_range hi]
    by_cases e : k = i
    · subst e
      simp [va_up, hi]
    · have e2 : ¬ i = k := fun z => e z.symm
      simp [va_up, e, e2]
  · have hn : (List.range N)[i]? = none := List.getElem?_eq_none (by rw [List.length_range]; omega)
    rw [hn]
    by_cases e : k = i
    · subst e
      simp [hi]
    · simp [e]
theorem rg_V {N k : Nat} {f : Nat → Value} (hk : k < N) : vp_V (rg N f) k = f k := by
  unfold vp_V
  rw [List.getD_eq_getElem?_getD, rg_get hk rfl]
  rfl
theorem wA_1 {j : Nat} {w : Cond} (h : tables_1_1[j]? = some w) (hg : goodWord w = true) : w ∈ wAll := wA_of (List.mem_append_right _ (by unfold tables_1; exact List.mem_append_left _ (List.mem_of_getElem? h))) hg
theorem wA_2 {j : Nat} {w : Cond} (h : tables_1_2[j]? = some w) (hg : goodWord w = true) : w ∈ wAll := wA_of (List.mem_append_right _ (by unfold tables_1; exact List.mem_append_right _ (List.mem_append_left _ (List.mem_of_getElem? h)))) hg
theorem wA_3 {j : Nat} {w : Cond} (h : tables_1_3[j]? = some w) (hg : goodWord w = true) : w ∈ wAll := wA_of (List.mem_append_right _ (by unfold tables_1; exact List.mem_append_right _ (List.mem_append_right _ (List.mem_append_left _ (List.mem_of_getElem? h))))) hg
theorem wA_4 {j : Nat} {w : Cond} (h : tables_1_4[j]? = some w) (hg : goodWord w = true) : w ∈ wAll := wA_of (List.mem_append_right _ (by unfold tables_1; exact List.mem_append_right _ (List.mem_append_right _ (List.mem_append_right _ (List.mem_append_left _ (List.mem_of_getElem? h)))))) hg
theorem wA_5 {j : Nat} {w : Cond} (h : tables_1_5[j]? = some w) (hg : goodWord w = true) : w ∈ wAll := wA_of (List.mem_append_right _ (by unfold tables_1; exact List.mem_append_right _ (List.mem_append_right _ (List.mem_append_right _ (List.mem_append_right _ (List.mem_append_left _ (List.mem_of_getElem? h))))))) hg
theorem wA_6 {j : Nat} {w : Cond} (h : tables_1_6[j]? = some w) (hg : goodWord w = true) : w ∈ wAll := wA_of (List.mem_append_right _ (by unfold tables_1; exact List.mem_append_right _ (List.mem_append_right _ (List.mem_append_right _ (List.mem_append_right _ (List.mem_append_right _ (List.mem_append_left _ (List.mem_of_getElem? h)))))))) hg
theorem wA_7 {j : Nat} {w : Cond} (h : tables_1_7[j]? = some w) (hg : goodWord w = true) : w ∈ wAll := wA_of (List.mem_append_right _ (by unfold tables_1; exact List.mem_append_right _ (List.mem_append_right _ (List.mem_append_right _ (List.mem_append_right _ (List.mem_append_right _ (List.mem_append_right _ (List.mem_append_left _ (List.mem_of_getElem? h))))))))) hg
theorem wA_8 {j : Nat} {w : Cond} (h : tables_1_8[j]? = some w) (hg : goodWord w = true) : w ∈ wAll := wA_of (List.mem_append_right _ (by unfold tables_1; exact List.mem_append_right _ (List.mem_append_right _ (List.mem_append_right _ (List.mem_append_right _ (List.mem_append_right _ (List.mem_append_right _ (List.mem_append_right _ (List.mem_append_left _ (List.mem_of_getElem? h)))))))))) hg
theorem wA_9 {j : Nat} {w : Cond} (h : tables_1_9[j]? = some w) (hg : goodWord w = true) : w ∈ wAll := wA_of (List.mem_append_right _ (by unfold tables_1; exact List.mem_append_right _ (List.mem_append_right _ (List.mem_append_right _ (List.mem_append_right _ (List.mem_append_right _ (List.mem_append_right _ (List.mem_append_right _ (List.mem_append_right _ (List.mem_append_left _ (List.mem_of_getElem? h))))))))))) hg
theorem wA_10 {j : Nat} {w : Cond} (h : tables_1_10[j]? = some w) (hg : goodWord w = true) : w ∈ wAll := wA_of (List.mem_append_right _ (by unfold tables_1; exact List.mem_append_right _ (List.mem_append_right _ (List.mem_append_right _ (List.mem_append_right _ (List.mem_append_right _ (List.mem_append_right _ (List.mem_append_right _ (List.mem_append_right _ (List.mem_append_right _ (List.mem_append_left _ (List.mem_of_getElem? h)))))))))))) hg
theorem wA_11 {j : Nat} {w : Cond} (h : tables_1_11[j]? = some w) (hg : goodWord w = true) : w ∈ wAll := wA_of (List.mem_append_right _ (by unfold tables_1; exact List.mem_append_right _ (List.mem_append_right _ (List.mem_append_right _ (List.mem_append_right _ (List.mem_append_right _ (List.mem_append_right _ (List.mem_append_right _ (List.mem_append_right _ (List.mem_append_right _ (List.mem_append_right _ (List.mem_append_left _ (List.mem_of_getElem? h))))))))))))) hg
theorem wA_12 {j : Nat} {w : Cond} (h : tables_1_12[j]? = some w) (hg : goodWord w = true) : w ∈ wAll := wA_of (List.mem_append_right _ (by unfold tables_1; exact List.mem_append_right _ (List.mem_append_right _ (List.mem_append_right _ (List.mem_append_right _ (List.mem_append_right _ (List.mem_append_right _ (List.mem_append_right _ (List.mem_append_right _ (List.mem_append_right _ (List.mem_append_right _ (List.mem_append_right _ (List.mem_append_left _ (List.mem_of_getElem? h)))))))))))))) hg
theorem wA_13 {j : Nat} {w : Cond} (h : tables_1_13[j]? = some w) (hg : goodWord w = true) : w ∈ wAll := wA_of (List.mem_append_right _ (by unfold tables_1; exact List.mem_append_right _ (List.mem_append_right _ (List.mem_append_right _ (List.mem_append_right _ (List.mem_append_right _ (List.mem_append_right _ (List.mem_append_right _ (List.mem_append_right _ (List.mem_append_right _ (List.mem_append_right _ (List.mem_append_right _ (List.mem_append_right _ (List.mem_append_left _ (List.mem_of_getElem? h))))))))))))))) hg
theorem wA_14 {j : Nat} {w : Cond} (h : tables_1_14[j]? = some w) (hg : goodWord w = true) : w ∈ wAll := wA_of (List.mem_append_right _ (by unfold tables_1; exact List.mem_append_right _ (List.mem_append_right _ (List.mem_append_right _ (List.mem_append_right _ (List.mem_append_right _ (List.mem_append_right _ (List.mem_append_right _ (List.mem_append_right _ (List.mem_append_right _ (List.mem_append_right _ (List.mem_append_right _ (List.mem_append_right _ (List.mem_append_right _ (List.mem_append_left _ (List.mem_of_getElem? h)))))))))))))))) hg
theorem wA_15 {j : Nat} {w : Cond} (h : tables_1_15[j]? = some w) (hg : goodWord w = true) : w ∈ wAll := wA_of (List.mem_append_right _ (by unfold tables_1; exact List.mem_append_right _ (List.mem_append_right _ (List.mem_append_right _ (List.mem_append_right _ (List.mem_append_right _ (List.mem_append_right _ (List.mem_append_right _ (List.mem_append_right _ (List.mem_append_right _ (List.mem_append_right _ (List.mem_append_right _ (List.mem_append_right _ (List.mem_append_right _ (List.mem_append_right _ (List.mem_of_getElem? h)))))))))))))))) hg
theorem wA_s {j : Nat} {w : Cond} (h : (k2_sels lw_privs)[j]? = some w) (hg : goodWord w = true) : w ∈ wAll := wA_of (List.mem_append_left _ (List.mem_of_getElem? h)) hg
end
section
/-! ===== what stands beside the world: links of nest mates, array classes, statics, texts ===== -/
def gX (ad av : Nat → Nat) (A : Nat → Prop) (U : State) (H : Heap) : Prop :=
  (∀ q ∈ nestL, va_Nw (.methodLinkNest q.1 q.2.1 q.2.2.1 q.2.2.2) U) ∧ (∀ C ∈ aoL, va_AO C U) ∧ (∀ ty ∈ [FieldType.int, FieldType.long], (Cond.arrayOver (.array ty)).before #[] U = true) ∧ (∀ q ∈ statL, va_Z q.1 q.2.1 q.2.2.1 q.2.2.2 A U H) ∧
  (∀ (i : Nat) (q : String × Nat × String × Nat × List Int32), strL[i]? = some q → vk_R q.1 q.2.1 q.2.2.1 (ad i) U ∧ vk_S 1 [q.2.2.2.1] [q.2.2.2.2] (fun _ => ad i) (fun _ => av i) A U H) ∧
  (va_Zq "jdk/internal/util/Preconditions" "SIOOBE_FORMATTER" "Ljava/util/function/BiFunction;" A U H ∧ ∀ q ∈ nestF, va_Nw (.fieldLinkNest q.1 q.2.1 q.2.2.1 q.2.2.2.1 q.2.2.2.2.1 q.2.2.2.2.2) U) ∧
  (∀ (i : Nat) (q : String × String × String × Bool × List Int), staL[i]? = some q → va_Z q.1 q.2.1 q.2.2.1 (.ref (av (1000 + i))) A U H ∧ va_T (if q.2.2.2.1 then .long else .int) (av (1000 + i)) q.2.2.2.2.length (fun j => if q.2.2.2.1 then .long (Int64.ofInt (q.2.2.2.2.getD j 0)) else .int (Int32.ofInt (q.2.2.2.2.getD j 0))) A U H)
theorem gX.to {ad av : Nat → Nat} {A B : Nat → Prop} {s U : State} (h : gX ad av A s s.heap) (hW : s.WarmedH U.vm) (hk : ∀ a : Nat, a < s.heap.size → ¬ A a → U.heap[a]? = s.heap[a]?) (hAB : ∀ q, B q → A q) : gX ad av B U U.heap :=
  ⟨fun q hq => va_Nw.warmM hW (h.1 q hq), fun C hC => va_AO.moved hW.alike (h.2.1 C hC), fun ty ht => over_moved hW.alike (h.2.2.1 ty ht), fun q hq => ((va_Z.moved hW.alike (h.2.2.2.1 q hq)).kept hk).narrow hAB,
    fun i q hq => ⟨vk_R.warm hW (h.2.2.2.2.1 i q hq).1, ((vk_S.moved hW.alike (h.2.2.2.2.1 i q hq).2).kept hk).narrow hAB⟩, ⟨((va_Zq.moved hW.alike h.2.2.2.2.2.1.1).kept hk).narrow hAB, fun q hq => va_Nw.warmF hW (h.2.2.2.2.2.1.2 q hq)⟩,
    fun i q hq => ⟨((va_Z.moved hW.alike (h.2.2.2.2.2.2 i q hq).1).kept hk).narrow hAB, ((va_T.moved hW.alike (h.2.2.2.2.2.2 i q hq).2).kept hk).narrow hAB⟩⟩
theorem gX.same {ad av : Nat → Nat} {A : Nat → Prop} {u U : State} (h : gX ad av A u u.heap) (hv : U.vm = u.vm) (hh : U.heap = u.heap) : gX ad av A U U.heap := by
  have hal : u.vm.Alike U.vm := by rw [hv]; exact Vm.Alike.refl _
  rw [hh]
  exact ⟨fun q hq => va_Nw.same rfl hv.symm (h.1 q hq), fun C hC => va_AO.moved hal (h.2.1 C hC), fun ty ht => over_moved hal (h.2.2.1 ty ht), fun q hq => va_Z.moved hal (h.2.2.2.1 q hq),
    fun i q hq => ⟨vk_R.same hv (h.2.2.2.2.1 i q hq).1, vk_S.moved hal (h.2.2.2.2.1 i q hq).2⟩, ⟨va_Zq.moved hal h.2.2.2.2.2.1.1, fun q hq => va_Nw.same rfl hv.symm (h.2.2.2.2.2.1.2 q hq)⟩, fun i q hq => ⟨va_Z.moved hal (h.2.2.2.2.2.2 i q hq).1, va_T.moved hal (h.2.2.2.2.2.2 i q hq).2⟩⟩
/-! ===== the shape of every contract ===== -/
def gPre (D : va_G) (ca : Nat → ClassId) (ad av : Nat → Nat) (ws : va_W) (sz : Nat) : State → Prop := fun U =>
  U.heap.size = sz ∧ va_P D cls ws U.heap ∧ va_K D cls (tyL ca) U ∧ va_D (fun _ => True) ws ∧ gX ad av (va_A ws sz) U U.heap
def gB (D : va_G) (ca : Nat → ClassId) (A : Nat → Prop) (ws : va_W) (t : State) : Prop := va_P D cls ws t.heap ∧ va_K D cls (tyL ca) t ∧ va_D A ws
theorem gMet {l : Launch} {y : MethodName} {b : ByteArray} {n : Nat} {ret : Option FieldType} {rm : Room} {D : va_G} {ca : Nat → ClassId} {ad av : Nat → Nat} {ws : va_W} {sz mc ms : Nat} {args : List Value} {Qc : (Nat → Prop) → Array Value → State → Outcome → State → Prop} {lv : List (Nat × Value)}
    (hy : plainName y.cls = true) (hn : (lg_sl args).length ≤ n) (hlv : lv_args 0 args = lv)
    (body : ∀ (A : Nat → Prop) p e s m below meth c ls, p.tables.exec = Jvm.exec → c.code = b → meth.sig.returnType = ret → c.maxLocals = n → s.vm.findClass y.cls = some m.cls → (∀ w ∈ wAll, w.before args.toArray s = true) → meth.locks = false → meth.name = y.name → lv_has ls n lv →
      va_P D cls ws s.heap → va_K D cls (tyL ca) s → va_D A ws → va_S A s.heap s.heap [] → (∀ q, s.heap.size ≤ q → A q) → gX ad av A s s.heap →
      W p l e rm s m args.toArray below meth c s.heap [] 0 0 (MQ below (Qc A) args.toArray s mc ms A) (F0 m 0 ls [])) :
    Met l y (Cond.code y b n ret :: wAll) rm (va_Pc args (gPre D ca ad av ws sz)) (Qc (va_A ws sz)) mc ms (va_A ws sz) := by
  refine Met.ofW (cc := b) (maxL := n) (ret := ret) hy rfl ?_
  intro p e s m args' below meth c s₁ B hml hv
  obtain ⟨rfl, hsz, hP, hK, hD0, hX⟩ := hv
  have hts := atoms_spec (ws := Cond.code y b n ret :: wAll) B.pre
  have hown : s.vm.findClass y.cls = some m.cls := findClass_of_methodNamed B.named
  have hnm : meth.name = y.name := (name_of_methodNamed B.named B.method).1
  subst hsz
  have hD := hD0.self (sz := s.heap.size)
  have hA : ∀ q : Nat, s.heap.size ≤ q → va_A ws s.heap.size q := fun q h => Or.inr h
  have hl := lv_entry args (n := n) hn
  rw [hlv] at hl
  rw [lg_entry_eq]
  exact body (va_A ws s.heap.size) p e s m below meth c _ B.exec B.bytes B.returns hml hown (fun w hw => hts w (List.mem_cons_of_mem _ hw)) B.notSynchronized hnm hl hP hK hD va_S.rf hA hX
theorem gBlind {D : va_G} {ca : Nat → ClassId} {ad av : Nat → Nat} {ws : va_W} {sz : Nat} {As : List Value} : FrameBlind (va_Pc As (gPre D ca ad av ws sz)) := fun a U g mk q => by
  obtain ⟨q0, q1, qP, qK, qD, qX⟩ := q
  exact ⟨q0, q1, qP, va_K.moved (u := U) (U := U.calling g mk a) (Vm.Alike.refl U.vm) qK, qD, qX.same (U := U.calling g mk a) rfl rfl⟩
theorem gAt {D : va_G} {ca : Nat → ClassId} {ad av : Nat → Nat} {ws wc : va_W} {A : Nat → Prop} {s : State} {H : Heap} {locs : List Loc} (hP : va_P D cls ws H) (hD : va_D A ws) (hK : va_K D cls (tyL ca) s) (hS : va_S A s.heap H locs) (hA : ∀ q, s.heap.size ≤ q → A q) (hX : gX ad av A s s.heap) (isC : List Nat) (hn : va_nd isC = true) (hC : isC.map (fun i => ws[i]?) = wc.map some) (As : List Value) :
    ∀ U : State, U.heap = H → s.WarmedH U.vm → va_Pc As (gPre D ca ad av wc H.size) As.toArray U := by
  intro U hU hW
  have hP2 : va_P D cls wc H := by
    intro k q hq
    have h1 : (isC.map (fun i => ws[i]?))[k]? = some (some q) := by rw [hC, List.getElem?_map, hq]; rfl
    rw [List.getElem?_map] at h1
    cases hi : isC[k]? with
    | none => rw [hi] at h1; cases h1
    | some i => rw [hi] at h1; exact hP i q (Option.some.inj h1)
  refine ⟨rfl, by rw [hU], by rw [hU]; exact hP2, va_K.moved hW.alike hK, (hD.sub isC hn hC).weaken (fun _ _ _ _ => trivial), ?_⟩
  exact hX.to hW (fun a h1 h2 => by rw [hU]; exact hS.2.1 a h1 h2) (va_free hD hS hA isC hC)
theorem gPS {D : va_G} {ca : Nat → ClassId} {ad av : Nat → Nat} {ws wc : va_W} {A : Nat → Prop} {s : State} {H : Heap} {locs : List Loc} (hP : va_P D cls ws H) (hD : va_D A ws) (hK : va_K D cls (tyL ca) s) (hS : va_S A s.heap H locs) (hA : ∀ q, s.heap.size ≤ q → A q) (hX : gX ad av A s s.heap) (isC : List Nat) (hn : va_nd isC = true) (hC : isC.map (fun i => ws[i]?) = wc.map some) (As : List Value) :
    PreS s H (va_Pc As (gPre D ca ad av wc H.size)) As := ⟨gBlind, gAt hP hD hK hS hA hX isC hn hC As⟩
theorem gPV {D : va_G} {ca : Nat → ClassId} {ad av : Nat → Nat} {ws wc : va_W} {A : Nat → Prop} {s : State} {H : Heap} {locs : List Loc} (hP : va_P D cls ws H) (hD : va_D A ws) (hK : va_K D cls (tyL ca) s) (hS : va_S A s.heap H locs) (hA : ∀ q, s.heap.size ≤ q → A q) (hX : gX ad av A s s.heap) (isC : List Nat) (hn : va_nd isC = true) (hC : isC.map (fun i => ws[i]?) = wc.map some) (b : Nat) (As : List Value)
    (q0 : Nat) {ci : Nat} {fs : List Value} {r : vw_C} (hc : cls[ci]? = some r) (he : ws[q0]? = some (b, .inr (ci, fs))) : PreV s H r.1 b (va_Pc (.ref b :: As) (gPre D ca ad av wc H.size)) As :=
  ⟨gBlind, va_recv hK hP hc he, gAt hP hD hK hS hA hX isC hn hC (.ref b :: As)⟩
theorem gJoin {D : va_G} {ca : Nat → ClassId} {A : Nat → Prop} {ws wc wr w1 : va_W} {H H1 : Heap} {t : State} (hP : va_P D cls ws H) (hD : va_D A ws) (isC isR : List Nat) (hC : isC.map (fun i => ws[i]?) = wc.map some) (hR : isR.map (fun i => ws[i]?) = wr.map some) (hn : va_nd isR = true) (hdis : isR.all (fun i => !isC.contains i) = true)
    (hk : ∀ q : Nat, q < H.size → ¬ va_A wc H.size q → H1[q]? = H[q]?) (hF : ∀ q, va_A wc H.size q → A q) (ht : t.heap = H1) (hB : gB D ca (va_A wc H.size) w1 t) : va_P D cls (wr ++ w1) H1 ∧ va_D A (wr ++ w1) := by
  obtain ⟨h1, -, h3⟩ := hB
  rw [ht] at h1
  exact va_join hP hD isC isR hC hR hn (fun i hi => by simpa using List.all_eq_true.mp hdis i hi) hk hF h1 h3
/-! ===== fields, by what is known of them ===== -/
section GW
variable {p : Program} {l : Launch} {e : Env} {R : Room} {s : State} {m : MethodId} {args : Array Value} {below : List Frame} {meth : Method} {c : Code} {H : Heap} {locs : List Loc} {cells slots : Nat} {Q : State → Prop}
variable {cc : ByteArray} {pc : Nat} {ls : Array Slot} {rest : List Value} {D : va_G} {A : Nat → Prop} {a : Nat} {tys : List (ClassId × FieldType)} {ws : va_W} {H0 : Heap}
variable {own C : String} {T : u_T} {N ci index : Nat} {f : Nat → Value} {L : List (Nat × Value)}
theorem gget (hx : p.tables.exec = Jvm.exec) (hb : c.code = cc) (hts : ∀ w ∈ wAll, w.before args s = true) (hin : ∀ w ∈ u_ws C T N, w ∈ wAll) (hown : s.vm.findClass own = some m.cls) (hK : va_K D cls tys s) (hP : va_P D cls ws H) (q0 : Nat) (he : ws[q0]? = some (a, .inr (ci, rg N f))) (hc : cls[ci]? = some (C, T, N)) (hF : gF f L) (i : Nat) {k : Nat} {v : Value} (hi : L[i]? = some (k, v)) (hk : k < N)
    (hlink : Cond.fieldLink own index (T k).1 (T k).2.1 (T k).2.2.1 ∈ wAll) (hdg : decode cc pc = .ok (.getfield index, 3)) (kk : W p l e R s m args below meth c H locs cells slots Q (F0 m (pc + 3) ls (v :: rest))) : W p l e R s m args below meth c H locs cells slots Q (F0 m pc ls (.ref a :: rest)) :=
  va_get hx hb hts hin hown hK hP q0 he hc k hk (hts _ hlink) (fun _ h => h) (rg_get hk (hF.at i hi)) hdg kk
theorem gput (hx : p.tables.exec = Jvm.exec) (hb : c.code = cc) (hts : ∀ w ∈ wAll, w.before args s = true) (hin : ∀ w ∈ u_ws C T N, w ∈ wAll) (ty0 : Nat → FieldType) (hty : ∀ k, k < N → parseFieldDescriptor (T k).2.2.1 = some (ty0 k)) (hnm : ∀ a, a < N → ∀ b, b < N → a ≠ b → (T a).2.1 ≠ (T b).2.1) (hown : s.vm.findClass own = some m.cls) (hK : va_K D cls tys s) (hP : va_P D cls ws H) (hD : va_D A ws) (hS : va_S A H0 H locs) (q0 : Nat) (he : ws[q0]? = some (a, .inr (ci, rg N f))) (hc : cls[ci]? = some (C, T, N)) (hF : gF f L) (k : Nat) (hk : k < N)
    (hlink : Cond.fieldLink own index (T k).1 (T k).2.1 (T k).2.2.1 ∈ wAll) (hfin : (T k).2.2.2 = false) {v : Value} (hn : narrow (ty0 k) v = v) (hfit : fits (ty0 k) v = true) (hdg : decode cc pc = .ok (.putfield index, 3)) {L' : List (Nat × Value)} (hL : (k, v) :: L.filter (fun q => !(q.1 == k)) = L')
    (kk : ∀ (f' : Nat → Value) (H1 : Heap) (locs1 : List Loc), gF f' L' → gM f f' [k] → va_P D cls (ws.set q0 (a, .inr (ci, rg N f'))) H1 → va_D A (ws.set q0 (a, .inr (ci, rg N f'))) → va_S A H0 H1 locs1 → W p l e R s m args below meth c H1 locs1 cells slots Q (F0 m (pc + 3) ls rest)) : W p l e R s m args below meth c H locs cells slots Q (F0 m pc ls (v :: .ref a :: rest)) := by
  refine va_put hx hb hts hin ty0 hty hnm hown hK hP hD hS q0 he hc k hk (hts _ hlink) (fun _ h => h) hfin (hty k hk) hn hfit (by rw [rg_len]; exact hk) hdg (fun H1 locs1 hP1 hD1 hS1 => ?_)
  rw [rg_set] at hP1 hD1
  exact kk (va_up f k v) H1 locs1 (hF.put k v hL) (gM.up f k v) hP1 hD1 hS1
theorem gputF (hx : p.tables.exec = Jvm.exec) (hb : c.code = cc) (hts : ∀ w ∈ wAll, w.before args s = true) (hin : ∀ w ∈ u_ws C T N, w ∈ wAll) (ty0 : Nat → FieldType) (hty : ∀ k, k < N → parseFieldDescriptor (T k).2.2.1 = some (ty0 k)) (hnm : ∀ a, a < N → ∀ b, b < N → a ≠ b → (T a).2.1 ≠ (T b).2.1) (hown : s.vm.findClass own = some m.cls) (hK : va_K D cls tys s) (hP : va_P D cls ws H) (hD : va_D A ws) (hS : va_S A H0 H locs) (q0 : Nat) (he : ws[q0]? = some (a, .inr (ci, rg N f))) (hc : cls[ci]? = some (C, T, N)) (hF : gF f L) (k : Nat) (hk : k < N)
    (hlink : Cond.fieldLink own index (T k).1 (T k).2.1 (T k).2.2.1 ∈ wAll) (hfin : (T k).2.2.2 = true) (hin2 : meth.name = "<init>") (hdecl : (T k).1 = own) {v : Value} (hn : narrow (ty0 k) v = v) (hfit : fits (ty0 k) v = true) (hdg : decode cc pc = .ok (.putfield index, 3)) {L' : List (Nat × Value)} (hL : (k, v) :: L.filter (fun q => !(q.1 == k)) = L')
    (kk : ∀ (f' : Nat → Value) (H1 : Heap) (locs1 : List Loc), gF f' L' → gM f f' [k] → va_P D cls (ws.set q0 (a, .inr (ci, rg N f'))) H1 → va_D A (ws.set q0 (a, .inr (ci, rg N f'))) → va_S A H0 H1 locs1 → W p l e R s m args below meth c H1 locs1 cells slots Q (F0 m (pc + 3) ls rest)) : W p l e R s m args below meth c H locs cells slots Q (F0 m pc ls (v :: .ref a :: rest)) := by
  refine va_putF hx hb hts hin ty0 hty hnm hown hK hP hD hS q0 he hc k hk (hts _ hlink) (fun _ h => h) hfin hin2 hdecl (hty k hk) hn hfit (by rw [rg_len]; exact hk) hdg (fun H1 locs1 hP1 hD1 hS1 => ?_)
  rw [rg_set] at hP1 hD1
  exact kk (va_up f k v) H1 locs1 (hF.put k v hL) (gM.up f k v) hP1 hD1 hS1
theorem gnew (hx : p.tables.exec = Jvm.exec) (hb : c.code = cc) (hts : ∀ w ∈ wAll, w.before args s = true) (hin : ∀ w ∈ u_ws C T N, w ∈ wAll) (ty0 : Nat → FieldType) (hty : ∀ k, k < N → parseFieldDescriptor (T k).2.2.1 = some (ty0 k)) (hown : s.vm.findClass own = some m.cls) (hcl : Cond.classLink own index C ∈ wAll) (hinst : Cond.instantiable C N ∈ wAll) (hini : Cond.initialized C ∈ wAll)
    (hK : va_K D cls tys s) (hP : va_P D cls ws H) (hD : va_D A ws) (hS : va_S A H0 H locs) (hA : ∀ q, H0.size ≤ q → A q) (hc : cls[ci]? = some (C, T, N)) (hcells : cells + 1 ≤ R.cells) (hslots : slots + N ≤ R.slots) (hdg : decode cc pc = .ok (.new index, 3)) (hL : gF (fun j => defaultValue (ty0 j)) L)
    (kk : ∀ (f' : Nat → Value) (q : Nat) (H1 : Heap), gF f' L → va_P D cls (ws ++ [(q, .inr (ci, rg N f'))]) H1 → va_D A (ws ++ [(q, .inr (ci, rg N f'))]) → va_S A H0 H1 locs → W p l e R s m args below meth c H1 locs (cells + 1) (slots + N) Q (F0 m (pc + 3) ls (.ref q :: rest))) : W p l e R s m args below meth c H locs cells slots Q (F0 m pc ls rest) :=
  va_new (fs := rg N (fun j => defaultValue (ty0 j))) hx hb hts hin ty0 hty hown (hts _ hcl) (hts _ hinst) (hts _ hini) hK hP hD hS hA hc (fun j hj => (rg_V (f := fun j => defaultValue (ty0 j)) hj).symm) hcells hslots hdg (fun q H1 h1 h2 h3 => kk _ q H1 hL h1 h2 h3)
/-- a new array that nobody looks into: it leaves the world at once -/
theorem gnewaX (hx : p.tables.exec = Jvm.exec) (hb : c.code = cc) (hts : ∀ w ∈ wAll, w.before args s = true) {atype : ArrayType} (harr : Cond.arrayClass (newarray.typeOf atype) ∈ wAll) (hP : va_P D cls ws H) (hS : va_S A H0 H locs) {n : Int32} {N' : Nat} (hn : ¬ n < 0) (hN : n.toNatClampNeg = N') (hbytes : N' * componentBytes (newarray.typeOf atype) ≤ 536870912) (hcells : cells + 1 ≤ R.cells) (hslots : slots + N' ≤ R.slots) (hdg : decode cc pc = .ok (.newarray atype, 2))
    (kk : ∀ (q : Nat) (H1 : Heap), va_P D cls ws H1 → va_S A H0 H1 locs → W p l e R s m args below meth c H1 locs (cells + 1) (slots + N') Q (F0 m (pc + 2) ls (.ref q :: rest))) : W p l e R s m args below meth c H locs cells slots Q (F0 m pc ls (.int n :: rest)) := by
  refine va_newaK hx hb (hts _ harr) rfl hdg rfl hn hN hbytes hcells hslots rfl fun H1 cA e1 z1 o1 hAr hNm => ?_
  exact kk H.size H1 (hP.kept (fun k x hx => o1 x.1 ((hP k x hx).lt))) ⟨Nat.le_trans hS.1 (by omega), fun x h1 h2 => (o1 x (Nat.lt_of_lt_of_le h1 hS.1)).trans (hS.2.1 x h1 h2), hS.2.2⟩
theorem gnewqX (hx : p.tables.exec = Jvm.exec) (hb : c.code = cc) (hts : ∀ w ∈ wAll, w.before args s = true) (hown : s.vm.findClass own = some m.cls) (hcl : Cond.classLink own index C ∈ wAll) (hover : va_AO C s) (hK : va_K D cls tys s) (hP : va_P D cls ws H) (hD : va_D A ws) (hS : va_S A H0 H locs) (hA : ∀ q, H0.size ≤ q → A q) {n : Int32} {N' : Nat} (hn : ¬ n < 0) (hN : n.toNatClampNeg = N') (hbytes : N' * 4 ≤ 536870912) (hcells : cells + 1 ≤ R.cells) (hslots : slots + N' ≤ R.slots) (hdg : decode cc pc = .ok (.anewarray index, 3))
    (kk : ∀ (q : Nat) (H1 : Heap), va_P D cls ws H1 → va_S A H0 H1 locs → W p l e R s m args below meth c H1 locs (cells + 1) (slots + N') Q (F0 m (pc + 3) ls (.ref q :: rest))) : W p l e R s m args below meth c H locs cells slots Q (F0 m pc ls (.int n :: rest)) := by
  refine va_newq hx hb hown (hts _ hcl) hover hK hP hD hS hA hn hN hbytes hcells hslots hdg (fun q cA H1 hK1 hP1 hD1 hS1 => kk q H1 (fun k x hx => hP1 k x ?_) hS1)
  rw [List.getElem?_append_left ((List.getElem?_eq_some_iff.mp hx).1)]
  exact hx
/-- a new array of known class -/
theorem gnewa (hx : p.tables.exec = Jvm.exec) (hb : c.code = cc) (hts : ∀ w ∈ wAll, w.before args s = true) {atype : ArrayType} {ty : FieldType} (hty : newarray.typeOf atype = ty) (harr : Cond.arrayClass (newarray.typeOf atype) ∈ wAll) (hK : va_K D cls tys s) (t0 : Nat) {cy : ClassId} (ht : tys[t0]? = some (cy, ty)) (hu : ∀ c1 c2, va_RA s c1 ty → va_RA s c2 ty → c1 = c2) (hP : va_P D cls ws H) (hD : va_D A ws) (hS : va_S A H0 H locs) (hA : ∀ q, H0.size ≤ q → A q)
    {n : Int32} {N' : Nat} {a0 : vp_A} (ha : ∀ cA : ClassId, vp_cell cA a0 = arrV cA N' (fun _ => defaultValue ty)) (hn : ¬ n < 0) (hN : n.toNatClampNeg = N') (hbytes : N' * componentBytes ty ≤ 536870912) (hcells : cells + 1 ≤ R.cells) (hslots : slots + N' ≤ R.slots) (hdg : decode cc pc = .ok (.newarray atype, 2))
    (kk : ∀ (q : Nat) (H1 : Heap), va_P D cls (ws ++ [(q, .inl (cy, a0))]) H1 → va_D A (ws ++ [(q, .inl (cy, a0))]) → va_S A H0 H1 locs →
      W p l e R s m args below meth c H1 locs (cells + 1) (slots + N') Q (F0 m (pc + 2) ls (.ref q :: rest))) : W p l e R s m args below meth c H locs cells slots Q (F0 m pc ls (.int n :: rest)) := by
  refine va_newa hx hb (hts _ harr) hty hK hP hD hS hA ha hn hN hbytes hcells hslots hdg (fun q cA H1 hK1 hP1 hD1 hS1 => ?_)
  have h1 := (hK1.2 tys.length (cA, ty) (by simp)).2
  have h2 := (hK.2 t0 (cy, ty) ht).2
  have e : cA = cy := hu _ _ h1 h2
  subst e
  exact kk q H1 hP1 hD1 hS1
end GW
theorem gu_int {s : State} {c1 c2 : ClassId} (h1 : va_RA s c1 .int) (h2 : va_RA s c2 .int) : c1 = c2 := Option.some.inj ((va_nm_int h1).symm.trans (va_nm_int h2))
theorem gu_long {s : State} {c1 c2 : ClassId} (h1 : va_RA s c1 .long) (h2 : va_RA s c2 .long) : c1 = c2 := Option.some.inj ((va_nm_long h1).symm.trans (va_nm_long h2))
theorem gu_byte {s : State} {c1 c2 : ClassId} (h1 : va_RA s c1 .byte) (h2 : va_RA s c2 .byte) : c1 = c2 := Option.some.inj ((va_nm_byte h1).symm.trans (va_nm_byte h2))
theorem gu_bool {s : State} {c1 c2 : ClassId} (h1 : va_RA s c1 .boolean) (h2 : va_RA s c2 .boolean) : c1 = c2 := Option.some.inj ((va_nm_boolean h1).symm.trans (va_nm_boolean h2))
end
section
theorem vinC {i : Int32} {n : Nat} (h : (decide (i < 0) || decide (n ≤ i.toNatClampNeg)) = false) : vp_in i n := by
  intro q
  rcases q with q | q
  · simp [q] at h
  · simp [q] at h
theorem gFputU {f : Nat → Int32} {L L' : List (Nat × Int32)} (h : gF f L) (k : Nat) (v : Int32) (hl : (k, v) :: L.filter (fun q => !(q.1 == k)) = L') : gF (upd f k v) L' := by
  rw [← hl]
  refine List.forall_mem_cons.mpr ⟨pk_us, fun q hq => ?_⟩
  obtain ⟨h1, h2⟩ := List.mem_filter.mp hq
  have h3 : q.1 ≠ k := by simpa using h2
  rw [pk_un h3]
  exact h q h1
section GA
variable {p : Program} {l : Launch} {e : Env} {R : Room} {s : State} {m : MethodId} {args : Array Value} {below : List Frame} {meth : Method} {c : Code} {H : Heap} {locs : List Loc} {cells slots : Nat} {Q : State → Prop}
variable {cc : ByteArray} {pc : Nat} {ls : Array Slot} {rest : List Value} {D : va_G} {A : Nat → Prop} {a : Nat} {tys : List (ClassId × FieldType)} {ws : va_W} {H0 : Heap} {cA : ClassId} {n : Nat}
theorem gald {f : Nat → Int32} {L : List (Nat × Int32)} (hx : p.tables.exec = Jvm.exec) (hb : c.code = cc) (hK : va_K D cls tys s) (hP : va_P D cls ws H) (q0 t0 : Nat) (ha : ws[q0]? = some (a, .inl (cA, n, .inl f))) (ht : tys[t0]? = some (cA, .int)) (hF : gF f L) (i : Nat) {k : Nat} {x : Int32} (hi : L[i]? = some (k, x)) {ix : Int32} (hix : ix.toNatClampNeg = k) (hin : vp_in ix n) (hdg : decode cc pc = .ok (.iaload, 1))
    (kk : W p l e R s m args below meth c H locs cells slots Q (F0 m (pc + 1) ls (.int x :: rest))) : W p l e R s m args below meth c H locs cells slots Q (F0 m pc ls (.int ix :: .ref a :: rest)) :=
  va_iald hx hb hK hP q0 t0 ha ht hin hdg (by rw [hix, hF.at i hi]; exact kk)
theorem galdX {f : Nat → Int32} (hx : p.tables.exec = Jvm.exec) (hb : c.code = cc) (hK : va_K D cls tys s) (hP : va_P D cls ws H) (q0 t0 : Nat) (ha : ws[q0]? = some (a, .inl (cA, n, .inl f))) (ht : tys[t0]? = some (cA, .int)) {ix : Int32} (hin : vp_in ix n) (hdg : decode cc pc = .ok (.iaload, 1))
    (kk : ∀ y : Int32, W p l e R s m args below meth c H locs cells slots Q (F0 m (pc + 1) ls (.int y :: rest))) : W p l e R s m args below meth c H locs cells slots Q (F0 m pc ls (.int ix :: .ref a :: rest)) :=
  va_iald hx hb hK hP q0 t0 ha ht hin hdg (kk _)
theorem gbaldX {f : Nat → Int32} (hx : p.tables.exec = Jvm.exec) (hb : c.code = cc) (hK : va_K D cls tys s) (hP : va_P D cls ws H) (q0 t0 : Nat) (ha : ws[q0]? = some (a, .inl (cA, n, .inl f))) (ht : tys[t0]? = some (cA, .byte)) {ix : Int32} (hin : vp_in ix n) (hdg : decode cc pc = .ok (.baload, 1))
    (kk : ∀ y : Int32, W p l e R s m args below meth c H locs cells slots Q (F0 m (pc + 1) ls (.int y :: rest))) : W p l e R s m args below meth c H locs cells slots Q (F0 m pc ls (.int ix :: .ref a :: rest)) :=
  va_bald hx hb hK hP q0 t0 ha ht hin hdg (kk _)
theorem glaldX {f : Nat → Int64} (hx : p.tables.exec = Jvm.exec) (hb : c.code = cc) (hK : va_K D cls tys s) (hP : va_P D cls ws H) (q0 t0 : Nat) (ha : ws[q0]? = some (a, .inl (cA, n, .inr (.inl f)))) (ht : tys[t0]? = some (cA, .long)) {ix : Int32} (hin : vp_in ix n) (hdg : decode cc pc = .ok (.laload, 1))
    (kk : ∀ y : Int64, W p l e R s m args below meth c H locs cells slots Q (F0 m (pc + 1) ls (.long y :: rest))) : W p l e R s m args below meth c H locs cells slots Q (F0 m pc ls (.int ix :: .ref a :: rest)) :=
  va_lald hx hb hK hP q0 t0 ha ht hin hdg (kk _)
theorem gaald {f : Nat → Option Nat} {L : List (Nat × Option Nat)} {C : String} (hx : p.tables.exec = Jvm.exec) (hb : c.code = cc) (hK : va_K D cls tys s) (hP : va_P D cls ws H) (q0 t0 : Nat) (ha : ws[q0]? = some (a, .inl (cA, n, .inr (.inr (.inr (.inr f)))))) (ht : tys[t0]? = some (cA, .object C)) (hF : gF f L) (i : Nat) {k : Nat} {x : Option Nat} (hi : L[i]? = some (k, x)) {ix : Int32} (hix : ix.toNatClampNeg = k) (hin : vp_in ix n) (hdg : decode cc pc = .ok (.aaload, 1))
    (kk : W p l e R s m args below meth c H locs cells slots Q (F0 m (pc + 1) ls (va_rf x :: rest))) : W p l e R s m args below meth c H locs cells slots Q (F0 m pc ls (.int ix :: .ref a :: rest)) :=
  va_aldq hx hb hK hP q0 t0 ha ht hin hdg (by rw [hix, hF.at i hi]; exact kk)
theorem gast {f : Nat → Int32} {L L' : List (Nat × Int32)} (hx : p.tables.exec = Jvm.exec) (hb : c.code = cc) (hK : va_K D cls tys s) (hP : va_P D cls ws H) (hD : va_D A ws) (hS : va_S A H0 H locs) (q0 t0 : Nat) (ha : ws[q0]? = some (a, .inl (cA, n, .inl f))) (ht : tys[t0]? = some (cA, .int)) (hF : gF f L) {ix x : Int32} {k : Nat} (hix : ix.toNatClampNeg = k) (hin : vp_in ix n) (hdg : decode cc pc = .ok (.iastore, 1)) (hL : (k, x) :: L.filter (fun q => !(q.1 == k)) = L')
    (kk : ∀ (f' : Nat → Int32) (H1 : Heap) (locs1 : List Loc), gF f' L' → va_P D cls (ws.set q0 (a, .inl (cA, n, .inl f'))) H1 → va_D A (ws.set q0 (a, .inl (cA, n, .inl f'))) → va_S A H0 H1 locs1 → W p l e R s m args below meth c H1 locs1 cells slots Q (F0 m (pc + 1) ls rest)) : W p l e R s m args below meth c H locs cells slots Q (F0 m pc ls (.int x :: .int ix :: .ref a :: rest)) :=
  va_iast hx hb hK hP hD hS q0 t0 ha ht hin hdg (fun H1 locs1 h1 h2 h3 => kk _ H1 locs1 (by rw [hix]; exact gFputU hF k x hL) h1 h2 h3)
theorem gastX {f : Nat → Int32} (hx : p.tables.exec = Jvm.exec) (hb : c.code = cc) (hK : va_K D cls tys s) (hP : va_P D cls ws H) (hD : va_D A ws) (hS : va_S A H0 H locs) (q0 t0 : Nat) (ha : ws[q0]? = some (a, .inl (cA, n, .inl f))) (ht : tys[t0]? = some (cA, .int)) {ix x : Int32} (hin : vp_in ix n) (hdg : decode cc pc = .ok (.iastore, 1))
    (kk : ∀ (f' : Nat → Int32) (H1 : Heap) (locs1 : List Loc), va_P D cls (ws.set q0 (a, .inl (cA, n, .inl f'))) H1 → va_D A (ws.set q0 (a, .inl (cA, n, .inl f'))) → va_S A H0 H1 locs1 → W p l e R s m args below meth c H1 locs1 cells slots Q (F0 m (pc + 1) ls rest)) : W p l e R s m args below meth c H locs cells slots Q (F0 m pc ls (.int x :: .int ix :: .ref a :: rest)) :=
  va_iast hx hb hK hP hD hS q0 t0 ha ht hin hdg (fun H1 locs1 h1 h2 h3 => kk _ H1 locs1 h1 h2 h3)
theorem gbastX {f : Nat → Int32} (hx : p.tables.exec = Jvm.exec) (hb : c.code = cc) (hK : va_K D cls tys s) (hP : va_P D cls ws H) (hD : va_D A ws) (hS : va_S A H0 H locs) (q0 t0 : Nat) (ha : ws[q0]? = some (a, .inl (cA, n, .inl f))) (ht : tys[t0]? = some (cA, .byte)) {ix x : Int32} (hin : vp_in ix n) (hdg : decode cc pc = .ok (.bastore, 1))
    (kk : ∀ (f' : Nat → Int32) (H1 : Heap) (locs1 : List Loc), va_P D cls (ws.set q0 (a, .inl (cA, n, .inl f'))) H1 → va_D A (ws.set q0 (a, .inl (cA, n, .inl f'))) → va_S A H0 H1 locs1 → W p l e R s m args below meth c H1 locs1 cells slots Q (F0 m (pc + 1) ls rest)) : W p l e R s m args below meth c H locs cells slots Q (F0 m pc ls (.int x :: .int ix :: .ref a :: rest)) :=
  va_bast hx hb hK hP hD hS q0 t0 ha ht hin hdg (fun H1 locs1 h1 h2 h3 => kk _ H1 locs1 h1 h2 h3)
theorem glastX {f : Nat → Int64} (hx : p.tables.exec = Jvm.exec) (hb : c.code = cc) (hK : va_K D cls tys s) (hP : va_P D cls ws H) (hD : va_D A ws) (hS : va_S A H0 H locs) (q0 t0 : Nat) (ha : ws[q0]? = some (a, .inl (cA, n, .inr (.inl f)))) (ht : tys[t0]? = some (cA, .long)) {ix : Int32} {x : Int64} (hin : vp_in ix n) (hdg : decode cc pc = .ok (.lastore, 1))
    (kk : ∀ (f' : Nat → Int64) (H1 : Heap) (locs1 : List Loc), va_P D cls (ws.set q0 (a, .inl (cA, n, .inr (.inl f')))) H1 → va_D A (ws.set q0 (a, .inl (cA, n, .inr (.inl f')))) → va_S A H0 H1 locs1 → W p l e R s m args below meth c H1 locs1 cells slots Q (F0 m (pc + 1) ls rest)) : W p l e R s m args below meth c H locs cells slots Q (F0 m pc ls (.long x :: .int ix :: .ref a :: rest)) :=
  va_last hx hb hK hP hD hS q0 t0 ha ht hin hdg (fun H1 locs1 h1 h2 h3 => kk _ H1 locs1 h1 h2 h3)
theorem gaast {f : Nat → Option Nat} {L L' : List (Nat × Option Nat)} (hx : p.tables.exec = Jvm.exec) (hb : c.code = cc) (hK : va_K D cls tys s) (hP : va_P D cls ws H) (hD : va_D A ws) (hS : va_S A H0 H locs) (q0 t0 qk ci : Nat) {r : vw_C} {v : Nat} {vs : List Value} (ha : ws[q0]? = some (a, .inl (cA, n, .inr (.inr (.inr (.inr f)))))) (ht : tys[t0]? = some (cA, .object r.1)) (hv : ws[qk]? = some (v, .inr (ci, vs))) (hc : cls[ci]? = some r) (hF : gF f L) {ix : Int32} {k : Nat} (hix : ix.toNatClampNeg = k) (hin : vp_in ix n) (hdg : decode cc pc = .ok (.aastore, 1)) (hL : (k, some v) :: L.filter (fun q => !(q.1 == k)) = L')
    (kk : ∀ (f' : Nat → Option Nat) (H1 : Heap) (locs1 : List Loc), gF f' L' → va_P D cls (ws.set q0 (a, .inl (cA, n, .inr (.inr (.inr (.inr f')))))) H1 → va_D A (ws.set q0 (a, .inl (cA, n, .inr (.inr (.inr (.inr f')))))) → va_S A H0 H1 locs1 → W p l e R s m args below meth c H1 locs1 cells slots Q (F0 m (pc + 1) ls rest)) : W p l e R s m args below meth c H locs cells slots Q (F0 m pc ls (.ref v :: .int ix :: .ref a :: rest)) :=
  va_astq hx hb hK hP hD hS q0 t0 qk ci ha ht hv hc hin hdg (fun H1 locs1 h1 h2 h3 => kk _ H1 locs1 (by rw [hix]; exact hF.put k (some v) hL) h1 h2 h3)
theorem gnewq {own C : String} {index : Nat} (hx : p.tables.exec = Jvm.exec) (hb : c.code = cc) (hts : ∀ w ∈ wAll, w.before args s = true) (hown : s.vm.findClass own = some m.cls) (hcl : Cond.classLink own index C ∈ wAll) (hover : va_AO C s) (hK : va_K D cls tys s) (t0 : Nat) {cy : ClassId} (ht : tys[t0]? = some (cy, .object C)) (hP : va_P D cls ws H) (hD : va_D A ws) (hS : va_S A H0 H locs) (hA : ∀ q, H0.size ≤ q → A q) {n : Int32} {N' : Nat} (hn : ¬ n < 0) (hN : n.toNatClampNeg = N') (hbytes : N' * 4 ≤ 536870912) (hcells : cells + 1 ≤ R.cells) (hslots : slots + N' ≤ R.slots) (hdg : decode cc pc = .ok (.anewarray index, 3))
    (kk : ∀ (q : Nat) (H1 : Heap), va_P D cls (ws ++ [(q, .inl (cy, N', .inr (.inr (.inr (.inr (fun _ => none))))))]) H1 → va_D A (ws ++ [(q, .inl (cy, N', .inr (.inr (.inr (.inr (fun _ => none))))))]) → va_S A H0 H1 locs → W p l e R s m args below meth c H1 locs (cells + 1) (slots + N') Q (F0 m (pc + 3) ls (.ref q :: rest))) : W p l e R s m args below meth c H locs cells slots Q (F0 m pc ls (.int n :: rest)) := by
  refine va_newq hx hb hown (hts _ hcl) hover hK hP hD hS hA hn hN hbytes hcells hslots hdg (fun q cA H1 hK1 hP1 hD1 hS1 => ?_)
  obtain ⟨-, -, -, -, -, h1⟩ := (hK1.2 tys.length (cA, .object C) (by simp)).2
  obtain ⟨-, -, -, -, -, h2⟩ := (hK.2 t0 (cy, .object C) ht).2
  have e : cA = cy := Option.some.inj (h1.symm.trans h2)
  subst e
  exact kk q H1 hP1 hD1 hS1
/-- the world without some of its cells -/
theorem gputX {own C : String} {T : u_T} {N ci index : Nat} {f : Nat → Value} {L : List (Nat × Value)} (hx : p.tables.exec = Jvm.exec) (hb : c.code = cc) (hts : ∀ w ∈ wAll, w.before args s = true) (hin : ∀ w ∈ u_ws C T N, w ∈ wAll) (ty0 : Nat → FieldType) (hty : ∀ k, k < N → parseFieldDescriptor (T k).2.2.1 = some (ty0 k)) (hnm : ∀ a, a < N → ∀ b, b < N → a ≠ b → (T a).2.1 ≠ (T b).2.1) (hown : s.vm.findClass own = some m.cls) (hK : va_K D cls tys s) (hP : va_P D cls ws H) (hD : va_D A ws) (hS : va_S A H0 H locs) (q0 : Nat) (he : ws[q0]? = some (a, .inr (ci, rg N f))) (hc : cls[ci]? = some (C, T, N)) (hF : gF f L) (k : Nat) (hk : k < N)
    (hlink : Cond.fieldLink own index (T k).1 (T k).2.1 (T k).2.2.1 ∈ wAll) (hfin : (T k).2.2.2 = false) {v : Value} (hn : narrow (ty0 k) v = v) (hfit : fits (ty0 k) v = true) (hdg : decode cc pc = .ok (.putfield index, 3)) {L' : List (Nat × Value)} (hL : L.filter (fun q => !(q.1 == k)) = L')
    (kk : ∀ (f' : Nat → Value) (H1 : Heap) (locs1 : List Loc), gF f' L' → gM f f' [k] → va_P D cls (ws.set q0 (a, .inr (ci, rg N f'))) H1 → va_D A (ws.set q0 (a, .inr (ci, rg N f'))) → va_S A H0 H1 locs1 → W p l e R s m args below meth c H1 locs1 cells slots Q (F0 m (pc + 3) ls rest)) : W p l e R s m args below meth c H locs cells slots Q (F0 m pc ls (v :: .ref a :: rest)) :=
  gput hx hb hts hin ty0 hty hnm hown hK hP hD hS q0 he hc hF k hk hlink hfin hn hfit hdg rfl (fun f' H1 l1 h1 h2 h3 h4 h5 => kk f' H1 l1 (by rw [← hL]; exact fun q hq => h1 q (List.mem_cons_of_mem _ hq)) h2 h3 h4 h5)
theorem gputFX {own C : String} {T : u_T} {N ci index : Nat} {f : Nat → Value} {L : List (Nat × Value)} (hx : p.tables.exec = Jvm.exec) (hb : c.code = cc) (hts : ∀ w ∈ wAll, w.before args s = true) (hin : ∀ w ∈ u_ws C T N, w ∈ wAll) (ty0 : Nat → FieldType) (hty : ∀ k, k < N → parseFieldDescriptor (T k).2.2.1 = some (ty0 k)) (hnm : ∀ a, a < N → ∀ b, b < N → a ≠ b → (T a).2.1 ≠ (T b).2.1) (hown : s.vm.findClass own = some m.cls) (hK : va_K D cls tys s) (hP : va_P D cls ws H) (hD : va_D A ws) (hS : va_S A H0 H locs) (q0 : Nat) (he : ws[q0]? = some (a, .inr (ci, rg N f))) (hc : cls[ci]? = some (C, T, N)) (hF : gF f L) (k : Nat) (hk : k < N)
    (hlink : Cond.fieldLink own index (T k).1 (T k).2.1 (T k).2.2.1 ∈ wAll) (hfin : (T k).2.2.2 = true) (hin2 : meth.name = "<init>") (hdecl : (T k).1 = own) {v : Value} (hn : narrow (ty0 k) v = v) (hfit : fits (ty0 k) v = true) (hdg : decode cc pc = .ok (.putfield index, 3)) {L' : List (Nat × Value)} (hL : L.filter (fun q => !(q.1 == k)) = L')
    (kk : ∀ (f' : Nat → Value) (H1 : Heap) (locs1 : List Loc), gF f' L' → gM f f' [k] → va_P D cls (ws.set q0 (a, .inr (ci, rg N f'))) H1 → va_D A (ws.set q0 (a, .inr (ci, rg N f'))) → va_S A H0 H1 locs1 → W p l e R s m args below meth c H1 locs1 cells slots Q (F0 m (pc + 3) ls rest)) : W p l e R s m args below meth c H locs cells slots Q (F0 m pc ls (v :: .ref a :: rest)) :=
  gputF hx hb hts hin ty0 hty hnm hown hK hP hD hS q0 he hc hF k hk hlink hfin hin2 hdecl hn hfit hdg rfl (fun f' H1 l1 h1 h2 h3 h4 h5 => kk f' H1 l1 (by rw [← hL]; exact fun q hq => h1 q (List.mem_cons_of_mem _ hq)) h2 h3 h4 h5)
end GA
end
section
theorem vin2 {x M : Int32} {n : Nat} (hM : M.toInt = n) (a : ¬ x < 0) (b : ¬ M ≤ x) : vp_in x n := by
  rw [vp_in_iff]
  have h1 := Int32.le_iff_toInt_le.mp (Int32.not_lt.mp a)
  have h2 := Int32.lt_iff_toInt_lt.mp (Int32.not_le.mp b)
  have h3 : (0 : Int32).toInt = 0 := by decide
  omega
theorem vgt {x : Int32} (c : ¬ 1 < x) : ¬ 2 ≤ x := by
  intro h
  apply c
  have h1 := Int32.le_iff_toInt_le.mp h
  rw [Int32.lt_iff_toInt_lt]
  have h2 : (2 : Int32).toInt = 2 := by decide
  have h3 : (1 : Int32).toInt = 1 := by decide
  omega
theorem v2 {x : Int32} (h : vp_in x 2) : x.toNatClampNeg = 0 ∨ x.toNatClampNeg = 1 := by
  have h1 : ¬ 2 ≤ x.toNatClampNeg := fun q => h (Or.inr q)
  omega
section GU
variable {p : Program} {l : Launch} {e : Env} {R : Room} {s : State} {m : MethodId} {args : Array Value} {below : List Frame} {meth : Method} {c : Code} {H : Heap} {locs : List Loc} {cells slots : Nat} {Q : State → Prop}
variable {cc : ByteArray} {pc : Nat} {ls : Array Slot} {rest : List Value}
theorem gldcwS (hx : p.tables.exec = Jvm.exec) (hb : c.code = cc) {own tx : String} {index q : Nat} (hown : s.vm.findClass own = some m.cls) (hZ : vk_R own index tx q s) (hdg : decode cc pc = .ok (.ldc_w index, 3))
    (k : W p l e R s m args below meth c H locs cells slots Q (F0 m (pc + 3) ls (.ref q :: rest))) : W p l e R s m args below meth c H locs cells slots Q (F0 m pc ls rest) := by
  intro T hT X
  obtain ⟨t, a1, b1⟩ := k T hT X
  refine ⟨t, ?_, b1⟩
  obtain ⟨k1, cf, i, a', hk, hcf, hcp, -, hr, hev'⟩ := Cond.stringRef_spec hown hZ.1
  cases hZ.2.symm.trans hev'
  obtain ⟨k', hk', he⟩ := X.warmed.alike.2.2 _ _ hk
  have hr' : k'.resolved[index]? = some (some (.string q)) := by
    rcases X.warmed.entry hk hk' index with h | ⟨h, -⟩
    · rw [h]; exact hr
    · rw [hr] at h; cases h
  have hd2 : decode c.code (F0 m pc ls rest).pc = .ok (.ldc_w index, 3) := by rw [hb]; exact hdg
  jvm_step X.here [hx, hd2, ldc_w.wp_string (e := e) (s := T) (f := F0 m pc ls rest) X.here.top hk' (by rw [he]; exact hcf) hcp hr']
  exact a1
end GU
theorem e3000 {y n : Int32} (e : y = 0 + n) (a : ¬ n < 0) (b : ¬ 20 < n) : y ≤ 3000 := by
  rw [e, Int32.zero_add]
  have h2 := Int32.le_iff_toInt_le.mp (Int32.not_lt.mp b)
  rw [Int32.le_iff_toInt_le]
  have h3 : (20 : Int32).toInt = 20 := by decide
  have h4 : (3000 : Int32).toInt = 3000 := by decide
  omega
theorem eqn {n i j : Int32} (h1 : n ≤ i) (h2 : ¬ n ≤ j) (hj : j.toInt + 1 = i.toInt) : i = n := by
  have a := Int32.le_iff_toInt_le.mp h1
  have b := Int32.lt_iff_toInt_lt.mp (Int32.not_le.mp h2)
  exact Int32.toInt_inj.mp (by omega)
theorem eq0 {n : Int32} (h1 : n ≤ 0) (h2 : ¬ n < 0) : 0 = n := by
  have a := Int32.le_iff_toInt_le.mp h1
  have b := Int32.le_iff_toInt_le.mp (Int32.not_lt.mp h2)
  exact Int32.toInt_inj.mp (by omega)
end
