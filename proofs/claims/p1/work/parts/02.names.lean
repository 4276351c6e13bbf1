def RX10 : String := "KeySteward$Value"
def RJ10 : String := "java/lang/System"
def RX1 : String := "KeySteward$Bytes"
def TX1 : u_T := fun k => match k with
  | 0 => ("KeySteward$Bytes", "most", "I", true)
  | 1 => ("KeySteward$Bytes", "row", "[B", false)
  | 2 => ("KeySteward$Bytes", "size", "I", false)
  | _ => ("KeySteward$Bytes", "burst", "Z", false)
def tyX1 : Nat → FieldType := fun k => match k with
  | 0 => .int
  | 1 => .array .byte
  | 2 => .int
  | _ => .boolean
theorem nmX1 : ∀ a, a < 4 → ∀ b, b < 4 → a ≠ b → (TX1 a).2.1 ≠ (TX1 b).2.1 := by decide +kernel
theorem tyX1_ok : ∀ k, k < 4 → parseFieldDescriptor (TX1 k).2.2.1 = some (tyX1 k) := by decide +kernel
theorem df_X1 : ∀ j, j < 4 → defaultValue (tyX1 j) = vp_V [.int 0, .null, .int 0, .int 0] j := by decide +kernel
def RX3 : String := "KeySteward$Connection"
def TX3 : u_T := fun k => match k with
  | 0 => ("KeySteward$Connection", "live", "Z", false)
  | 1 => ("KeySteward$Connection", "input", "LKeySteward$Bytes;", true)
  | 2 => ("KeySteward$Connection", "output", "LKeySteward$Bytes;", true)
  | 3 => ("KeySteward$Connection", "block", "LKeySteward$Bytes;", false)
  | 4 => ("KeySteward$Connection", "queues", "Z", false)
  | 5 => ("KeySteward$Connection", "spoilt", "Z", false)
  | 6 => ("KeySteward$Connection", "dirty", "Z", false)
  | 7 => ("KeySteward$Connection", "queued", "I", false)
  | 8 => ("KeySteward$Connection", "watches", "[I", true)
  | 9 => ("KeySteward$Connection", "watchCount", "I", false)
  | 10 => ("KeySteward$Connection", "channels", "[I", true)
  | _ => ("KeySteward$Connection", "channelCount", "I", false)
def tyX3 : Nat → FieldType := fun k => match k with
  | 0 => .boolean
  | 1 => .object "KeySteward$Bytes"
  | 2 => .object "KeySteward$Bytes"
  | 3 => .object "KeySteward$Bytes"
  | 4 => .boolean
  | 5 => .boolean
  | 6 => .boolean
  | 7 => .int
  | 8 => .array .int
  | 9 => .int
  | 10 => .array .int
  | _ => .int
theorem nmX3 : ∀ a, a < 12 → ∀ b, b < 12 → a ≠ b → (TX3 a).2.1 ≠ (TX3 b).2.1 := by decide +kernel
theorem tyX3_ok : ∀ k, k < 12 → parseFieldDescriptor (TX3 k).2.2.1 = some (tyX3 k) := by decide +kernel
theorem df_X3 : ∀ j, j < 12 → defaultValue (tyX3 j) = vp_V [.int 0, .null, .null, .null, .int 0, .int 0, .int 0, .int 0, .null, .int 0, .null, .int 0] j := by decide +kernel
def RX11 : String := "KeySteward$Words"
def TX11 : u_T := fun k => match k with
  | 0 => ("KeySteward$Words", "bytes", "[B", false)
  | 1 => ("KeySteward$Words", "starts", "[I", false)
  | 2 => ("KeySteward$Words", "chain", "[I", false)
  | 3 => ("KeySteward$Words", "heads", "[I", true)
  | _ => ("KeySteward$Words", "count", "I", false)
def tyX11 : Nat → FieldType := fun k => match k with
  | 0 => .array .byte
  | 1 => .array .int
  | 2 => .array .int
  | 3 => .array .int
  | _ => .int
theorem nmX11 : ∀ a, a < 5 → ∀ b, b < 5 → a ≠ b → (TX11 a).2.1 ≠ (TX11 b).2.1 := by decide +kernel
theorem tyX11_ok : ∀ k, k < 5 → parseFieldDescriptor (TX11 k).2.2.1 = some (tyX11 k) := by decide +kernel
theorem df_X11 : ∀ j, j < 5 → defaultValue (tyX11 j) = vp_V [.null, .null, .null, .null, .int 0] j := by decide +kernel
def RX8 : String := "KeySteward$Request"
def TX8 : u_T := fun k => match k with
  | 0 => ("KeySteward$Request", "words", "LKeySteward$Words;", true)
  | 1 => ("KeySteward$Request", "starts", "[I", true)
  | 2 => ("KeySteward$Request", "lengths", "[I", true)
  | 3 => ("KeySteward$Request", "row", "[B", false)
  | 4 => ("KeySteward$Request", "count", "I", false)
  | 5 => ("KeySteward$Request", "next", "I", false)
  | 6 => ("KeySteward$Request", "answer", "LKeySteward$Bytes;", false)
  | 7 => ("KeySteward$Request", "refusal", "Ljava/lang/String;", false)
  | 8 => ("KeySteward$Request", "command", "LKeySteward$Command;", false)
  | 9 => ("KeySteward$Request", "number", "J", false)
  | 10 => ("KeySteward$Request", "first", "J", false)
  | 11 => ("KeySteward$Request", "low", "I", false)
  | 12 => ("KeySteward$Request", "high", "I", false)
  | 13 => ("KeySteward$Request", "form", "I", false)
  | 14 => ("KeySteward$Request", "valueIndex", "I", false)
  | 15 => ("KeySteward$Request", "keeps", "Z", false)
  | _ => ("KeySteward$Request", "time", "J", false)
def tyX8 : Nat → FieldType := fun k => match k with
  | 0 => .object "KeySteward$Words"
  | 1 => .array .int
  | 2 => .array .int
  | 3 => .array .byte
  | 4 => .int
  | 5 => .int
  | 6 => .object "KeySteward$Bytes"
  | 7 => .object "java/lang/String"
  | 8 => .object "KeySteward$Command"
  | 9 => .long
  | 10 => .long
  | 11 => .int
  | 12 => .int
  | 13 => .int
  | 14 => .int
  | 15 => .boolean
  | _ => .long
theorem nmX8 : ∀ a, a < 17 → ∀ b, b < 17 → a ≠ b → (TX8 a).2.1 ≠ (TX8 b).2.1 := by decide +kernel
theorem tyX8_ok : ∀ k, k < 17 → parseFieldDescriptor (TX8 k).2.2.1 = some (tyX8 k) := by decide +kernel
theorem df_X8 : ∀ j, j < 17 → defaultValue (tyX8 j) = vp_V [.null, .null, .null, .null, .int 0, .int 0, .null, .null, .null, .long 0, .long 0, .int 0, .int 0, .int 0, .int 0, .int 0, .long 0] j := by decide +kernel
def RX4 : String := "KeySteward$Keys"
def TX4 : u_T := fun k => match k with
  | 0 => ("KeySteward$Keys", "words", "LKeySteward$Words;", true)
  | 1 => ("KeySteward$Keys", "ask", "LKeySteward$Request;", true)
  | 2 => ("KeySteward$Keys", "watchers", "[LKeySteward$Connection;", true)
  | 3 => ("KeySteward$Keys", "ids", "[I", false)
  | 4 => ("KeySteward$Keys", "slots", "[I", false)
  | 5 => ("KeySteward$Keys", "shelf", "[LKeySteward$Value;", false)
  | 6 => ("KeySteward$Keys", "made", "I", false)
  | 7 => ("KeySteward$Keys", "texts", "[B", false)
  | 8 => ("KeySteward$Keys", "nextTexts", "[B", false)
  | 9 => ("KeySteward$Keys", "textsEnd", "I", false)
  | 10 => ("KeySteward$Keys", "cells", "[J", false)
  | 11 => ("KeySteward$Keys", "nextCells", "[J", false)
  | 12 => ("KeySteward$Keys", "cellsEnd", "I", false)
  | 13 => ("KeySteward$Keys", "count", "I", false)
  | 14 => ("KeySteward$Keys", "memory", "I", false)
  | 15 => ("KeySteward$Keys", "timed", "I", false)
  | 16 => ("KeySteward$Keys", "clock", "J", false)
  | 17 => ("KeySteward$Keys", "replaying", "Z", false)
  | _ => ("KeySteward$Keys", "changed", "Z", false)
def tyX4 : Nat → FieldType := fun k => match k with
  | 0 => .object "KeySteward$Words"
  | 1 => .object "KeySteward$Request"
  | 2 => .array (.object "KeySteward$Connection")
  | 3 => .array .int
  | 4 => .array .int
  | 5 => .array (.object "KeySteward$Value")
  | 6 => .int
  | 7 => .array .byte
  | 8 => .array .byte
  | 9 => .int
  | 10 => .array .long
  | 11 => .array .long
  | 12 => .int
  | 13 => .int
  | 14 => .int
  | 15 => .int
  | 16 => .long
  | 17 => .boolean
  | _ => .boolean
theorem nmX4 : ∀ a, a < 19 → ∀ b, b < 19 → a ≠ b → (TX4 a).2.1 ≠ (TX4 b).2.1 := by decide +kernel
theorem tyX4_ok : ∀ k, k < 19 → parseFieldDescriptor (TX4 k).2.2.1 = some (tyX4 k) := by decide +kernel
theorem df_X4 : ∀ j, j < 19 → defaultValue (tyX4 j) = vp_V [.null, .null, .null, .null, .null, .null, .int 0, .null, .null, .int 0, .null, .null, .int 0, .int 0, .int 0, .int 0, .long 0, .int 0, .int 0] j := by decide +kernel
def RX9 : String := "KeySteward$Texts"
def TX9 : u_T := fun k => match k with
  | 0 => ("KeySteward$Texts", "ask", "LKeySteward$Request;", true)
  | 1 => ("KeySteward$Texts", "keys", "LKeySteward$Keys;", true)
  | 2 => ("KeySteward$Texts", "numeral", "LKeySteward$Bytes;", true)
  | 3 => ("KeySteward$Texts", "condition", "I", false)
  | 4 => ("KeySteward$Texts", "gets", "Z", false)
  | 5 => ("KeySteward$Texts", "timing", "I", false)
  | _ => ("KeySteward$Texts", "timeIndex", "I", false)
def tyX9 : Nat → FieldType := fun k => match k with
  | 0 => .object "KeySteward$Request"
  | 1 => .object "KeySteward$Keys"
  | 2 => .object "KeySteward$Bytes"
  | 3 => .int
  | 4 => .boolean
  | 5 => .int
  | _ => .int
theorem nmX9 : ∀ a, a < 7 → ∀ b, b < 7 → a ≠ b → (TX9 a).2.1 ≠ (TX9 b).2.1 := by decide +kernel
theorem tyX9_ok : ∀ k, k < 7 → parseFieldDescriptor (TX9 k).2.2.1 = some (tyX9 k) := by decide +kernel
theorem df_X9 : ∀ j, j < 7 → defaultValue (tyX9 j) = vp_V [.null, .null, .null, .int 0, .int 0, .int 0, .int 0] j := by decide +kernel
def RX5 : String := "KeySteward$Lists"
def TX5 : u_T := fun k => match k with
  | 0 => ("KeySteward$Lists", "words", "LKeySteward$Words;", true)
  | 1 => ("KeySteward$Lists", "ask", "LKeySteward$Request;", true)
  | _ => ("KeySteward$Lists", "keys", "LKeySteward$Keys;", true)
def tyX5 : Nat → FieldType := fun k => match k with
  | 0 => .object "KeySteward$Words"
  | 1 => .object "KeySteward$Request"
  | _ => .object "KeySteward$Keys"
theorem nmX5 : ∀ a, a < 3 → ∀ b, b < 3 → a ≠ b → (TX5 a).2.1 ≠ (TX5 b).2.1 := by decide +kernel
theorem tyX5_ok : ∀ k, k < 3 → parseFieldDescriptor (TX5 k).2.2.1 = some (tyX5 k) := by decide +kernel
theorem df_X5 : ∀ j, j < 3 → defaultValue (tyX5 j) = vp_V [.null, .null, .null] j := by decide +kernel
def RX6 : String := "KeySteward$Members"
def TX6 : u_T := fun k => match k with
  | 0 => ("KeySteward$Members", "words", "LKeySteward$Words;", true)
  | 1 => ("KeySteward$Members", "ask", "LKeySteward$Request;", true)
  | 2 => ("KeySteward$Members", "keys", "LKeySteward$Keys;", true)
  | 3 => ("KeySteward$Members", "numeral", "LKeySteward$Bytes;", true)
  | 4 => ("KeySteward$Members", "pot", "[I", false)
  | _ => ("KeySteward$Members", "potSize", "I", false)
def tyX6 : Nat → FieldType := fun k => match k with
  | 0 => .object "KeySteward$Words"
  | 1 => .object "KeySteward$Request"
  | 2 => .object "KeySteward$Keys"
  | 3 => .object "KeySteward$Bytes"
  | 4 => .array .int
  | _ => .int
theorem nmX6 : ∀ a, a < 6 → ∀ b, b < 6 → a ≠ b → (TX6 a).2.1 ≠ (TX6 b).2.1 := by decide +kernel
theorem tyX6_ok : ∀ k, k < 6 → parseFieldDescriptor (TX6 k).2.2.1 = some (tyX6 k) := by decide +kernel
theorem df_X6 : ∀ j, j < 6 → defaultValue (tyX6 j) = vp_V [.null, .null, .null, .null, .null, .int 0] j := by decide +kernel
def RX7 : String := "KeySteward$Orders"
def TX7 : u_T := fun k => match k with
  | 0 => ("KeySteward$Orders", "words", "LKeySteward$Words;", true)
  | 1 => ("KeySteward$Orders", "ask", "LKeySteward$Request;", true)
  | 2 => ("KeySteward$Orders", "keys", "LKeySteward$Keys;", true)
  | 3 => ("KeySteward$Orders", "flags", "I", false)
  | 4 => ("KeySteward$Orders", "firstPair", "I", false)
  | 5 => ("KeySteward$Orders", "withScores", "Z", false)
  | 6 => ("KeySteward$Orders", "limitIndex", "I", false)
  | 7 => ("KeySteward$Orders", "excludes", "Z", false)
  | _ => ("KeySteward$Orders", "infinite", "I", false)
def tyX7 : Nat → FieldType := fun k => match k with
  | 0 => .object "KeySteward$Words"
  | 1 => .object "KeySteward$Request"
  | 2 => .object "KeySteward$Keys"
  | 3 => .int
  | 4 => .int
  | 5 => .boolean
  | 6 => .int
  | 7 => .boolean
  | _ => .int
theorem nmX7 : ∀ a, a < 9 → ∀ b, b < 9 → a ≠ b → (TX7 a).2.1 ≠ (TX7 b).2.1 := by decide +kernel
theorem tyX7_ok : ∀ k, k < 9 → parseFieldDescriptor (TX7 k).2.2.1 = some (tyX7 k) := by decide +kernel
theorem df_X7 : ∀ j, j < 9 → defaultValue (tyX7 j) = vp_V [.null, .null, .null, .int 0, .int 0, .int 0, .int 0, .int 0, .int 0] j := by decide +kernel
def RX12 : String := "KeySteward"
def TX12 : u_T := fun k => match k with
  | 0 => ("KeySteward", "tape", "LKeySteward$Bytes;", true)
  | 1 => ("KeySteward", "mute", "LKeySteward$Bytes;", true)
  | 2 => ("KeySteward", "connections", "[LKeySteward$Connection;", true)
  | 3 => ("KeySteward", "words", "LKeySteward$Words;", true)
  | 4 => ("KeySteward", "ask", "LKeySteward$Request;", true)
  | 5 => ("KeySteward", "keys", "LKeySteward$Keys;", true)
  | 6 => ("KeySteward", "texts", "LKeySteward$Texts;", true)
  | 7 => ("KeySteward", "lists", "LKeySteward$Lists;", true)
  | 8 => ("KeySteward", "members", "LKeySteward$Members;", true)
  | 9 => ("KeySteward", "orders", "LKeySteward$Orders;", true)
  | 10 => ("KeySteward", "journal", "LKeySteward$Bytes;", false)
  | 11 => ("KeySteward", "nextJournal", "LKeySteward$Bytes;", false)
  | 12 => ("KeySteward", "running", "LKeySteward$Bytes;", false)
  | 13 => ("KeySteward", "runsBlock", "Z", false)
  | 14 => ("KeySteward", "notedBlock", "Z", false)
  | 15 => ("KeySteward", "blockPlace", "I", false)
  | 16 => ("KeySteward", "fuseLeft", "I", false)
  | _ => ("KeySteward", "up", "Z", false)
def tyX12 : Nat → FieldType := fun k => match k with
  | 0 => .object "KeySteward$Bytes"
  | 1 => .object "KeySteward$Bytes"
  | 2 => .array (.object "KeySteward$Connection")
  | 3 => .object "KeySteward$Words"
  | 4 => .object "KeySteward$Request"
  | 5 => .object "KeySteward$Keys"
  | 6 => .object "KeySteward$Texts"
  | 7 => .object "KeySteward$Lists"
  | 8 => .object "KeySteward$Members"
  | 9 => .object "KeySteward$Orders"
  | 10 => .object "KeySteward$Bytes"
  | 11 => .object "KeySteward$Bytes"
  | 12 => .object "KeySteward$Bytes"
  | 13 => .boolean
  | 14 => .boolean
  | 15 => .int
  | 16 => .int
  | _ => .boolean
theorem nmX12 : ∀ a, a < 18 → ∀ b, b < 18 → a ≠ b → (TX12 a).2.1 ≠ (TX12 b).2.1 := by decide +kernel
theorem tyX12_ok : ∀ k, k < 18 → parseFieldDescriptor (TX12 k).2.2.1 = some (tyX12 k) := by decide +kernel
theorem df_X12 : ∀ j, j < 18 → defaultValue (tyX12 j) = vp_V [.null, .null, .null, .null, .null, .null, .null, .null, .null, .null, .null, .null, .null, .int 0, .int 0, .int 0, .int 0, .int 0] j := by decide +kernel
def RX13 : String := "KeyStewardModel"
def TX13 : u_T := fun k => match k with
  | 0 => ("KeyStewardModel", "thrownCode", "I", false)
  | 1 => ("KeyStewardModel", "nameA", "[J", true)
  | 2 => ("KeyStewardModel", "nameB", "[J", true)
  | 3 => ("KeyStewardModel", "least", "[I", true)
  | 4 => ("KeyStewardModel", "most", "[I", true)
  | 5 => ("KeyStewardModel", "heavy", "[Z", true)
  | 6 => ("KeyStewardModel", "defined", "I", false)
  | 7 => ("KeyStewardModel", "heap", "[B", true)
  | 8 => ("KeyStewardModel", "heap2", "[B", true)
  | 9 => ("KeyStewardModel", "heapSize", "I", false)
  | 10 => ("KeyStewardModel", "keys", "I", false)
  | 11 => ("KeyStewardModel", "order", "[I", true)
  | 12 => ("KeyStewardModel", "kFree", "[I", true)
  | 13 => ("KeyStewardModel", "kFrees", "I", false)
  | 14 => ("KeyStewardModel", "kAt", "[I", true)
  | 15 => ("KeyStewardModel", "kLen", "[I", true)
  | 16 => ("KeyStewardModel", "kSort", "[I", true)
  | 17 => ("KeyStewardModel", "kTime", "[J", true)
  | 18 => ("KeyStewardModel", "kTimed", "[Z", true)
  | 19 => ("KeyStewardModel", "kHead", "[I", true)
  | 20 => ("KeyStewardModel", "kTail", "[I", true)
  | 21 => ("KeyStewardModel", "kMany", "[I", true)
  | 22 => ("KeyStewardModel", "tAt", "[I", true)
  | 23 => ("KeyStewardModel", "tLen", "[I", true)
  | 24 => ("KeyStewardModel", "eNext", "[I", true)
  | 25 => ("KeyStewardModel", "ePrev", "[I", true)
  | 26 => ("KeyStewardModel", "eAt", "[I", true)
  | 27 => ("KeyStewardModel", "eLen", "[I", true)
  | 28 => ("KeyStewardModel", "vAt", "[I", true)
  | 29 => ("KeyStewardModel", "vLen", "[I", true)
  | 30 => ("KeyStewardModel", "eScore", "[J", true)
  | 31 => ("KeyStewardModel", "eFree", "I", false)
  | 32 => ("KeyStewardModel", "req", "[B", true)
  | 33 => ("KeyStewardModel", "reqSize", "I", false)
  | 34 => ("KeyStewardModel", "aAt", "[I", true)
  | 35 => ("KeyStewardModel", "aLen", "[I", true)
  | 36 => ("KeyStewardModel", "words", "I", false)
  | 37 => ("KeyStewardModel", "opened", "[Z", true)
  | 38 => ("KeyStewardModel", "input", "[B", true)
  | 39 => ("KeyStewardModel", "inSize", "[I", true)
  | 40 => ("KeyStewardModel", "output", "[B", true)
  | 41 => ("KeyStewardModel", "outSize", "[I", true)
  | 42 => ("KeyStewardModel", "blocked", "[Z", true)
  | 43 => ("KeyStewardModel", "spoilt", "[Z", true)
  | 44 => ("KeyStewardModel", "queue", "[B", true)
  | 45 => ("KeyStewardModel", "queueEnd", "I", false)
  | 46 => ("KeyStewardModel", "queuedAt", "[I", true)
  | 47 => ("KeyStewardModel", "queued", "[I", true)
  | 48 => ("KeyStewardModel", "watches", "[I", true)
  | 49 => ("KeyStewardModel", "watchText", "[B", true)
  | 50 => ("KeyStewardModel", "watchEnd", "I", false)
  | 51 => ("KeyStewardModel", "watchAt", "[I", true)
  | 52 => ("KeyStewardModel", "watchLen", "[I", true)
  | 53 => ("KeyStewardModel", "disturbed", "[Z", true)
  | 54 => ("KeyStewardModel", "channels", "[I", true)
  | 55 => ("KeyStewardModel", "channelText", "[B", true)
  | 56 => ("KeyStewardModel", "channelEnd", "I", false)
  | 57 => ("KeyStewardModel", "channelAt", "[I", true)
  | 58 => ("KeyStewardModel", "channelLen", "[I", true)
  | 59 => ("KeyStewardModel", "answer", "[B", true)
  | 60 => ("KeyStewardModel", "answerSize", "I", false)
  | 61 => ("KeyStewardModel", "tooLong", "Z", false)
  | 62 => ("KeyStewardModel", "digits", "[B", true)
  | 63 => ("KeyStewardModel", "digitsSize", "I", false)
  | 64 => ("KeyStewardModel", "disk", "[B", true)
  | 65 => ("KeyStewardModel", "diskSize", "I", false)
  | 66 => ("KeyStewardModel", "pending", "[B", true)
  | 67 => ("KeyStewardModel", "pendingSize", "I", false)
  | 68 => ("KeyStewardModel", "burning", "I", false)
  | 69 => ("KeyStewardModel", "up", "Z", false)
  | 70 => ("KeyStewardModel", "replays", "Z", false)
  | 71 => ("KeyStewardModel", "inBlock", "Z", false)
  | 72 => ("KeyStewardModel", "now0", "J", false)
  | 73 => ("KeyStewardModel", "spelt", "[B", true)
  | 74 => ("KeyStewardModel", "num", "J", false)
  | 75 => ("KeyStewardModel", "n1", "J", false)
  | 76 => ("KeyStewardModel", "n2", "J", false)
  | 77 => ("KeyStewardModel", "optNx", "Z", false)
  | 78 => ("KeyStewardModel", "optXx", "Z", false)
  | 79 => ("KeyStewardModel", "optGet", "Z", false)
  | 80 => ("KeyStewardModel", "optKeep", "Z", false)
  | 81 => ("KeyStewardModel", "optGt", "Z", false)
  | 82 => ("KeyStewardModel", "optLt", "Z", false)
  | 83 => ("KeyStewardModel", "optCh", "Z", false)
  | 84 => ("KeyStewardModel", "optIncr", "Z", false)
  | 85 => ("KeyStewardModel", "optScores", "Z", false)
  | 86 => ("KeyStewardModel", "optLimit", "Z", false)
  | 87 => ("KeyStewardModel", "limitFrom", "J", false)
  | 88 => ("KeyStewardModel", "limitMany", "J", false)
  | 89 => ("KeyStewardModel", "timed", "Z", false)
  | 90 => ("KeyStewardModel", "time", "J", false)
  | 91 => ("KeyStewardModel", "pairs", "I", false)
  | 92 => ("KeyStewardModel", "lowScore", "J", false)
  | 93 => ("KeyStewardModel", "highScore", "J", false)
  | 94 => ("KeyStewardModel", "noScore", "Z", false)
  | 95 => ("KeyStewardModel", "limitAt", "I", false)
  | 96 => ("KeyStewardModel", "work", "[B", true)
  | 97 => ("KeyStewardModel", "workSize", "I", false)
  | 98 => ("KeyStewardModel", "from", "I", false)
  | 99 => ("KeyStewardModel", "upTo", "I", false)
  | 100 => ("KeyStewardModel", "behindSet", "I", false)
  | 101 => ("KeyStewardModel", "found", "I", false)
  | 102 => ("KeyStewardModel", "pile", "[B", true)
  | 103 => ("KeyStewardModel", "pileSize", "I", false)
  | 104 => ("KeyStewardModel", "mAt", "[I", true)
  | 105 => ("KeyStewardModel", "mLen", "[I", true)
  | 106 => ("KeyStewardModel", "members", "I", false)
  | 107 => ("KeyStewardModel", "cur", "I", false)
  | 108 => ("KeyStewardModel", "held", "[B", true)
  | 109 => ("KeyStewardModel", "lineNumber", "I", false)
  | 110 => ("KeyStewardModel", "lineEnd", "I", false)
  | 111 => ("KeyStewardModel", "faultWord", "I", false)
  | 112 => ("KeyStewardModel", "tape", "[B", true)
  | 113 => ("KeyStewardModel", "tapeSize", "I", false)
  | 114 => ("KeyStewardModel", "line0", "[B", true)
  | _ => ("KeyStewardModel", "logCommand", "I", false)
def tyX13 : Nat → FieldType := fun k => match k with
  | 0 => .int
  | 1 => .array .long
  | 2 => .array .long
  | 3 => .array .int
  | 4 => .array .int
  | 5 => .array .boolean
  | 6 => .int
  | 7 => .array .byte
  | 8 => .array .byte
  | 9 => .int
  | 10 => .int
  | 11 => .array .int
  | 12 => .array .int
  | 13 => .int
  | 14 => .array .int
  | 15 => .array .int
  | 16 => .array .int
  | 17 => .array .long
  | 18 => .array .boolean
  | 19 => .array .int
  | 20 => .array .int
  | 21 => .array .int
  | 22 => .array .int
  | 23 => .array .int
  | 24 => .array .int
  | 25 => .array .int
  | 26 => .array .int
  | 27 => .array .int
  | 28 => .array .int
  | 29 => .array .int
  | 30 => .array .long
  | 31 => .int
  | 32 => .array .byte
  | 33 => .int
  | 34 => .array .int
  | 35 => .array .int
  | 36 => .int
  | 37 => .array .boolean
  | 38 => .array .byte
  | 39 => .array .int
  | 40 => .array .byte
  | 41 => .array .int
  | 42 => .array .boolean
  | 43 => .array .boolean
  | 44 => .array .byte
  | 45 => .int
  | 46 => .array .int
  | 47 => .array .int
  | 48 => .array .int
  | 49 => .array .byte
  | 50 => .int
  | 51 => .array .int
  | 52 => .array .int
  | 53 => .array .boolean
  | 54 => .array .int
  | 55 => .array .byte
  | 56 => .int
  | 57 => .array .int
  | 58 => .array .int
  | 59 => .array .byte
  | 60 => .int
  | 61 => .boolean
  | 62 => .array .byte
  | 63 => .int
  | 64 => .array .byte
  | 65 => .int
  | 66 => .array .byte
  | 67 => .int
  | 68 => .int
  | 69 => .boolean
  | 70 => .boolean
  | 71 => .boolean
  | 72 => .long
  | 73 => .array .byte
  | 74 => .long
  | 75 => .long
  | 76 => .long
  | 77 => .boolean
  | 78 => .boolean
  | 79 => .boolean
  | 80 => .boolean
  | 81 => .boolean
  | 82 => .boolean
  | 83 => .boolean
  | 84 => .boolean
  | 85 => .boolean
  | 86 => .boolean
  | 87 => .long
  | 88 => .long
  | 89 => .boolean
  | 90 => .long
  | 91 => .int
  | 92 => .long
  | 93 => .long
  | 94 => .boolean
  | 95 => .int
  | 96 => .array .byte
  | 97 => .int
  | 98 => .int
  | 99 => .int
  | 100 => .int
  | 101 => .int
  | 102 => .array .byte
  | 103 => .int
  | 104 => .array .int
  | 105 => .array .int
  | 106 => .int
  | 107 => .int
  | 108 => .array .byte
  | 109 => .int
  | 110 => .int
  | 111 => .int
  | 112 => .array .byte
  | 113 => .int
  | 114 => .array .byte
  | _ => .int
theorem nmX13 : ∀ a, a < 116 → ∀ b, b < 116 → a ≠ b → (TX13 a).2.1 ≠ (TX13 b).2.1 := by decide +kernel
theorem tyX13_ok : ∀ k, k < 116 → parseFieldDescriptor (TX13 k).2.2.1 = some (tyX13 k) := by decide +kernel
theorem df_X13 : ∀ j, j < 116 → defaultValue (tyX13 j) = vp_V [.int 0, .null, .null, .null, .null, .null, .int 0, .null, .null, .int 0, .int 0, .null, .null, .int 0, .null, .null, .null, .null, .null, .null, .null, .null, .null, .null, .null, .null, .null, .null, .null, .null, .null, .int 0, .null, .int 0, .null, .null, .int 0, .null, .null, .null, .null, .null, .null, .null, .null, .int 0, .null, .null, .null, .null, .int 0, .null, .null, .null, .null, .null, .int 0, .null, .null, .null, .int 0, .int 0, .null, .int 0, .null, .int 0, .null, .int 0, .int 0, .int 0, .int 0, .int 0, .long 0, .null, .long 0, .long 0, .long 0, .int 0, .int 0, .int 0, .int 0, .int 0, .int 0, .int 0, .int 0, .int 0, .int 0, .long 0, .long 0, .int 0, .long 0, .int 0, .long 0, .long 0, .int 0, .int 0, .null, .int 0, .int 0, .int 0, .int 0, .int 0, .null, .int 0, .null, .null, .int 0, .int 0, .null, .int 0, .int 0, .int 0, .null, .int 0, .null, .int 0] j := by decide +kernel
def RL : String := "KeyStewardLaw"
abbrev cX1_init : ByteArray := prog_3_method_1_code
def yX1_init : MethodName := ⟨RX1, "<init>", "(I)V"⟩
abbrev cX1_empty : ByteArray := prog_3_method_2_code
def yX1_empty : MethodName := ⟨RX1, "empty", "()V"⟩
abbrev cX1_room : ByteArray := prog_3_method_3_code
def yX1_room : MethodName := ⟨RX1, "room", "(I)Z"⟩
abbrev cX1_four : ByteArray := prog_3_method_5_code
def yX1_four : MethodName := ⟨RX1, "four", "(I)V"⟩
abbrev cX1_append : ByteArray := prog_3_method_6_code
def yX1_append : MethodName := ⟨RX1, "append", "([BII)V"⟩
abbrev cX1_drop : ByteArray := prog_3_method_7_code
def yX1_drop : MethodName := ⟨RX1, "drop", "(I)V"⟩
abbrev cX1_cut : ByteArray := prog_3_method_8_code
def yX1_cut : MethodName := ⟨RX1, "cut", "(I)V"⟩
abbrev cX3_init : ByteArray := prog_5_method_1_code
def yX3_init : MethodName := ⟨RX3, "<init>", "()V"⟩
abbrev cX3_close : ByteArray := prog_5_method_2_code
def yX3_close : MethodName := ⟨RX3, "close", "()V"⟩
abbrev cX3_endBlock : ByteArray := prog_5_method_3_code
def yX3_endBlock : MethodName := ⟨RX3, "endBlock", "()V"⟩
abbrev cX3_unwatch : ByteArray := prog_5_method_4_code
def yX3_unwatch : MethodName := ⟨RX3, "unwatch", "()V"⟩
abbrev cX4_init : ByteArray := prog_6_method_1_code
def yX4_init : MethodName := ⟨RX4, "<init>", "(LKeySteward$Words;LKeySteward$Request;[LKeySteward$Connection;)V"⟩
abbrev cX5_init : ByteArray := prog_7_method_1_code
def yX5_init : MethodName := ⟨RX5, "<init>", "(LKeySteward$Words;LKeySteward$Request;LKeySteward$Keys;)V"⟩
abbrev cX6_init : ByteArray := prog_8_method_1_code
def yX6_init : MethodName := ⟨RX6, "<init>", "(LKeySteward$Words;LKeySteward$Request;LKeySteward$Keys;)V"⟩
abbrev cX7_init : ByteArray := prog_9_method_1_code
def yX7_init : MethodName := ⟨RX7, "<init>", "(LKeySteward$Words;LKeySteward$Request;LKeySteward$Keys;)V"⟩
abbrev cX8_init : ByteArray := prog_10_method_1_code
def yX8_init : MethodName := ⟨RX8, "<init>", "(LKeySteward$Words;)V"⟩
abbrev cX8_read : ByteArray := prog_10_method_2_code
def yX8_read : MethodName := ⟨RX8, "read", "([BII)I"⟩
abbrev cX9_init : ByteArray := prog_11_method_1_code
def yX9_init : MethodName := ⟨RX9, "<init>", "(LKeySteward$Request;LKeySteward$Keys;)V"⟩
abbrev cX11_init : ByteArray := prog_13_method_1_code
def yX11_init : MethodName := ⟨RX11, "<init>", "()V"⟩
def kwW : List Cond := [.methodLink RX1 3 objectInit,
  .instanceMethod objectInit,
  .code objectInit ⟨#[0xb1]⟩ 1 none,
  .arrayClass .byte,
  .fieldLink RX1 11 "KeySteward$Bytes" "row" "[B",
  .fieldLink RX1 15 "KeySteward$Bytes" "most" "I",
  .fieldLink RX1 19 "KeySteward$Bytes" "size" "I",
  .fieldLink RX1 22 "KeySteward$Bytes" "burst" "Z",
  .code yX1_room cX1_room 3 (some .boolean),
  .initialized RX1,
  .methodLink RX1 41 yX1_room,
  .instanceMethod yX1_room,
  .selects RX1 yX1_room yX1_room,
  .methodLink RX1 45 arraycopyName,
  .native arraycopyName,
  .static arraycopyName,
  .initialized RJ10,
  .methodLink RX3 3 objectInit,
  .fieldLink RX3 9 "KeySteward$Connection" "live" "Z",
  .classLink RX3 15 RX1,
  .instantiable RX1 4,
  .constant RX3 17 (131076),
  .code yX1_init cX1_init 2 none,
  .methodLink RX3 18 yX1_init,
  .instanceMethod yX1_init,
  .fieldLink RX3 21 "KeySteward$Connection" "input" "LKeySteward$Bytes;",
  .constant RX3 25 (65536),
  .fieldLink RX3 26 "KeySteward$Connection" "output" "LKeySteward$Bytes;",
  .constant RX3 29 (67108864),
  .fieldLink RX3 30 "KeySteward$Connection" "block" "LKeySteward$Bytes;",
  .arrayClass .int,
  .fieldLink RX3 33 "KeySteward$Connection" "watches" "[I",
  .fieldLink RX3 37 "KeySteward$Connection" "channels" "[I",
  .fieldLink RX3 62 "KeySteward$Connection" "watchCount" "I",
  .fieldLink RX3 65 "KeySteward$Connection" "dirty" "Z",
  .fieldLink RX3 50 "KeySteward$Connection" "queues" "Z",
  .fieldLink RX3 53 "KeySteward$Connection" "spoilt" "Z",
  .fieldLink RX3 56 "KeySteward$Connection" "queued" "I",
  .code yX1_empty cX1_empty 1 none,
  .methodLink RX3 40 yX1_empty,
  .instanceMethod yX1_empty,
  .selects RX1 yX1_empty yX1_empty,
  .code yX3_unwatch cX3_unwatch 1 none,
  .initialized RX3,
  .methodLink RX3 59 yX3_unwatch,
  .instanceMethod yX3_unwatch,
  .selects RX3 yX3_unwatch yX3_unwatch,
  .code yX3_endBlock cX3_endBlock 1 none,
  .methodLink RX3 43 yX3_endBlock,
  .instanceMethod yX3_endBlock,
  .selects RX3 yX3_endBlock yX3_endBlock,
  .fieldLink RX3 46 "KeySteward$Connection" "channelCount" "I",
  .methodLink RX11 3 objectInit,
  .fieldLink RX11 9 "KeySteward$Words" "bytes" "[B",
  .fieldLink RX11 15 "KeySteward$Words" "starts" "[I",
  .fieldLink RX11 19 "KeySteward$Words" "chain" "[I",
  .fieldLink RX11 22 "KeySteward$Words" "heads" "[I",
  .methodLink RX8 3 objectInit,
  .fieldLink RX8 11 "KeySteward$Request" "starts" "[I",
  .fieldLink RX8 15 "KeySteward$Request" "lengths" "[I",
  .fieldLink RX8 18 "KeySteward$Request" "row" "[B",
  .fieldLink RX8 22 "KeySteward$Request" "words" "LKeySteward$Words;",
  .classLink RX8 26 RX1,
  .methodLink RX8 28 yX1_init,
  .fieldLink RX8 31 "KeySteward$Request" "answer" "LKeySteward$Bytes;",
  .methodLink RX4 3 objectInit,
  .fieldLink RX4 9 "KeySteward$Keys" "ids" "[I",
  .fieldLink RX4 15 "KeySteward$Keys" "slots" "[I",
  .classLink RX4 18 RX10,
  .fieldLink RX4 20 "KeySteward$Keys" "shelf" "[LKeySteward$Value;",
  .fieldLink RX4 24 "KeySteward$Keys" "texts" "[B",
  .fieldLink RX4 28 "KeySteward$Keys" "nextTexts" "[B",
  .arrayClass .long,
  .fieldLink RX4 31 "KeySteward$Keys" "cells" "[J",
  .fieldLink RX4 35 "KeySteward$Keys" "nextCells" "[J",
  .fieldLink RX4 38 "KeySteward$Keys" "words" "LKeySteward$Words;",
  .fieldLink RX4 42 "KeySteward$Keys" "ask" "LKeySteward$Request;",
  .fieldLink RX4 46 "KeySteward$Keys" "watchers" "[LKeySteward$Connection;",
  .methodLink RX9 3 objectInit,
  .classLink RX9 9 RX1,
  .methodLink RX9 11 yX1_init,
  .fieldLink RX9 14 "KeySteward$Texts" "numeral" "LKeySteward$Bytes;",
  .fieldLink RX9 20 "KeySteward$Texts" "ask" "LKeySteward$Request;",
  .fieldLink RX9 24 "KeySteward$Texts" "keys" "LKeySteward$Keys;",
  .methodLink RX5 3 objectInit,
  .fieldLink RX5 9 "KeySteward$Lists" "words" "LKeySteward$Words;",
  .fieldLink RX5 15 "KeySteward$Lists" "ask" "LKeySteward$Request;",
  .fieldLink RX5 19 "KeySteward$Lists" "keys" "LKeySteward$Keys;",
  .methodLink RX6 3 objectInit,
  .classLink RX6 9 RX1,
  .methodLink RX6 11 yX1_init,
  .fieldLink RX6 14 "KeySteward$Members" "numeral" "LKeySteward$Bytes;",
  .fieldLink RX6 20 "KeySteward$Members" "pot" "[I",
  .fieldLink RX6 24 "KeySteward$Members" "words" "LKeySteward$Words;",
  .fieldLink RX6 28 "KeySteward$Members" "ask" "LKeySteward$Request;",
  .fieldLink RX6 32 "KeySteward$Members" "keys" "LKeySteward$Keys;",
  .methodLink RX7 3 objectInit,
  .fieldLink RX7 9 "KeySteward$Orders" "words" "LKeySteward$Words;",
  .fieldLink RX7 15 "KeySteward$Orders" "ask" "LKeySteward$Request;",
  .fieldLink RX7 19 "KeySteward$Orders" "keys" "LKeySteward$Keys;",
  .fieldLink RX8 35 "KeySteward$Request" "count" "I",
  .fieldLink RX8 39 "KeySteward$Request" "next" "I"]
def kwF : List Cond := u_ws RX1 TX1 4 ++ (u_ws RX3 TX3 12 ++ (u_ws RX11 TX11 5 ++ (u_ws RX8 TX8 17 ++ (u_ws RX4 TX4 19 ++ (u_ws RX9 TX9 7 ++ (u_ws RX5 TX5 3 ++ (u_ws RX6 TX6 6 ++ (u_ws RX7 TX7 9 ++ (u_ws RX12 TX12 18 ++ (u_ws RX13 TX13 116))))))))))
def kw : List Cond := kwW ++ kwF
theorem kwW_good : kwW.all goodWord = true := by decide +kernel
theorem kwF_good : kwF.all goodWord = true := by decide +kernel
theorem kw_good (w : Cond) (h : w ∈ kw) : goodWord w = true := (List.mem_append.mp h).elim (List.all_eq_true.mp kwW_good w) (List.all_eq_true.mp kwF_good w)
theorem m_0 : Cond.methodLink RX1 3 objectInit ∈ kw := List.mem_append_left _ (List.mem_of_getElem? (i := 0) (by decide +kernel))
theorem m_1 : Cond.instanceMethod objectInit ∈ kw := List.mem_append_left _ (List.mem_of_getElem? (i := 1) (by decide +kernel))
theorem m_2 : Cond.code objectInit ⟨#[0xb1]⟩ 1 none ∈ kw := List.mem_append_left _ (List.mem_of_getElem? (i := 2) rfl)
theorem m_3 : Cond.arrayClass .byte ∈ kw := List.mem_append_left _ (List.mem_of_getElem? (i := 3) (by decide +kernel))
theorem m_4 : Cond.fieldLink RX1 11 "KeySteward$Bytes" "row" "[B" ∈ kw := List.mem_append_left _ (List.mem_of_getElem? (i := 4) (by decide +kernel))
theorem m_5 : Cond.fieldLink RX1 15 "KeySteward$Bytes" "most" "I" ∈ kw := List.mem_append_left _ (List.mem_of_getElem? (i := 5) (by decide +kernel))
theorem m_6 : Cond.fieldLink RX1 19 "KeySteward$Bytes" "size" "I" ∈ kw := List.mem_append_left _ (List.mem_of_getElem? (i := 6) (by decide +kernel))
theorem m_7 : Cond.fieldLink RX1 22 "KeySteward$Bytes" "burst" "Z" ∈ kw := List.mem_append_left _ (List.mem_of_getElem? (i := 7) (by decide +kernel))
theorem m_8 : Cond.code yX1_room cX1_room 3 (some .boolean) ∈ kw := List.mem_append_left _ (List.mem_of_getElem? (i := 8) rfl)
theorem m_9 : Cond.initialized RX1 ∈ kw := List.mem_append_left _ (List.mem_of_getElem? (i := 9) (by decide +kernel))
theorem m_10 : Cond.methodLink RX1 41 yX1_room ∈ kw := List.mem_append_left _ (List.mem_of_getElem? (i := 10) (by decide +kernel))
theorem m_11 : Cond.instanceMethod yX1_room ∈ kw := List.mem_append_left _ (List.mem_of_getElem? (i := 11) (by decide +kernel))
theorem m_12 : Cond.selects RX1 yX1_room yX1_room ∈ kw := List.mem_append_left _ (List.mem_of_getElem? (i := 12) (by decide +kernel))
theorem m_13 : Cond.methodLink RX1 45 arraycopyName ∈ kw := List.mem_append_left _ (List.mem_of_getElem? (i := 13) (by decide +kernel))
theorem m_14 : Cond.native arraycopyName ∈ kw := List.mem_append_left _ (List.mem_of_getElem? (i := 14) (by decide +kernel))
theorem m_15 : Cond.static arraycopyName ∈ kw := List.mem_append_left _ (List.mem_of_getElem? (i := 15) (by decide +kernel))
theorem m_16 : Cond.initialized RJ10 ∈ kw := List.mem_append_left _ (List.mem_of_getElem? (i := 16) (by decide +kernel))
theorem m_17 : Cond.methodLink RX3 3 objectInit ∈ kw := List.mem_append_left _ (List.mem_of_getElem? (i := 17) (by decide +kernel))
theorem m_18 : Cond.fieldLink RX3 9 "KeySteward$Connection" "live" "Z" ∈ kw := List.mem_append_left _ (List.mem_of_getElem? (i := 18) (by decide +kernel))
theorem m_19 : Cond.classLink RX3 15 RX1 ∈ kw := List.mem_append_left _ (List.mem_of_getElem? (i := 19) (by decide +kernel))
theorem m_20 : Cond.instantiable RX1 4 ∈ kw := List.mem_append_left _ (List.mem_of_getElem? (i := 20) (by decide +kernel))
theorem m_21 : Cond.constant RX3 17 (131076) ∈ kw := List.mem_append_left _ (List.mem_of_getElem? (i := 21) (by decide +kernel))
theorem m_22 : Cond.code yX1_init cX1_init 2 none ∈ kw := List.mem_append_left _ (List.mem_of_getElem? (i := 22) rfl)
theorem m_23 : Cond.methodLink RX3 18 yX1_init ∈ kw := List.mem_append_left _ (List.mem_of_getElem? (i := 23) (by decide +kernel))
theorem m_24 : Cond.instanceMethod yX1_init ∈ kw := List.mem_append_left _ (List.mem_of_getElem? (i := 24) (by decide +kernel))
theorem m_25 : Cond.fieldLink RX3 21 "KeySteward$Connection" "input" "LKeySteward$Bytes;" ∈ kw := List.mem_append_left _ (List.mem_of_getElem? (i := 25) (by decide +kernel))
theorem m_26 : Cond.constant RX3 25 (65536) ∈ kw := List.mem_append_left _ (List.mem_of_getElem? (i := 26) (by decide +kernel))
theorem m_27 : Cond.fieldLink RX3 26 "KeySteward$Connection" "output" "LKeySteward$Bytes;" ∈ kw := List.mem_append_left _ (List.mem_of_getElem? (i := 27) (by decide +kernel))
theorem m_28 : Cond.constant RX3 29 (67108864) ∈ kw := List.mem_append_left _ (List.mem_of_getElem? (i := 28) (by decide +kernel))
theorem m_29 : Cond.fieldLink RX3 30 "KeySteward$Connection" "block" "LKeySteward$Bytes;" ∈ kw := List.mem_append_left _ (List.mem_of_getElem? (i := 29) (by decide +kernel))
theorem m_30 : Cond.arrayClass .int ∈ kw := List.mem_append_left _ (List.mem_of_getElem? (i := 30) (by decide +kernel))
theorem m_31 : Cond.fieldLink RX3 33 "KeySteward$Connection" "watches" "[I" ∈ kw := List.mem_append_left _ (List.mem_of_getElem? (i := 31) (by decide +kernel))
theorem m_32 : Cond.fieldLink RX3 37 "KeySteward$Connection" "channels" "[I" ∈ kw := List.mem_append_left _ (List.mem_of_getElem? (i := 32) (by decide +kernel))
theorem m_33 : Cond.fieldLink RX3 62 "KeySteward$Connection" "watchCount" "I" ∈ kw := List.mem_append_left _ (List.mem_of_getElem? (i := 33) (by decide +kernel))
theorem m_34 : Cond.fieldLink RX3 65 "KeySteward$Connection" "dirty" "Z" ∈ kw := List.mem_append_left _ (List.mem_of_getElem? (i := 34) (by decide +kernel))
theorem m_35 : Cond.fieldLink RX3 50 "KeySteward$Connection" "queues" "Z" ∈ kw := List.mem_append_left _ (List.mem_of_getElem? (i := 35) (by decide +kernel))
theorem m_36 : Cond.fieldLink RX3 53 "KeySteward$Connection" "spoilt" "Z" ∈ kw := List.mem_append_left _ (List.mem_of_getElem? (i := 36) (by decide +kernel))
theorem m_37 : Cond.fieldLink RX3 56 "KeySteward$Connection" "queued" "I" ∈ kw := List.mem_append_left _ (List.mem_of_getElem? (i := 37) (by decide +kernel))
theorem m_38 : Cond.code yX1_empty cX1_empty 1 none ∈ kw := List.mem_append_left _ (List.mem_of_getElem? (i := 38) rfl)
theorem m_39 : Cond.methodLink RX3 40 yX1_empty ∈ kw := List.mem_append_left _ (List.mem_of_getElem? (i := 39) (by decide +kernel))
theorem m_40 : Cond.instanceMethod yX1_empty ∈ kw := List.mem_append_left _ (List.mem_of_getElem? (i := 40) (by decide +kernel))
theorem m_41 : Cond.selects RX1 yX1_empty yX1_empty ∈ kw := List.mem_append_left _ (List.mem_of_getElem? (i := 41) (by decide +kernel))
theorem m_42 : Cond.code yX3_unwatch cX3_unwatch 1 none ∈ kw := List.mem_append_left _ (List.mem_of_getElem? (i := 42) rfl)
theorem m_43 : Cond.initialized RX3 ∈ kw := List.mem_append_left _ (List.mem_of_getElem? (i := 43) (by decide +kernel))
theorem m_44 : Cond.methodLink RX3 59 yX3_unwatch ∈ kw := List.mem_append_left _ (List.mem_of_getElem? (i := 44) (by decide +kernel))
theorem m_45 : Cond.instanceMethod yX3_unwatch ∈ kw := List.mem_append_left _ (List.mem_of_getElem? (i := 45) (by decide +kernel))
theorem m_46 : Cond.selects RX3 yX3_unwatch yX3_unwatch ∈ kw := List.mem_append_left _ (List.mem_of_getElem? (i := 46) (by decide +kernel))
theorem m_47 : Cond.code yX3_endBlock cX3_endBlock 1 none ∈ kw := List.mem_append_left _ (List.mem_of_getElem? (i := 47) rfl)
theorem m_48 : Cond.methodLink RX3 43 yX3_endBlock ∈ kw := List.mem_append_left _ (List.mem_of_getElem? (i := 48) (by decide +kernel))
theorem m_49 : Cond.instanceMethod yX3_endBlock ∈ kw := List.mem_append_left _ (List.mem_of_getElem? (i := 49) (by decide +kernel))
theorem m_50 : Cond.selects RX3 yX3_endBlock yX3_endBlock ∈ kw := List.mem_append_left _ (List.mem_of_getElem? (i := 50) (by decide +kernel))
theorem m_51 : Cond.fieldLink RX3 46 "KeySteward$Connection" "channelCount" "I" ∈ kw := List.mem_append_left _ (List.mem_of_getElem? (i := 51) (by decide +kernel))
theorem m_52 : Cond.methodLink RX11 3 objectInit ∈ kw := List.mem_append_left _ (List.mem_of_getElem? (i := 52) (by decide +kernel))
theorem m_53 : Cond.fieldLink RX11 9 "KeySteward$Words" "bytes" "[B" ∈ kw := List.mem_append_left _ (List.mem_of_getElem? (i := 53) (by decide +kernel))
theorem m_54 : Cond.fieldLink RX11 15 "KeySteward$Words" "starts" "[I" ∈ kw := List.mem_append_left _ (List.mem_of_getElem? (i := 54) (by decide +kernel))
theorem m_55 : Cond.fieldLink RX11 19 "KeySteward$Words" "chain" "[I" ∈ kw := List.mem_append_left _ (List.mem_of_getElem? (i := 55) (by decide +kernel))
theorem m_56 : Cond.fieldLink RX11 22 "KeySteward$Words" "heads" "[I" ∈ kw := List.mem_append_left _ (List.mem_of_getElem? (i := 56) (by decide +kernel))
theorem m_57 : Cond.methodLink RX8 3 objectInit ∈ kw := List.mem_append_left _ (List.mem_of_getElem? (i := 57) (by decide +kernel))
theorem m_58 : Cond.fieldLink RX8 11 "KeySteward$Request" "starts" "[I" ∈ kw := List.mem_append_left _ (List.mem_of_getElem? (i := 58) (by decide +kernel))
theorem m_59 : Cond.fieldLink RX8 15 "KeySteward$Request" "lengths" "[I" ∈ kw := List.mem_append_left _ (List.mem_of_getElem? (i := 59) (by decide +kernel))
theorem m_60 : Cond.fieldLink RX8 18 "KeySteward$Request" "row" "[B" ∈ kw := List.mem_append_left _ (List.mem_of_getElem? (i := 60) (by decide +kernel))
theorem m_61 : Cond.fieldLink RX8 22 "KeySteward$Request" "words" "LKeySteward$Words;" ∈ kw := List.mem_append_left _ (List.mem_of_getElem? (i := 61) (by decide +kernel))
theorem m_62 : Cond.classLink RX8 26 RX1 ∈ kw := List.mem_append_left _ (List.mem_of_getElem? (i := 62) (by decide +kernel))
theorem m_63 : Cond.methodLink RX8 28 yX1_init ∈ kw := List.mem_append_left _ (List.mem_of_getElem? (i := 63) (by decide +kernel))
theorem m_64 : Cond.fieldLink RX8 31 "KeySteward$Request" "answer" "LKeySteward$Bytes;" ∈ kw := List.mem_append_left _ (List.mem_of_getElem? (i := 64) (by decide +kernel))
theorem m_65 : Cond.methodLink RX4 3 objectInit ∈ kw := List.mem_append_left _ (List.mem_of_getElem? (i := 65) (by decide +kernel))
theorem m_66 : Cond.fieldLink RX4 9 "KeySteward$Keys" "ids" "[I" ∈ kw := List.mem_append_left _ (List.mem_of_getElem? (i := 66) (by decide +kernel))
theorem m_67 : Cond.fieldLink RX4 15 "KeySteward$Keys" "slots" "[I" ∈ kw := List.mem_append_left _ (List.mem_of_getElem? (i := 67) (by decide +kernel))
theorem m_68 : Cond.classLink RX4 18 RX10 ∈ kw := List.mem_append_left _ (List.mem_of_getElem? (i := 68) (by decide +kernel))
theorem m_69 : Cond.fieldLink RX4 20 "KeySteward$Keys" "shelf" "[LKeySteward$Value;" ∈ kw := List.mem_append_left _ (List.mem_of_getElem? (i := 69) (by decide +kernel))
theorem m_70 : Cond.fieldLink RX4 24 "KeySteward$Keys" "texts" "[B" ∈ kw := List.mem_append_left _ (List.mem_of_getElem? (i := 70) (by decide +kernel))
theorem m_71 : Cond.fieldLink RX4 28 "KeySteward$Keys" "nextTexts" "[B" ∈ kw := List.mem_append_left _ (List.mem_of_getElem? (i := 71) (by decide +kernel))
theorem m_72 : Cond.arrayClass .long ∈ kw := List.mem_append_left _ (List.mem_of_getElem? (i := 72) (by decide +kernel))
theorem m_73 : Cond.fieldLink RX4 31 "KeySteward$Keys" "cells" "[J" ∈ kw := List.mem_append_left _ (List.mem_of_getElem? (i := 73) (by decide +kernel))
theorem m_74 : Cond.fieldLink RX4 35 "KeySteward$Keys" "nextCells" "[J" ∈ kw := List.mem_append_left _ (List.mem_of_getElem? (i := 74) (by decide +kernel))
theorem m_75 : Cond.fieldLink RX4 38 "KeySteward$Keys" "words" "LKeySteward$Words;" ∈ kw := List.mem_append_left _ (List.mem_of_getElem? (i := 75) (by decide +kernel))
theorem m_76 : Cond.fieldLink RX4 42 "KeySteward$Keys" "ask" "LKeySteward$Request;" ∈ kw := List.mem_append_left _ (List.mem_of_getElem? (i := 76) (by decide +kernel))
theorem m_77 : Cond.fieldLink RX4 46 "KeySteward$Keys" "watchers" "[LKeySteward$Connection;" ∈ kw := List.mem_append_left _ (List.mem_of_getElem? (i := 77) (by decide +kernel))
theorem m_78 : Cond.methodLink RX9 3 objectInit ∈ kw := List.mem_append_left _ (List.mem_of_getElem? (i := 78) (by decide +kernel))
theorem m_79 : Cond.classLink RX9 9 RX1 ∈ kw := List.mem_append_left _ (List.mem_of_getElem? (i := 79) (by decide +kernel))
theorem m_80 : Cond.methodLink RX9 11 yX1_init ∈ kw := List.mem_append_left _ (List.mem_of_getElem? (i := 80) (by decide +kernel))
theorem m_81 : Cond.fieldLink RX9 14 "KeySteward$Texts" "numeral" "LKeySteward$Bytes;" ∈ kw := List.mem_append_left _ (List.mem_of_getElem? (i := 81) (by decide +kernel))
theorem m_82 : Cond.fieldLink RX9 20 "KeySteward$Texts" "ask" "LKeySteward$Request;" ∈ kw := List.mem_append_left _ (List.mem_of_getElem? (i := 82) (by decide +kernel))
theorem m_83 : Cond.fieldLink RX9 24 "KeySteward$Texts" "keys" "LKeySteward$Keys;" ∈ kw := List.mem_append_left _ (List.mem_of_getElem? (i := 83) (by decide +kernel))
theorem m_84 : Cond.methodLink RX5 3 objectInit ∈ kw := List.mem_append_left _ (List.mem_of_getElem? (i := 84) (by decide +kernel))
theorem m_85 : Cond.fieldLink RX5 9 "KeySteward$Lists" "words" "LKeySteward$Words;" ∈ kw := List.mem_append_left _ (List.mem_of_getElem? (i := 85) (by decide +kernel))
theorem m_86 : Cond.fieldLink RX5 15 "KeySteward$Lists" "ask" "LKeySteward$Request;" ∈ kw := List.mem_append_left _ (List.mem_of_getElem? (i := 86) (by decide +kernel))
theorem m_87 : Cond.fieldLink RX5 19 "KeySteward$Lists" "keys" "LKeySteward$Keys;" ∈ kw := List.mem_append_left _ (List.mem_of_getElem? (i := 87) (by decide +kernel))
theorem m_88 : Cond.methodLink RX6 3 objectInit ∈ kw := List.mem_append_left _ (List.mem_of_getElem? (i := 88) (by decide +kernel))
theorem m_89 : Cond.classLink RX6 9 RX1 ∈ kw := List.mem_append_left _ (List.mem_of_getElem? (i := 89) (by decide +kernel))
theorem m_90 : Cond.methodLink RX6 11 yX1_init ∈ kw := List.mem_append_left _ (List.mem_of_getElem? (i := 90) (by decide +kernel))
theorem m_91 : Cond.fieldLink RX6 14 "KeySteward$Members" "numeral" "LKeySteward$Bytes;" ∈ kw := List.mem_append_left _ (List.mem_of_getElem? (i := 91) (by decide +kernel))
theorem m_92 : Cond.fieldLink RX6 20 "KeySteward$Members" "pot" "[I" ∈ kw := List.mem_append_left _ (List.mem_of_getElem? (i := 92) (by decide +kernel))
theorem m_93 : Cond.fieldLink RX6 24 "KeySteward$Members" "words" "LKeySteward$Words;" ∈ kw := List.mem_append_left _ (List.mem_of_getElem? (i := 93) (by decide +kernel))
theorem m_94 : Cond.fieldLink RX6 28 "KeySteward$Members" "ask" "LKeySteward$Request;" ∈ kw := List.mem_append_left _ (List.mem_of_getElem? (i := 94) (by decide +kernel))
theorem m_95 : Cond.fieldLink RX6 32 "KeySteward$Members" "keys" "LKeySteward$Keys;" ∈ kw := List.mem_append_left _ (List.mem_of_getElem? (i := 95) (by decide +kernel))
theorem m_96 : Cond.methodLink RX7 3 objectInit ∈ kw := List.mem_append_left _ (List.mem_of_getElem? (i := 96) (by decide +kernel))
theorem m_97 : Cond.fieldLink RX7 9 "KeySteward$Orders" "words" "LKeySteward$Words;" ∈ kw := List.mem_append_left _ (List.mem_of_getElem? (i := 97) (by decide +kernel))
theorem m_98 : Cond.fieldLink RX7 15 "KeySteward$Orders" "ask" "LKeySteward$Request;" ∈ kw := List.mem_append_left _ (List.mem_of_getElem? (i := 98) (by decide +kernel))
theorem m_99 : Cond.fieldLink RX7 19 "KeySteward$Orders" "keys" "LKeySteward$Keys;" ∈ kw := List.mem_append_left _ (List.mem_of_getElem? (i := 99) (by decide +kernel))
theorem m_100 : Cond.fieldLink RX8 35 "KeySteward$Request" "count" "I" ∈ kw := List.mem_append_left _ (List.mem_of_getElem? (i := 100) (by decide +kernel))
theorem m_101 : Cond.fieldLink RX8 39 "KeySteward$Request" "next" "I" ∈ kw := List.mem_append_left _ (List.mem_of_getElem? (i := 101) (by decide +kernel))
theorem kin_X1 : ∀ w ∈ u_ws RX1 TX1 4, w ∈ kw := fun w h => List.mem_append_right _ ((List.mem_append_left _ h))
theorem kin_X3 : ∀ w ∈ u_ws RX3 TX3 12, w ∈ kw := fun w h => List.mem_append_right _ ((List.mem_append_right _ (List.mem_append_left _ h)))
theorem kin_X11 : ∀ w ∈ u_ws RX11 TX11 5, w ∈ kw := fun w h => List.mem_append_right _ ((List.mem_append_right _ (List.mem_append_right _ (List.mem_append_left _ h))))
theorem kin_X8 : ∀ w ∈ u_ws RX8 TX8 17, w ∈ kw := fun w h => List.mem_append_right _ ((List.mem_append_right _ (List.mem_append_right _ (List.mem_append_right _ (List.mem_append_left _ h)))))
theorem kin_X4 : ∀ w ∈ u_ws RX4 TX4 19, w ∈ kw := fun w h => List.mem_append_right _ ((List.mem_append_right _ (List.mem_append_right _ (List.mem_append_right _ (List.mem_append_right _ (List.mem_append_left _ h))))))
theorem kin_X9 : ∀ w ∈ u_ws RX9 TX9 7, w ∈ kw := fun w h => List.mem_append_right _ ((List.mem_append_right _ (List.mem_append_right _ (List.mem_append_right _ (List.mem_append_right _ (List.mem_append_right _ (List.mem_append_left _ h)))))))
theorem kin_X5 : ∀ w ∈ u_ws RX5 TX5 3, w ∈ kw := fun w h => List.mem_append_right _ ((List.mem_append_right _ (List.mem_append_right _ (List.mem_append_right _ (List.mem_append_right _ (List.mem_append_right _ (List.mem_append_right _ (List.mem_append_left _ h))))))))
theorem kin_X6 : ∀ w ∈ u_ws RX6 TX6 6, w ∈ kw := fun w h => List.mem_append_right _ ((List.mem_append_right _ (List.mem_append_right _ (List.mem_append_right _ (List.mem_append_right _ (List.mem_append_right _ (List.mem_append_right _ (List.mem_append_right _ (List.mem_append_left _ h)))))))))
theorem kin_X7 : ∀ w ∈ u_ws RX7 TX7 9, w ∈ kw := fun w h => List.mem_append_right _ ((List.mem_append_right _ (List.mem_append_right _ (List.mem_append_right _ (List.mem_append_right _ (List.mem_append_right _ (List.mem_append_right _ (List.mem_append_right _ (List.mem_append_right _ (List.mem_append_left _ h))))))))))
theorem kin_X12 : ∀ w ∈ u_ws RX12 TX12 18, w ∈ kw := fun w h => List.mem_append_right _ ((List.mem_append_right _ (List.mem_append_right _ (List.mem_append_right _ (List.mem_append_right _ (List.mem_append_right _ (List.mem_append_right _ (List.mem_append_right _ (List.mem_append_right _ (List.mem_append_right _ (List.mem_append_left _ h)))))))))))
theorem kin_X13 : ∀ w ∈ u_ws RX13 TX13 116, w ∈ kw := fun w h => List.mem_append_right _ ((List.mem_append_right _ (List.mem_append_right _ (List.mem_append_right _ (List.mem_append_right _ (List.mem_append_right _ (List.mem_append_right _ (List.mem_append_right _ (List.mem_append_right _ (List.mem_append_right _ (List.mem_append_right _ h)))))))))))
abbrev classes : List vw_C := [(RX1, TX1, 4), (RX3, TX3, 12), (RX11, TX11, 5), (RX8, TX8, 17), (RX4, TX4, 19), (RX9, TX9, 7), (RX5, TX5, 3), (RX6, TX6, 6), (RX7, TX7, 9), (RX12, TX12, 18), (RX13, TX13, 116)]
theorem kwI {y : MethodName} {b : ByteArray} {n : Nat} {r : Option FieldType} (h : Cond.code y b n r ∈ kw) : GoodIn kw (Cond.code y b n r :: kw) := fun w hw => by
  have h1 : w ∈ kw := (List.mem_cons.mp hw).elim (fun e => by rw [e]; exact h) id
  exact ⟨h1, good_of_word (kw_good w h1)⟩
abbrev wX1_init : List Cond := Cond.code yX1_init cX1_init 2 none :: kw
abbrev wX1_empty : List Cond := Cond.code yX1_empty cX1_empty 1 none :: kw
abbrev wX1_room : List Cond := Cond.code yX1_room cX1_room 3 (some .boolean) :: kw
abbrev wX1_four : List Cond := Cond.code yX1_four cX1_four 3 none :: kw
abbrev wX1_append : List Cond := Cond.code yX1_append cX1_append 4 none :: kw
abbrev wX1_drop : List Cond := Cond.code yX1_drop cX1_drop 3 none :: kw
abbrev wX1_cut : List Cond := Cond.code yX1_cut cX1_cut 2 none :: kw
abbrev wX3_init : List Cond := Cond.code yX3_init cX3_init 1 none :: kw
abbrev wX3_close : List Cond := Cond.code yX3_close cX3_close 1 none :: kw
abbrev wX3_endBlock : List Cond := Cond.code yX3_endBlock cX3_endBlock 1 none :: kw
abbrev wX3_unwatch : List Cond := Cond.code yX3_unwatch cX3_unwatch 1 none :: kw
abbrev wX4_init : List Cond := Cond.code yX4_init cX4_init 4 none :: kw
abbrev wX5_init : List Cond := Cond.code yX5_init cX5_init 4 none :: kw
abbrev wX6_init : List Cond := Cond.code yX6_init cX6_init 4 none :: kw
abbrev wX7_init : List Cond := Cond.code yX7_init cX7_init 4 none :: kw
abbrev wX8_init : List Cond := Cond.code yX8_init cX8_init 2 none :: kw
abbrev wX8_read : List Cond := Cond.code yX8_read cX8_read 4 (some .int) :: kw
abbrev wX9_init : List Cond := Cond.code yX9_init cX9_init 3 none :: kw
abbrev wX11_init : List Cond := Cond.code yX11_init cX11_init 1 none :: kw
def fx (U : State) : Prop := va_AO "KeySteward$Connection" U ∧ va_AO "KeySteward$Value" U ∧ va_Nw (.methodLinkNest "KeySteward" 44 yX3_init "KeySteward") U ∧ va_Nw (.methodLinkNest "KeySteward" 47 yX11_init "KeySteward") U
theorem va_AO.warm {C : String} {s U : State} (hW : s.WarmedH U.vm) (h : va_AO C s) : va_AO C U := va_AO.moved hW.alike h
theorem fx_moved {s U : State} (hW : s.WarmedH U.vm) (h : fx s) : fx U := ⟨va_AO.warm hW h.1, va_AO.warm hW h.2.1, va_Nw.warmM hW h.2.2.1, va_Nw.warmM hW h.2.2.2⟩
abbrev pW (D : va_G) (ws : va_W) (tys : List (ClassId × FieldType)) (sz : Nat) : State → Prop := fun U => U.heap.size = sz ∧ va_P D classes ws U.heap ∧ va_K D classes tys U ∧ va_D (fun _ => True) ws ∧ fx U
abbrev bW (D : va_G) (ws : va_W) (tys : List (ClassId × FieldType)) (A : Nat → Prop) (t : State) : Prop := va_P D classes ws t.heap ∧ va_K D classes tys t ∧ va_D A ws
theorem fx_call {U : State} {g : JFrame} {mk : MethodId} {a : Array Value} (h : fx U) : fx (U.calling g mk a) := h
theorem fbW {av : List Value} {D : va_G} {ws : va_W} {tys : List (ClassId × FieldType)} {sz : Nat} : FrameBlind (va_Pc av (pW D ws tys sz)) := fun a U g mk q => by
  obtain ⟨q0, q1, qP, qK, qD, qX⟩ := q
  exact ⟨q0, q1, qP, va_K.moved (u := U) (U := U.calling g mk a) (Vm.Alike.refl U.vm) qK, qD, fx_call qX⟩
theorem pW_in {av : List Value} {s : State} {H : Heap} {D : va_G} {ws : va_W} {tys : List (ClassId × FieldType)} {A : Nat → Prop} (hP : va_P D classes ws H) (hK : va_K D classes tys s) (hD : va_D A ws) (hf : fx s) : ∀ U : State, U.heap = H → s.WarmedH U.vm → va_Pc av (pW D ws tys H.size) av.toArray U :=
  fun U hU hW => ⟨rfl, by rw [hU], by rw [hU]; exact hP, va_K.moved hW.alike hK, hD.weaken (fun _ _ _ _ => trivial), fx_moved hW hf⟩
section CallsHere
variable {s : State} {args : Array Value} {R : Room} {Ts ws ws' : List Cond} {own C : String} {index maxL mc ms : Nat} {y : MethodName} {bytes : ByteArray} {ret : Option FieldType} {rm : Room}
theorem callVv (n : Nat) (ht : ∀ w ∈ Ts, w.before args s = true) (hG : GoodIn Ts ws) (hw : ws = Cond.code y bytes maxL ret :: ws') (hrc : rm.cells = mc) (hrs : rm.slots = ms) (hini : (Cond.initialized y.cls).before args s = true) (hl : (Cond.methodLink own index y).before args s = true) (hin : (Cond.instanceMethod y).before args s = true) (hsel : (Cond.selects C y y).before args s = true)
    (hd : y.cls ≠ "java/lang/invoke/MethodHandle" ∧ y.cls ≠ "java/lang/invoke/VarHandle" ∧ (parseMethodDescriptor y.desc).map (fun d => d.parameters.length) = some n) (hR : rm.frames + 1 ≤ R.frames ∧ 8 + (maxL + 11) + rm.locals ≤ R.locals) :
    CallW R s args own C index y bytes maxL ret ws rm mc ms n := ⟨callB_of n ht hG hw hrc hrs hini hl hd hR, hin, hsel⟩
theorem callSs (n : Nat) (ht : ∀ w ∈ Ts, w.before args s = true) (hG : GoodIn Ts ws) (hw : ws = Cond.code y bytes maxL ret :: ws') (hrc : rm.cells = mc) (hrs : rm.slots = ms) (hini : (Cond.initialized y.cls).before args s = true) (hl : (Cond.methodLink own index y).before args s = true) (hst : (Cond.static y).before args s = true)
    (hd : y.cls ≠ "java/lang/invoke/MethodHandle" ∧ y.cls ≠ "java/lang/invoke/VarHandle" ∧ (parseMethodDescriptor y.desc).map (fun d => d.parameters.length) = some n) (hR : rm.frames + 1 ≤ R.frames ∧ 8 + (maxL + 11) + rm.locals ≤ R.locals) :
    CallB R s args own index y bytes maxL ret ws rm mc ms n ∧ (Cond.static y).before args s = true := ⟨callB_of n ht hG hw hrc hrs hini hl hd hR, hst⟩
end CallsHere
-- decode rows
theorem dX11_init_0 : decode cX11_init 0 = .ok (.aload_n 0, 1) := by decide +kernel
theorem dX11_init_1 : decode cX11_init 1 = .ok (.invokespecial 3, 3) := by decide +kernel
theorem dX11_init_4 : decode cX11_init 4 = .ok (.aload_n 0, 1) := by decide +kernel
theorem dX11_init_5 : decode cX11_init 5 = .ok (.sipush 1024, 3) := by decide +kernel
theorem dX11_init_8 : decode cX11_init 8 = .ok (.newarray .byte, 2) := by decide +kernel
theorem dX11_init_10 : decode cX11_init 10 = .ok (.putfield 9, 3) := by decide +kernel
theorem dX11_init_13 : decode cX11_init 13 = .ok (.aload_n 0, 1) := by decide +kernel
theorem dX11_init_14 : decode cX11_init 14 = .ok (.sipush 128, 3) := by decide +kernel
theorem dX11_init_17 : decode cX11_init 17 = .ok (.newarray .int, 2) := by decide +kernel
theorem dX11_init_19 : decode cX11_init 19 = .ok (.putfield 15, 3) := by decide +kernel
theorem dX11_init_22 : decode cX11_init 22 = .ok (.aload_n 0, 1) := by decide +kernel
theorem dX11_init_23 : decode cX11_init 23 = .ok (.sipush 128, 3) := by decide +kernel
theorem dX11_init_26 : decode cX11_init 26 = .ok (.newarray .int, 2) := by decide +kernel
theorem dX11_init_28 : decode cX11_init 28 = .ok (.putfield 19, 3) := by decide +kernel
theorem dX11_init_31 : decode cX11_init 31 = .ok (.aload_n 0, 1) := by decide +kernel
theorem dX11_init_32 : decode cX11_init 32 = .ok (.sipush 1024, 3) := by decide +kernel
theorem dX11_init_35 : decode cX11_init 35 = .ok (.newarray .int, 2) := by decide +kernel
theorem dX11_init_37 : decode cX11_init 37 = .ok (.putfield 22, 3) := by decide +kernel
theorem dX11_init_40 : decode cX11_init 40 = .ok (.return_, 1) := by decide +kernel
theorem dX1_append_0 : decode cX1_append 0 = .ok (.iload_n 2, 1) := by decide +kernel
theorem dX1_append_1 : decode cX1_append 1 = .ok (.ifCond .lt 23, 3) := by decide +kernel
theorem dX1_append_4 : decode cX1_append 4 = .ok (.iload_n 3, 1) := by decide +kernel
theorem dX1_append_5 : decode cX1_append 5 = .ok (.ifCond .lt 19, 3) := by decide +kernel
theorem dX1_append_8 : decode cX1_append 8 = .ok (.iload_n 3, 1) := by decide +kernel
theorem dX1_append_9 : decode cX1_append 9 = .ok (.aload_n 1, 1) := by decide +kernel
theorem dX1_append_10 : decode cX1_append 10 = .ok (.arraylength, 1) := by decide +kernel
theorem dX1_append_11 : decode cX1_append 11 = .ok (.iload_n 2, 1) := by decide +kernel
theorem dX1_append_12 : decode cX1_append 12 = .ok (.isub, 1) := by decide +kernel
theorem dX1_append_13 : decode cX1_append 13 = .ok (.if_icmp .gt 11, 3) := by decide +kernel
theorem dX1_append_16 : decode cX1_append 16 = .ok (.aload_n 0, 1) := by decide +kernel
theorem dX1_append_17 : decode cX1_append 17 = .ok (.iload_n 3, 1) := by decide +kernel
theorem dX1_append_18 : decode cX1_append 18 = .ok (.invokevirtual 41, 3) := by decide +kernel
theorem dX1_append_21 : decode cX1_append 21 = .ok (.ifCond .ne 4, 3) := by decide +kernel
theorem dX1_append_25 : decode cX1_append 25 = .ok (.aload_n 1, 1) := by decide +kernel
theorem dX1_append_26 : decode cX1_append 26 = .ok (.iload_n 2, 1) := by decide +kernel
theorem dX1_append_27 : decode cX1_append 27 = .ok (.aload_n 0, 1) := by decide +kernel
theorem dX1_append_28 : decode cX1_append 28 = .ok (.getfield 11, 3) := by decide +kernel
theorem dX1_append_31 : decode cX1_append 31 = .ok (.aload_n 0, 1) := by decide +kernel
theorem dX1_append_32 : decode cX1_append 32 = .ok (.getfield 19, 3) := by decide +kernel
theorem dX1_append_35 : decode cX1_append 35 = .ok (.iload_n 3, 1) := by decide +kernel
theorem dX1_append_36 : decode cX1_append 36 = .ok (.invokestatic 45, 3) := by decide +kernel
theorem dX1_append_39 : decode cX1_append 39 = .ok (.aload_n 0, 1) := by decide +kernel
theorem dX1_append_40 : decode cX1_append 40 = .ok (.dup, 1) := by decide +kernel
theorem dX1_append_41 : decode cX1_append 41 = .ok (.getfield 19, 3) := by decide +kernel
theorem dX1_append_44 : decode cX1_append 44 = .ok (.iload_n 3, 1) := by decide +kernel
theorem dX1_append_45 : decode cX1_append 45 = .ok (.iadd, 1) := by decide +kernel
theorem dX1_append_46 : decode cX1_append 46 = .ok (.putfield 19, 3) := by decide +kernel
theorem dX1_append_49 : decode cX1_append 49 = .ok (.return_, 1) := by decide +kernel
theorem dX1_cut_0 : decode cX1_cut 0 = .ok (.iload_n 1, 1) := by decide +kernel
theorem dX1_cut_1 : decode cX1_cut 1 = .ok (.ifCond .lt 16, 3) := by decide +kernel
theorem dX1_cut_4 : decode cX1_cut 4 = .ok (.iload_n 1, 1) := by decide +kernel
theorem dX1_cut_5 : decode cX1_cut 5 = .ok (.aload_n 0, 1) := by decide +kernel
theorem dX1_cut_6 : decode cX1_cut 6 = .ok (.getfield 19, 3) := by decide +kernel
theorem dX1_cut_9 : decode cX1_cut 9 = .ok (.if_icmp .ge 8, 3) := by decide +kernel
theorem dX1_cut_17 : decode cX1_cut 17 = .ok (.return_, 1) := by decide +kernel
theorem dX1_drop_0 : decode cX1_drop 0 = .ok (.iload_n 1, 1) := by decide +kernel
theorem dX1_drop_1 : decode cX1_drop 1 = .ok (.ifCond .gt 4, 3) := by decide +kernel
theorem dX1_drop_4 : decode cX1_drop 4 = .ok (.return_, 1) := by decide +kernel
theorem dX1_empty_0 : decode cX1_empty 0 = .ok (.aload_n 0, 1) := by decide +kernel
theorem dX1_empty_1 : decode cX1_empty 1 = .ok (.iconst 0, 1) := by decide +kernel
theorem dX1_empty_2 : decode cX1_empty 2 = .ok (.putfield 19, 3) := by decide +kernel
theorem dX1_empty_5 : decode cX1_empty 5 = .ok (.aload_n 0, 1) := by decide +kernel
theorem dX1_empty_6 : decode cX1_empty 6 = .ok (.iconst 0, 1) := by decide +kernel
theorem dX1_empty_7 : decode cX1_empty 7 = .ok (.putfield 22, 3) := by decide +kernel
theorem dX1_empty_10 : decode cX1_empty 10 = .ok (.return_, 1) := by decide +kernel
theorem dX1_four_0 : decode cX1_four 0 = .ok (.aload_n 0, 1) := by decide +kernel
theorem dX1_four_1 : decode cX1_four 1 = .ok (.iconst 4, 1) := by decide +kernel
theorem dX1_four_2 : decode cX1_four 2 = .ok (.invokevirtual 41, 3) := by decide +kernel
theorem dX1_four_5 : decode cX1_four 5 = .ok (.ifCond .eq 47, 3) := by decide +kernel
theorem dX1_four_8 : decode cX1_four 8 = .ok (.iconst 0, 1) := by decide +kernel
theorem dX1_four_9 : decode cX1_four 9 = .ok (.istore_n 2, 1) := by decide +kernel
theorem dX1_four_10 : decode cX1_four 10 = .ok (.iload_n 2, 1) := by decide +kernel
theorem dX1_four_11 : decode cX1_four 11 = .ok (.iconst 4, 1) := by decide +kernel
theorem dX1_four_12 : decode cX1_four 12 = .ok (.if_icmp .ge 30, 3) := by decide +kernel
theorem dX1_four_15 : decode cX1_four 15 = .ok (.aload_n 0, 1) := by decide +kernel
theorem dX1_four_16 : decode cX1_four 16 = .ok (.getfield 11, 3) := by decide +kernel
theorem dX1_four_19 : decode cX1_four 19 = .ok (.aload_n 0, 1) := by decide +kernel
theorem dX1_four_20 : decode cX1_four 20 = .ok (.getfield 19, 3) := by decide +kernel
theorem dX1_four_23 : decode cX1_four 23 = .ok (.iload_n 2, 1) := by decide +kernel
theorem dX1_four_24 : decode cX1_four 24 = .ok (.iadd, 1) := by decide +kernel
theorem dX1_four_25 : decode cX1_four 25 = .ok (.iload_n 1, 1) := by decide +kernel
theorem dX1_four_26 : decode cX1_four 26 = .ok (.bipush 24, 2) := by decide +kernel
theorem dX1_four_28 : decode cX1_four 28 = .ok (.bipush 8, 2) := by decide +kernel
theorem dX1_four_30 : decode cX1_four 30 = .ok (.iload_n 2, 1) := by decide +kernel
theorem dX1_four_31 : decode cX1_four 31 = .ok (.imul, 1) := by decide +kernel
theorem dX1_four_32 : decode cX1_four 32 = .ok (.isub, 1) := by decide +kernel
theorem dX1_four_33 : decode cX1_four 33 = .ok (.ishr, 1) := by decide +kernel
theorem dX1_four_34 : decode cX1_four 34 = .ok (.i2b, 1) := by decide +kernel
theorem dX1_four_35 : decode cX1_four 35 = .ok (.bastore, 1) := by decide +kernel
theorem dX1_four_36 : decode cX1_four 36 = .ok (.iinc 2 1, 3) := by decide +kernel
theorem dX1_four_39 : decode cX1_four 39 = .ok (.goto (-29), 3) := by decide +kernel
theorem dX1_four_42 : decode cX1_four 42 = .ok (.aload_n 0, 1) := by decide +kernel
theorem dX1_four_43 : decode cX1_four 43 = .ok (.dup, 1) := by decide +kernel
theorem dX1_four_44 : decode cX1_four 44 = .ok (.getfield 19, 3) := by decide +kernel
theorem dX1_four_47 : decode cX1_four 47 = .ok (.iconst 4, 1) := by decide +kernel
theorem dX1_four_48 : decode cX1_four 48 = .ok (.iadd, 1) := by decide +kernel
theorem dX1_four_49 : decode cX1_four 49 = .ok (.putfield 19, 3) := by decide +kernel
theorem dX1_four_52 : decode cX1_four 52 = .ok (.return_, 1) := by decide +kernel
theorem dX1_init_0 : decode cX1_init 0 = .ok (.aload_n 0, 1) := by decide +kernel
theorem dX1_init_1 : decode cX1_init 1 = .ok (.invokespecial 3, 3) := by decide +kernel
theorem dX1_init_4 : decode cX1_init 4 = .ok (.aload_n 0, 1) := by decide +kernel
theorem dX1_init_5 : decode cX1_init 5 = .ok (.bipush 64, 2) := by decide +kernel
theorem dX1_init_7 : decode cX1_init 7 = .ok (.newarray .byte, 2) := by decide +kernel
theorem dX1_init_9 : decode cX1_init 9 = .ok (.putfield 11, 3) := by decide +kernel
theorem dX1_init_12 : decode cX1_init 12 = .ok (.aload_n 0, 1) := by decide +kernel
theorem dX1_init_13 : decode cX1_init 13 = .ok (.iload_n 1, 1) := by decide +kernel
theorem dX1_init_14 : decode cX1_init 14 = .ok (.putfield 15, 3) := by decide +kernel
theorem dX1_init_17 : decode cX1_init 17 = .ok (.return_, 1) := by decide +kernel
theorem dX1_room_0 : decode cX1_room 0 = .ok (.aload_n 0, 1) := by decide +kernel
theorem dX1_room_1 : decode cX1_room 1 = .ok (.getfield 22, 3) := by decide +kernel
theorem dX1_room_4 : decode cX1_room 4 = .ok (.ifCond .eq 5, 3) := by decide +kernel
theorem dX1_room_9 : decode cX1_room 9 = .ok (.iload_n 1, 1) := by decide +kernel
theorem dX1_room_10 : decode cX1_room 10 = .ok (.ifCond .lt 16, 3) := by decide +kernel
theorem dX1_room_13 : decode cX1_room 13 = .ok (.iload_n 1, 1) := by decide +kernel
theorem dX1_room_14 : decode cX1_room 14 = .ok (.aload_n 0, 1) := by decide +kernel
theorem dX1_room_15 : decode cX1_room 15 = .ok (.getfield 15, 3) := by decide +kernel
theorem dX1_room_18 : decode cX1_room 18 = .ok (.aload_n 0, 1) := by decide +kernel
theorem dX1_room_19 : decode cX1_room 19 = .ok (.getfield 19, 3) := by decide +kernel
theorem dX1_room_22 : decode cX1_room 22 = .ok (.isub, 1) := by decide +kernel
theorem dX1_room_23 : decode cX1_room 23 = .ok (.if_icmp .le 15, 3) := by decide +kernel
theorem dX1_room_38 : decode cX1_room 38 = .ok (.aload_n 0, 1) := by decide +kernel
theorem dX1_room_39 : decode cX1_room 39 = .ok (.getfield 19, 3) := by decide +kernel
theorem dX1_room_42 : decode cX1_room 42 = .ok (.iload_n 1, 1) := by decide +kernel
theorem dX1_room_43 : decode cX1_room 43 = .ok (.iadd, 1) := by decide +kernel
theorem dX1_room_44 : decode cX1_room 44 = .ok (.istore_n 2, 1) := by decide +kernel
theorem dX1_room_45 : decode cX1_room 45 = .ok (.iload_n 2, 1) := by decide +kernel
theorem dX1_room_46 : decode cX1_room 46 = .ok (.aload_n 0, 1) := by decide +kernel
theorem dX1_room_47 : decode cX1_room 47 = .ok (.getfield 11, 3) := by decide +kernel
theorem dX1_room_50 : decode cX1_room 50 = .ok (.arraylength, 1) := by decide +kernel
theorem dX1_room_51 : decode cX1_room 51 = .ok (.if_icmp .le 32, 3) := by decide +kernel
theorem dX1_room_83 : decode cX1_room 83 = .ok (.iconst 1, 1) := by decide +kernel
theorem dX1_room_84 : decode cX1_room 84 = .ok (.ireturn, 1) := by decide +kernel
theorem dX3_close_0 : decode cX3_close 0 = .ok (.aload_n 0, 1) := by decide +kernel
theorem dX3_close_1 : decode cX3_close 1 = .ok (.iconst 0, 1) := by decide +kernel
theorem dX3_close_2 : decode cX3_close 2 = .ok (.putfield 9, 3) := by decide +kernel
theorem dX3_close_5 : decode cX3_close 5 = .ok (.aload_n 0, 1) := by decide +kernel
theorem dX3_close_6 : decode cX3_close 6 = .ok (.getfield 21, 3) := by decide +kernel
theorem dX3_close_9 : decode cX3_close 9 = .ok (.invokevirtual 40, 3) := by decide +kernel
theorem dX3_close_12 : decode cX3_close 12 = .ok (.aload_n 0, 1) := by decide +kernel
theorem dX3_close_13 : decode cX3_close 13 = .ok (.invokevirtual 43, 3) := by decide +kernel
theorem dX3_close_16 : decode cX3_close 16 = .ok (.aload_n 0, 1) := by decide +kernel
theorem dX3_close_17 : decode cX3_close 17 = .ok (.iconst 0, 1) := by decide +kernel
theorem dX3_close_18 : decode cX3_close 18 = .ok (.putfield 46, 3) := by decide +kernel
theorem dX3_close_21 : decode cX3_close 21 = .ok (.return_, 1) := by decide +kernel
theorem dX3_endBlock_0 : decode cX3_endBlock 0 = .ok (.aload_n 0, 1) := by decide +kernel
theorem dX3_endBlock_1 : decode cX3_endBlock 1 = .ok (.iconst 0, 1) := by decide +kernel
theorem dX3_endBlock_2 : decode cX3_endBlock 2 = .ok (.putfield 50, 3) := by decide +kernel
theorem dX3_endBlock_5 : decode cX3_endBlock 5 = .ok (.aload_n 0, 1) := by decide +kernel
theorem dX3_endBlock_6 : decode cX3_endBlock 6 = .ok (.iconst 0, 1) := by decide +kernel
theorem dX3_endBlock_7 : decode cX3_endBlock 7 = .ok (.putfield 53, 3) := by decide +kernel
theorem dX3_endBlock_10 : decode cX3_endBlock 10 = .ok (.aload_n 0, 1) := by decide +kernel
theorem dX3_endBlock_11 : decode cX3_endBlock 11 = .ok (.iconst 0, 1) := by decide +kernel
theorem dX3_endBlock_12 : decode cX3_endBlock 12 = .ok (.putfield 56, 3) := by decide +kernel
theorem dX3_endBlock_15 : decode cX3_endBlock 15 = .ok (.aload_n 0, 1) := by decide +kernel
theorem dX3_endBlock_16 : decode cX3_endBlock 16 = .ok (.getfield 30, 3) := by decide +kernel
theorem dX3_endBlock_19 : decode cX3_endBlock 19 = .ok (.invokevirtual 40, 3) := by decide +kernel
theorem dX3_endBlock_22 : decode cX3_endBlock 22 = .ok (.aload_n 0, 1) := by decide +kernel
theorem dX3_endBlock_23 : decode cX3_endBlock 23 = .ok (.invokevirtual 59, 3) := by decide +kernel
theorem dX3_endBlock_26 : decode cX3_endBlock 26 = .ok (.return_, 1) := by decide +kernel
theorem dX3_init_0 : decode cX3_init 0 = .ok (.aload_n 0, 1) := by decide +kernel
theorem dX3_init_1 : decode cX3_init 1 = .ok (.invokespecial 3, 3) := by decide +kernel
theorem dX3_init_4 : decode cX3_init 4 = .ok (.aload_n 0, 1) := by decide +kernel
theorem dX3_init_5 : decode cX3_init 5 = .ok (.iconst 1, 1) := by decide +kernel
theorem dX3_init_6 : decode cX3_init 6 = .ok (.putfield 9, 3) := by decide +kernel
theorem dX3_init_9 : decode cX3_init 9 = .ok (.aload_n 0, 1) := by decide +kernel
theorem dX3_init_10 : decode cX3_init 10 = .ok (.new 15, 3) := by decide +kernel
theorem dX3_init_13 : decode cX3_init 13 = .ok (.dup, 1) := by decide +kernel
theorem dX3_init_14 : decode cX3_init 14 = .ok (.ldc 17, 2) := by decide +kernel
theorem dX3_init_16 : decode cX3_init 16 = .ok (.invokespecial 18, 3) := by decide +kernel
theorem dX3_init_19 : decode cX3_init 19 = .ok (.putfield 21, 3) := by decide +kernel
theorem dX3_init_22 : decode cX3_init 22 = .ok (.aload_n 0, 1) := by decide +kernel
theorem dX3_init_23 : decode cX3_init 23 = .ok (.new 15, 3) := by decide +kernel
theorem dX3_init_26 : decode cX3_init 26 = .ok (.dup, 1) := by decide +kernel
theorem dX3_init_27 : decode cX3_init 27 = .ok (.ldc 25, 2) := by decide +kernel
theorem dX3_init_29 : decode cX3_init 29 = .ok (.invokespecial 18, 3) := by decide +kernel
theorem dX3_init_32 : decode cX3_init 32 = .ok (.putfield 26, 3) := by decide +kernel
theorem dX3_init_35 : decode cX3_init 35 = .ok (.aload_n 0, 1) := by decide +kernel
theorem dX3_init_36 : decode cX3_init 36 = .ok (.new 15, 3) := by decide +kernel
theorem dX3_init_39 : decode cX3_init 39 = .ok (.dup, 1) := by decide +kernel
theorem dX3_init_40 : decode cX3_init 40 = .ok (.ldc 29, 2) := by decide +kernel
theorem dX3_init_42 : decode cX3_init 42 = .ok (.invokespecial 18, 3) := by decide +kernel
theorem dX3_init_45 : decode cX3_init 45 = .ok (.putfield 30, 3) := by decide +kernel
theorem dX3_init_48 : decode cX3_init 48 = .ok (.aload_n 0, 1) := by decide +kernel
theorem dX3_init_49 : decode cX3_init 49 = .ok (.bipush 64, 2) := by decide +kernel
theorem dX3_init_51 : decode cX3_init 51 = .ok (.newarray .int, 2) := by decide +kernel
theorem dX3_init_53 : decode cX3_init 53 = .ok (.putfield 33, 3) := by decide +kernel
theorem dX3_init_56 : decode cX3_init 56 = .ok (.aload_n 0, 1) := by decide +kernel
theorem dX3_init_57 : decode cX3_init 57 = .ok (.bipush 32, 2) := by decide +kernel
theorem dX3_init_59 : decode cX3_init 59 = .ok (.newarray .int, 2) := by decide +kernel
theorem dX3_init_61 : decode cX3_init 61 = .ok (.putfield 37, 3) := by decide +kernel
theorem dX3_init_64 : decode cX3_init 64 = .ok (.return_, 1) := by decide +kernel
theorem dX3_unwatch_0 : decode cX3_unwatch 0 = .ok (.aload_n 0, 1) := by decide +kernel
theorem dX3_unwatch_1 : decode cX3_unwatch 1 = .ok (.iconst 0, 1) := by decide +kernel
theorem dX3_unwatch_2 : decode cX3_unwatch 2 = .ok (.putfield 62, 3) := by decide +kernel
theorem dX3_unwatch_5 : decode cX3_unwatch 5 = .ok (.aload_n 0, 1) := by decide +kernel
theorem dX3_unwatch_6 : decode cX3_unwatch 6 = .ok (.iconst 0, 1) := by decide +kernel
theorem dX3_unwatch_7 : decode cX3_unwatch 7 = .ok (.putfield 65, 3) := by decide +kernel
theorem dX3_unwatch_10 : decode cX3_unwatch 10 = .ok (.return_, 1) := by decide +kernel
theorem dX4_init_0 : decode cX4_init 0 = .ok (.aload_n 0, 1) := by decide +kernel
theorem dX4_init_1 : decode cX4_init 1 = .ok (.invokespecial 3, 3) := by decide +kernel
theorem dX4_init_4 : decode cX4_init 4 = .ok (.aload_n 0, 1) := by decide +kernel
theorem dX4_init_5 : decode cX4_init 5 = .ok (.bipush 64, 2) := by decide +kernel
theorem dX4_init_7 : decode cX4_init 7 = .ok (.newarray .int, 2) := by decide +kernel
theorem dX4_init_9 : decode cX4_init 9 = .ok (.putfield 9, 3) := by decide +kernel
theorem dX4_init_12 : decode cX4_init 12 = .ok (.aload_n 0, 1) := by decide +kernel
theorem dX4_init_13 : decode cX4_init 13 = .ok (.bipush 64, 2) := by decide +kernel
theorem dX4_init_15 : decode cX4_init 15 = .ok (.newarray .int, 2) := by decide +kernel
theorem dX4_init_17 : decode cX4_init 17 = .ok (.putfield 15, 3) := by decide +kernel
theorem dX4_init_20 : decode cX4_init 20 = .ok (.aload_n 0, 1) := by decide +kernel
theorem dX4_init_21 : decode cX4_init 21 = .ok (.bipush 64, 2) := by decide +kernel
theorem dX4_init_23 : decode cX4_init 23 = .ok (.anewarray 18, 3) := by decide +kernel
theorem dX4_init_26 : decode cX4_init 26 = .ok (.putfield 20, 3) := by decide +kernel
theorem dX4_init_29 : decode cX4_init 29 = .ok (.aload_n 0, 1) := by decide +kernel
theorem dX4_init_30 : decode cX4_init 30 = .ok (.bipush 64, 2) := by decide +kernel
theorem dX4_init_32 : decode cX4_init 32 = .ok (.newarray .byte, 2) := by decide +kernel
theorem dX4_init_34 : decode cX4_init 34 = .ok (.putfield 24, 3) := by decide +kernel
theorem dX4_init_37 : decode cX4_init 37 = .ok (.aload_n 0, 1) := by decide +kernel
theorem dX4_init_38 : decode cX4_init 38 = .ok (.iconst 0, 1) := by decide +kernel
theorem dX4_init_39 : decode cX4_init 39 = .ok (.newarray .byte, 2) := by decide +kernel
theorem dX4_init_41 : decode cX4_init 41 = .ok (.putfield 28, 3) := by decide +kernel
theorem dX4_init_44 : decode cX4_init 44 = .ok (.aload_n 0, 1) := by decide +kernel
theorem dX4_init_45 : decode cX4_init 45 = .ok (.bipush 64, 2) := by decide +kernel
theorem dX4_init_47 : decode cX4_init 47 = .ok (.newarray .long, 2) := by decide +kernel
theorem dX4_init_49 : decode cX4_init 49 = .ok (.putfield 31, 3) := by decide +kernel
theorem dX4_init_52 : decode cX4_init 52 = .ok (.aload_n 0, 1) := by decide +kernel
theorem dX4_init_53 : decode cX4_init 53 = .ok (.iconst 0, 1) := by decide +kernel
theorem dX4_init_54 : decode cX4_init 54 = .ok (.newarray .long, 2) := by decide +kernel
theorem dX4_init_56 : decode cX4_init 56 = .ok (.putfield 35, 3) := by decide +kernel
theorem dX4_init_59 : decode cX4_init 59 = .ok (.aload_n 0, 1) := by decide +kernel
theorem dX4_init_60 : decode cX4_init 60 = .ok (.aload_n 1, 1) := by decide +kernel
theorem dX4_init_61 : decode cX4_init 61 = .ok (.putfield 38, 3) := by decide +kernel
theorem dX4_init_64 : decode cX4_init 64 = .ok (.aload_n 0, 1) := by decide +kernel
theorem dX4_init_65 : decode cX4_init 65 = .ok (.aload_n 2, 1) := by decide +kernel
theorem dX4_init_66 : decode cX4_init 66 = .ok (.putfield 42, 3) := by decide +kernel
theorem dX4_init_69 : decode cX4_init 69 = .ok (.aload_n 0, 1) := by decide +kernel
theorem dX4_init_70 : decode cX4_init 70 = .ok (.aload_n 3, 1) := by decide +kernel
theorem dX4_init_71 : decode cX4_init 71 = .ok (.putfield 46, 3) := by decide +kernel
theorem dX4_init_74 : decode cX4_init 74 = .ok (.return_, 1) := by decide +kernel
theorem dX5_init_0 : decode cX5_init 0 = .ok (.aload_n 0, 1) := by decide +kernel
theorem dX5_init_1 : decode cX5_init 1 = .ok (.invokespecial 3, 3) := by decide +kernel
theorem dX5_init_4 : decode cX5_init 4 = .ok (.aload_n 0, 1) := by decide +kernel
theorem dX5_init_5 : decode cX5_init 5 = .ok (.aload_n 1, 1) := by decide +kernel
theorem dX5_init_6 : decode cX5_init 6 = .ok (.putfield 9, 3) := by decide +kernel
theorem dX5_init_9 : decode cX5_init 9 = .ok (.aload_n 0, 1) := by decide +kernel
theorem dX5_init_10 : decode cX5_init 10 = .ok (.aload_n 2, 1) := by decide +kernel
theorem dX5_init_11 : decode cX5_init 11 = .ok (.putfield 15, 3) := by decide +kernel
theorem dX5_init_14 : decode cX5_init 14 = .ok (.aload_n 0, 1) := by decide +kernel
theorem dX5_init_15 : decode cX5_init 15 = .ok (.aload_n 3, 1) := by decide +kernel
theorem dX5_init_16 : decode cX5_init 16 = .ok (.putfield 19, 3) := by decide +kernel
theorem dX5_init_19 : decode cX5_init 19 = .ok (.return_, 1) := by decide +kernel
theorem dX6_init_0 : decode cX6_init 0 = .ok (.aload_n 0, 1) := by decide +kernel
theorem dX6_init_1 : decode cX6_init 1 = .ok (.invokespecial 3, 3) := by decide +kernel
theorem dX6_init_4 : decode cX6_init 4 = .ok (.aload_n 0, 1) := by decide +kernel
theorem dX6_init_5 : decode cX6_init 5 = .ok (.new 9, 3) := by decide +kernel
theorem dX6_init_8 : decode cX6_init 8 = .ok (.dup, 1) := by decide +kernel
theorem dX6_init_9 : decode cX6_init 9 = .ok (.bipush 32, 2) := by decide +kernel
theorem dX6_init_11 : decode cX6_init 11 = .ok (.invokespecial 11, 3) := by decide +kernel
theorem dX6_init_14 : decode cX6_init 14 = .ok (.putfield 14, 3) := by decide +kernel
theorem dX6_init_17 : decode cX6_init 17 = .ok (.aload_n 0, 1) := by decide +kernel
theorem dX6_init_18 : decode cX6_init 18 = .ok (.bipush 64, 2) := by decide +kernel
theorem dX6_init_20 : decode cX6_init 20 = .ok (.newarray .int, 2) := by decide +kernel
theorem dX6_init_22 : decode cX6_init 22 = .ok (.putfield 20, 3) := by decide +kernel
theorem dX6_init_25 : decode cX6_init 25 = .ok (.aload_n 0, 1) := by decide +kernel
theorem dX6_init_26 : decode cX6_init 26 = .ok (.aload_n 1, 1) := by decide +kernel
theorem dX6_init_27 : decode cX6_init 27 = .ok (.putfield 24, 3) := by decide +kernel
theorem dX6_init_30 : decode cX6_init 30 = .ok (.aload_n 0, 1) := by decide +kernel
theorem dX6_init_31 : decode cX6_init 31 = .ok (.aload_n 2, 1) := by decide +kernel
theorem dX6_init_32 : decode cX6_init 32 = .ok (.putfield 28, 3) := by decide +kernel
theorem dX6_init_35 : decode cX6_init 35 = .ok (.aload_n 0, 1) := by decide +kernel
theorem dX6_init_36 : decode cX6_init 36 = .ok (.aload_n 3, 1) := by decide +kernel
theorem dX6_init_37 : decode cX6_init 37 = .ok (.putfield 32, 3) := by decide +kernel
theorem dX6_init_40 : decode cX6_init 40 = .ok (.return_, 1) := by decide +kernel
theorem dX7_init_0 : decode cX7_init 0 = .ok (.aload_n 0, 1) := by decide +kernel
theorem dX7_init_1 : decode cX7_init 1 = .ok (.invokespecial 3, 3) := by decide +kernel
theorem dX7_init_4 : decode cX7_init 4 = .ok (.aload_n 0, 1) := by decide +kernel
theorem dX7_init_5 : decode cX7_init 5 = .ok (.aload_n 1, 1) := by decide +kernel
theorem dX7_init_6 : decode cX7_init 6 = .ok (.putfield 9, 3) := by decide +kernel
theorem dX7_init_9 : decode cX7_init 9 = .ok (.aload_n 0, 1) := by decide +kernel
theorem dX7_init_10 : decode cX7_init 10 = .ok (.aload_n 2, 1) := by decide +kernel
theorem dX7_init_11 : decode cX7_init 11 = .ok (.putfield 15, 3) := by decide +kernel
theorem dX7_init_14 : decode cX7_init 14 = .ok (.aload_n 0, 1) := by decide +kernel
theorem dX7_init_15 : decode cX7_init 15 = .ok (.aload_n 3, 1) := by decide +kernel
theorem dX7_init_16 : decode cX7_init 16 = .ok (.putfield 19, 3) := by decide +kernel
theorem dX7_init_19 : decode cX7_init 19 = .ok (.return_, 1) := by decide +kernel
theorem dX8_init_0 : decode cX8_init 0 = .ok (.aload_n 0, 1) := by decide +kernel
theorem dX8_init_1 : decode cX8_init 1 = .ok (.invokespecial 3, 3) := by decide +kernel
theorem dX8_init_4 : decode cX8_init 4 = .ok (.aload_n 0, 1) := by decide +kernel
theorem dX8_init_5 : decode cX8_init 5 = .ok (.sipush 1024, 3) := by decide +kernel
theorem dX8_init_8 : decode cX8_init 8 = .ok (.newarray .int, 2) := by decide +kernel
theorem dX8_init_10 : decode cX8_init 10 = .ok (.putfield 11, 3) := by decide +kernel
theorem dX8_init_13 : decode cX8_init 13 = .ok (.aload_n 0, 1) := by decide +kernel
theorem dX8_init_14 : decode cX8_init 14 = .ok (.sipush 1024, 3) := by decide +kernel
theorem dX8_init_17 : decode cX8_init 17 = .ok (.newarray .int, 2) := by decide +kernel
theorem dX8_init_19 : decode cX8_init 19 = .ok (.putfield 15, 3) := by decide +kernel
theorem dX8_init_22 : decode cX8_init 22 = .ok (.aload_n 0, 1) := by decide +kernel
theorem dX8_init_23 : decode cX8_init 23 = .ok (.iconst 0, 1) := by decide +kernel
theorem dX8_init_24 : decode cX8_init 24 = .ok (.newarray .byte, 2) := by decide +kernel
theorem dX8_init_26 : decode cX8_init 26 = .ok (.putfield 18, 3) := by decide +kernel
theorem dX8_init_29 : decode cX8_init 29 = .ok (.aload_n 0, 1) := by decide +kernel
theorem dX8_init_30 : decode cX8_init 30 = .ok (.aload_n 1, 1) := by decide +kernel
theorem dX8_init_31 : decode cX8_init 31 = .ok (.putfield 22, 3) := by decide +kernel
theorem dX8_init_34 : decode cX8_init 34 = .ok (.aload_n 0, 1) := by decide +kernel
theorem dX8_init_35 : decode cX8_init 35 = .ok (.new 26, 3) := by decide +kernel
theorem dX8_init_38 : decode cX8_init 38 = .ok (.dup, 1) := by decide +kernel
theorem dX8_init_39 : decode cX8_init 39 = .ok (.iconst 0, 1) := by decide +kernel
theorem dX8_init_40 : decode cX8_init 40 = .ok (.invokespecial 28, 3) := by decide +kernel
theorem dX8_init_43 : decode cX8_init 43 = .ok (.putfield 31, 3) := by decide +kernel
theorem dX8_init_46 : decode cX8_init 46 = .ok (.return_, 1) := by decide +kernel
theorem dX8_read_0 : decode cX8_read 0 = .ok (.aload_n 0, 1) := by decide +kernel
theorem dX8_read_1 : decode cX8_read 1 = .ok (.aload_n 1, 1) := by decide +kernel
theorem dX8_read_2 : decode cX8_read 2 = .ok (.putfield 18, 3) := by decide +kernel
theorem dX8_read_5 : decode cX8_read 5 = .ok (.aload_n 0, 1) := by decide +kernel
theorem dX8_read_6 : decode cX8_read 6 = .ok (.iconst 0, 1) := by decide +kernel
theorem dX8_read_7 : decode cX8_read 7 = .ok (.putfield 35, 3) := by decide +kernel
theorem dX8_read_10 : decode cX8_read 10 = .ok (.aload_n 0, 1) := by decide +kernel
theorem dX8_read_11 : decode cX8_read 11 = .ok (.iload_n 2, 1) := by decide +kernel
theorem dX8_read_12 : decode cX8_read 12 = .ok (.putfield 39, 3) := by decide +kernel
theorem dX8_read_15 : decode cX8_read 15 = .ok (.iload_n 2, 1) := by decide +kernel
theorem dX8_read_16 : decode cX8_read 16 = .ok (.ifCond .lt 14, 3) := by decide +kernel
theorem dX8_read_19 : decode cX8_read 19 = .ok (.iload_n 2, 1) := by decide +kernel
theorem dX8_read_20 : decode cX8_read 20 = .ok (.iload_n 3, 1) := by decide +kernel
theorem dX8_read_21 : decode cX8_read 21 = .ok (.if_icmp .ge 9, 3) := by decide +kernel
theorem dX8_read_30 : decode cX8_read 30 = .ok (.iconst 1, 1) := by decide +kernel
theorem dX8_read_31 : decode cX8_read 31 = .ok (.ireturn, 1) := by decide +kernel
theorem dX9_init_0 : decode cX9_init 0 = .ok (.aload_n 0, 1) := by decide +kernel
theorem dX9_init_1 : decode cX9_init 1 = .ok (.invokespecial 3, 3) := by decide +kernel
theorem dX9_init_4 : decode cX9_init 4 = .ok (.aload_n 0, 1) := by decide +kernel
theorem dX9_init_5 : decode cX9_init 5 = .ok (.new 9, 3) := by decide +kernel
theorem dX9_init_8 : decode cX9_init 8 = .ok (.dup, 1) := by decide +kernel
theorem dX9_init_9 : decode cX9_init 9 = .ok (.bipush 32, 2) := by decide +kernel
theorem dX9_init_11 : decode cX9_init 11 = .ok (.invokespecial 11, 3) := by decide +kernel
theorem dX9_init_14 : decode cX9_init 14 = .ok (.putfield 14, 3) := by decide +kernel
theorem dX9_init_17 : decode cX9_init 17 = .ok (.aload_n 0, 1) := by decide +kernel
theorem dX9_init_18 : decode cX9_init 18 = .ok (.aload_n 1, 1) := by decide +kernel
theorem dX9_init_19 : decode cX9_init 19 = .ok (.putfield 20, 3) := by decide +kernel
theorem dX9_init_22 : decode cX9_init 22 = .ok (.aload_n 0, 1) := by decide +kernel
theorem dX9_init_23 : decode cX9_init 23 = .ok (.aload_n 2, 1) := by decide +kernel
theorem dX9_init_24 : decode cX9_init 24 = .ok (.putfield 24, 3) := by decide +kernel
theorem dX9_init_27 : decode cX9_init 27 = .ok (.return_, 1) := by decide +kernel
