def RX10 : String := "KeySteward$Value"
def RJ10 : String := "java/lang/System"
def RJ7 : String := "java/util/Arrays"
def RX1 : String := "KeySteward$Bytes"
def TX1 : u_T := fun k => match k with
  | 0 => ("KeySteward$Bytes", "most", "I", true)
  | 1 => ("KeySteward$Bytes", "row", "[B", false)
  | 2 => ("KeySteward$Bytes", "size", "I", false)
  | _ => ("KeySteward$Bytes", "burst", "Z", false)
def tyX1 : Nat → FieldType := fun k => match k with
  | 0 => .int
  | 1 => .array .byte
  | 2 => .int
  | _ => .boolean
theorem nmX1 : ∀ a, a < 4 → ∀ b, b < 4 → a ≠ b → (TX1 a).2.1 ≠ (TX1 b).2.1 := by decide +kernel
theorem tyX1_ok : ∀ k, k < 4 → parseFieldDescriptor (TX1 k).2.2.1 = some (tyX1 k) := by decide +kernel
theorem df_X1 : ∀ j, j < 4 → defaultValue (tyX1 j) = vp_V [.int 0, .null, .int 0, .int 0] j := by decide +kernel
def RX3 : String := "KeySteward$Connection"
def TX3 : u_T := fun k => match k with
  | 0 => ("KeySteward$Connection", "live", "Z", false)
  | 1 => ("KeySteward$Connection", "input", "LKeySteward$Bytes;", true)
  | 2 => ("KeySteward$Connection", "output", "LKeySteward$Bytes;", true)
  | 3 => ("KeySteward$Connection", "block", "LKeySteward$Bytes;", false)
  | 4 => ("KeySteward$Connection", "queues", "Z", false)
  | 5 => ("KeySteward$Connection", "spoilt", "Z", false)
  | 6 => ("KeySteward$Connection", "dirty", "Z", false)
  | 7 => ("KeySteward$Connection", "queued", "I", false)
  | 8 => ("KeySteward$Connection", "watches", "[I", true)
  | 9 => ("KeySteward$Connection", "watchCount", "I", false)
  | 10 => ("KeySteward$Connection", "channels", "[I", true)
  | _ => ("KeySteward$Connection", "channelCount", "I", false)
def tyX3 : Nat → FieldType := fun k => match k with
  | 0 => .boolean
  | 1 => .object "KeySteward$Bytes"
  | 2 => .object "KeySteward$Bytes"
  | 3 => .object "KeySteward$Bytes"
  | 4 => .boolean
  | 5 => .boolean
  | 6 => .boolean
  | 7 => .int
  | 8 => .array .int
  | 9 => .int
  | 10 => .array .int
  | _ => .int
theorem nmX3 : ∀ a, a < 12 → ∀ b, b < 12 → a ≠ b → (TX3 a).2.1 ≠ (TX3 b).2.1 := by decide +kernel
theorem tyX3_ok : ∀ k, k < 12 → parseFieldDescriptor (TX3 k).2.2.1 = some (tyX3 k) := by decide +kernel
theorem df_X3 : ∀ j, j < 12 → defaultValue (tyX3 j) = vp_V [.int 0, .null, .null, .null, .int 0, .int 0, .int 0, .int 0, .null, .int 0, .null, .int 0] j := by decide +kernel
def RX11 : String := "KeySteward$Words"
def TX11 : u_T := fun k => match k with
  | 0 => ("KeySteward$Words", "bytes", "[B", false)
  | 1 => ("KeySteward$Words", "starts", "[I", false)
  | 2 => ("KeySteward$Words", "chain", "[I", false)
  | 3 => ("KeySteward$Words", "heads", "[I", true)
  | _ => ("KeySteward$Words", "count", "I", false)
def tyX11 : Nat → FieldType := fun k => match k with
  | 0 => .array .byte
  | 1 => .array .int
  | 2 => .array .int
  | 3 => .array .int
  | _ => .int
theorem nmX11 : ∀ a, a < 5 → ∀ b, b < 5 → a ≠ b → (TX11 a).2.1 ≠ (TX11 b).2.1 := by decide +kernel
theorem tyX11_ok : ∀ k, k < 5 → parseFieldDescriptor (TX11 k).2.2.1 = some (tyX11 k) := by decide +kernel
theorem df_X11 : ∀ j, j < 5 → defaultValue (tyX11 j) = vp_V [.null, .null, .null, .null, .int 0] j := by decide +kernel
def RX8 : String := "KeySteward$Request"
def TX8 : u_T := fun k => match k with
  | 0 => ("KeySteward$Request", "words", "LKeySteward$Words;", true)
  | 1 => ("KeySteward$Request", "starts", "[I", true)
  | 2 => ("KeySteward$Request", "lengths", "[I", true)
  | 3 => ("KeySteward$Request", "row", "[B", false)
  | 4 => ("KeySteward$Request", "count", "I", false)
  | 5 => ("KeySteward$Request", "next", "I", false)
  | 6 => ("KeySteward$Request", "answer", "LKeySteward$Bytes;", false)
  | 7 => ("KeySteward$Request", "refusal", "Ljava/lang/String;", false)
  | 8 => ("KeySteward$Request", "command", "LKeySteward$Command;", false)
  | 9 => ("KeySteward$Request", "number", "J", false)
  | 10 => ("KeySteward$Request", "first", "J", false)
  | 11 => ("KeySteward$Request", "low", "I", false)
  | 12 => ("KeySteward$Request", "high", "I", false)
  | 13 => ("KeySteward$Request", "form", "I", false)
  | 14 => ("KeySteward$Request", "valueIndex", "I", false)
  | 15 => ("KeySteward$Request", "keeps", "Z", false)
  | _ => ("KeySteward$Request", "time", "J", false)
def tyX8 : Nat → FieldType := fun k => match k with
  | 0 => .object "KeySteward$Words"
  | 1 => .array .int
  | 2 => .array .int
  | 3 => .array .byte
  | 4 => .int
  | 5 => .int
  | 6 => .object "KeySteward$Bytes"
  | 7 => .object "java/lang/String"
  | 8 => .object "KeySteward$Command"
  | 9 => .long
  | 10 => .long
  | 11 => .int
  | 12 => .int
  | 13 => .int
  | 14 => .int
  | 15 => .boolean
  | _ => .long
theorem nmX8 : ∀ a, a < 17 → ∀ b, b < 17 → a ≠ b → (TX8 a).2.1 ≠ (TX8 b).2.1 := by decide +kernel
theorem tyX8_ok : ∀ k, k < 17 → parseFieldDescriptor (TX8 k).2.2.1 = some (tyX8 k) := by decide +kernel
theorem df_X8 : ∀ j, j < 17 → defaultValue (tyX8 j) = vp_V [.null, .null, .null, .null, .int 0, .int 0, .null, .null, .null, .long 0, .long 0, .int 0, .int 0, .int 0, .int 0, .int 0, .long 0] j := by decide +kernel
def RX4 : String := "KeySteward$Keys"
def TX4 : u_T := fun k => match k with
  | 0 => ("KeySteward$Keys", "words", "LKeySteward$Words;", true)
  | 1 => ("KeySteward$Keys", "ask", "LKeySteward$Request;", true)
  | 2 => ("KeySteward$Keys", "watchers", "[LKeySteward$Connection;", true)
  | 3 => ("KeySteward$Keys", "ids", "[I", false)
  | 4 => ("KeySteward$Keys", "slots", "[I", false)
  | 5 => ("KeySteward$Keys", "shelf", "[LKeySteward$Value;", false)
  | 6 => ("KeySteward$Keys", "made", "I", false)
  | 7 => ("KeySteward$Keys", "texts", "[B", false)
  | 8 => ("KeySteward$Keys", "nextTexts", "[B", false)
  | 9 => ("KeySteward$Keys", "textsEnd", "I", false)
  | 10 => ("KeySteward$Keys", "cells", "[J", false)
  | 11 => ("KeySteward$Keys", "nextCells", "[J", false)
  | 12 => ("KeySteward$Keys", "cellsEnd", "I", false)
  | 13 => ("KeySteward$Keys", "count", "I", false)
  | 14 => ("KeySteward$Keys", "memory", "I", false)
  | 15 => ("KeySteward$Keys", "timed", "I", false)
  | 16 => ("KeySteward$Keys", "clock", "J", false)
  | 17 => ("KeySteward$Keys", "replaying", "Z", false)
  | _ => ("KeySteward$Keys", "changed", "Z", false)
def tyX4 : Nat → FieldType := fun k => match k with
  | 0 => .object "KeySteward$Words"
  | 1 => .object "KeySteward$Request"
  | 2 => .array (.object "KeySteward$Connection")
  | 3 => .array .int
  | 4 => .array .int
  | 5 => .array (.object "KeySteward$Value")
  | 6 => .int
  | 7 => .array .byte
  | 8 => .array .byte
  | 9 => .int
  | 10 => .array .long
  | 11 => .array .long
  | 12 => .int
  | 13 => .int
  | 14 => .int
  | 15 => .int
  | 16 => .long
  | 17 => .boolean
  | _ => .boolean
theorem nmX4 : ∀ a, a < 19 → ∀ b, b < 19 → a ≠ b → (TX4 a).2.1 ≠ (TX4 b).2.1 := by decide +kernel
theorem tyX4_ok : ∀ k, k < 19 → parseFieldDescriptor (TX4 k).2.2.1 = some (tyX4 k) := by decide +kernel
theorem df_X4 : ∀ j, j < 19 → defaultValue (tyX4 j) = vp_V [.null, .null, .null, .null, .null, .null, .int 0, .null, .null, .int 0, .null, .null, .int 0, .int 0, .int 0, .int 0, .long 0, .int 0, .int 0] j := by decide +kernel
def RX9 : String := "KeySteward$Texts"
def TX9 : u_T := fun k => match k with
  | 0 => ("KeySteward$Texts", "ask", "LKeySteward$Request;", true)
  | 1 => ("KeySteward$Texts", "keys", "LKeySteward$Keys;", true)
  | 2 => ("KeySteward$Texts", "numeral", "LKeySteward$Bytes;", true)
  | 3 => ("KeySteward$Texts", "condition", "I", false)
  | 4 => ("KeySteward$Texts", "gets", "Z", false)
  | 5 => ("KeySteward$Texts", "timing", "I", false)
  | _ => ("KeySteward$Texts", "timeIndex", "I", false)
def tyX9 : Nat → FieldType := fun k => match k with
  | 0 => .object "KeySteward$Request"
  | 1 => .object "KeySteward$Keys"
  | 2 => .object "KeySteward$Bytes"
  | 3 => .int
  | 4 => .boolean
  | 5 => .int
  | _ => .int
theorem nmX9 : ∀ a, a < 7 → ∀ b, b < 7 → a ≠ b → (TX9 a).2.1 ≠ (TX9 b).2.1 := by decide +kernel
theorem tyX9_ok : ∀ k, k < 7 → parseFieldDescriptor (TX9 k).2.2.1 = some (tyX9 k) := by decide +kernel
theorem df_X9 : ∀ j, j < 7 → defaultValue (tyX9 j) = vp_V [.null, .null, .null, .int 0, .int 0, .int 0, .int 0] j := by decide +kernel
def RX5 : String := "KeySteward$Lists"
def TX5 : u_T := fun k => match k with
  | 0 => ("KeySteward$Lists", "words", "LKeySteward$Words;", true)
  | 1 => ("KeySteward$Lists", "ask", "LKeySteward$Request;", true)
  | _ => ("KeySteward$Lists", "keys", "LKeySteward$Keys;", true)
def tyX5 : Nat → FieldType := fun k => match k with
  | 0 => .object "KeySteward$Words"
  | 1 => .object "KeySteward$Request"
  | _ => .object "KeySteward$Keys"
theorem nmX5 : ∀ a, a < 3 → ∀ b, b < 3 → a ≠ b → (TX5 a).2.1 ≠ (TX5 b).2.1 := by decide +kernel
theorem tyX5_ok : ∀ k, k < 3 → parseFieldDescriptor (TX5 k).2.2.1 = some (tyX5 k) := by decide +kernel
theorem df_X5 : ∀ j, j < 3 → defaultValue (tyX5 j) = vp_V [.null, .null, .null] j := by decide +kernel
def RX6 : String := "KeySteward$Members"
def TX6 : u_T := fun k => match k with
  | 0 => ("KeySteward$Members", "words", "LKeySteward$Words;", true)
  | 1 => ("KeySteward$Members", "ask", "LKeySteward$Request;", true)
  | 2 => ("KeySteward$Members", "keys", "LKeySteward$Keys;", true)
  | 3 => ("KeySteward$Members", "numeral", "LKeySteward$Bytes;", true)
  | 4 => ("KeySteward$Members", "pot", "[I", false)
  | _ => ("KeySteward$Members", "potSize", "I", false)
def tyX6 : Nat → FieldType := fun k => match k with
  | 0 => .object "KeySteward$Words"
  | 1 => .object "KeySteward$Request"
  | 2 => .object "KeySteward$Keys"
  | 3 => .object "KeySteward$Bytes"
  | 4 => .array .int
  | _ => .int
theorem nmX6 : ∀ a, a < 6 → ∀ b, b < 6 → a ≠ b → (TX6 a).2.1 ≠ (TX6 b).2.1 := by decide +kernel
theorem tyX6_ok : ∀ k, k < 6 → parseFieldDescriptor (TX6 k).2.2.1 = some (tyX6 k) := by decide +kernel
theorem df_X6 : ∀ j, j < 6 → defaultValue (tyX6 j) = vp_V [.null, .null, .null, .null, .null, .int 0] j := by decide +kernel
def RX7 : String := "KeySteward$Orders"
def TX7 : u_T := fun k => match k with
  | 0 => ("KeySteward$Orders", "words", "LKeySteward$Words;", true)
  | 1 => ("KeySteward$Orders", "ask", "LKeySteward$Request;", true)
  | 2 => ("KeySteward$Orders", "keys", "LKeySteward$Keys;", true)
  | 3 => ("KeySteward$Orders", "flags", "I", false)
  | 4 => ("KeySteward$Orders", "firstPair", "I", false)
  | 5 => ("KeySteward$Orders", "withScores", "Z", false)
  | 6 => ("KeySteward$Orders", "limitIndex", "I", false)
  | 7 => ("KeySteward$Orders", "excludes", "Z", false)
  | _ => ("KeySteward$Orders", "infinite", "I", false)
def tyX7 : Nat → FieldType := fun k => match k with
  | 0 => .object "KeySteward$Words"
  | 1 => .object "KeySteward$Request"
  | 2 => .object "KeySteward$Keys"
  | 3 => .int
  | 4 => .int
  | 5 => .boolean
  | 6 => .int
  | 7 => .boolean
  | _ => .int
theorem nmX7 : ∀ a, a < 9 → ∀ b, b < 9 → a ≠ b → (TX7 a).2.1 ≠ (TX7 b).2.1 := by decide +kernel
theorem tyX7_ok : ∀ k, k < 9 → parseFieldDescriptor (TX7 k).2.2.1 = some (tyX7 k) := by decide +kernel
theorem df_X7 : ∀ j, j < 9 → defaultValue (tyX7 j) = vp_V [.null, .null, .null, .int 0, .int 0, .int 0, .int 0, .int 0, .int 0] j := by decide +kernel
def RX12 : String := "KeySteward"
def TX12 : u_T := fun k => match k with
  | 0 => ("KeySteward", "tape", "LKeySteward$Bytes;", true)
  | 1 => ("KeySteward", "mute", "LKeySteward$Bytes;", true)
  | 2 => ("KeySteward", "connections", "[LKeySteward$Connection;", true)
  | 3 => ("KeySteward", "words", "LKeySteward$Words;", true)
  | 4 => ("KeySteward", "ask", "LKeySteward$Request;", true)
  | 5 => ("KeySteward", "keys", "LKeySteward$Keys;", true)
  | 6 => ("KeySteward", "texts", "LKeySteward$Texts;", true)
  | 7 => ("KeySteward", "lists", "LKeySteward$Lists;", true)
  | 8 => ("KeySteward", "members", "LKeySteward$Members;", true)
  | 9 => ("KeySteward", "orders", "LKeySteward$Orders;", true)
  | 10 => ("KeySteward", "journal", "LKeySteward$Bytes;", false)
  | 11 => ("KeySteward", "nextJournal", "LKeySteward$Bytes;", false)
  | 12 => ("KeySteward", "running", "LKeySteward$Bytes;", false)
  | 13 => ("KeySteward", "runsBlock", "Z", false)
  | 14 => ("KeySteward", "notedBlock", "Z", false)
  | 15 => ("KeySteward", "blockPlace", "I", false)
  | 16 => ("KeySteward", "fuseLeft", "I", false)
  | _ => ("KeySteward", "up", "Z", false)
def tyX12 : Nat → FieldType := fun k => match k with
  | 0 => .object "KeySteward$Bytes"
  | 1 => .object "KeySteward$Bytes"
  | 2 => .array (.object "KeySteward$Connection")
  | 3 => .object "KeySteward$Words"
  | 4 => .object "KeySteward$Request"
  | 5 => .object "KeySteward$Keys"
  | 6 => .object "KeySteward$Texts"
  | 7 => .object "KeySteward$Lists"
  | 8 => .object "KeySteward$Members"
  | 9 => .object "KeySteward$Orders"
  | 10 => .object "KeySteward$Bytes"
  | 11 => .object "KeySteward$Bytes"
  | 12 => .object "KeySteward$Bytes"
  | 13 => .boolean
  | 14 => .boolean
  | 15 => .int
  | 16 => .int
  | _ => .boolean
theorem nmX12 : ∀ a, a < 18 → ∀ b, b < 18 → a ≠ b → (TX12 a).2.1 ≠ (TX12 b).2.1 := by decide +kernel
theorem tyX12_ok : ∀ k, k < 18 → parseFieldDescriptor (TX12 k).2.2.1 = some (tyX12 k) := by decide +kernel
theorem df_X12 : ∀ j, j < 18 → defaultValue (tyX12 j) = vp_V [.null, .null, .null, .null, .null, .null, .null, .null, .null, .null, .null, .null, .null, .int 0, .int 0, .int 0, .int 0, .int 0] j := by decide +kernel
def TX10 : u_T := fun k => match k with
  | 0 => ("KeySteward$Value", "keys", "LKeySteward$Keys;", true)
  | 1 => ("KeySteward$Value", "kind", "I", false)
  | 2 => ("KeySteward$Value", "parts", "I", false)
  | 3 => ("KeySteward$Value", "ends", "J", false)
  | 4 => ("KeySteward$Value", "weight", "I", false)
  | 5 => ("KeySteward$Value", "counted", "I", false)
  | 6 => ("KeySteward$Value", "size", "I", false)
  | 7 => ("KeySteward$Value", "start", "I", false)
  | _ => ("KeySteward$Value", "room", "I", false)
def tyX10 : Nat → FieldType := fun k => match k with
  | 0 => .object "KeySteward$Keys"
  | 1 => .int
  | 2 => .int
  | 3 => .long
  | 4 => .int
  | 5 => .int
  | 6 => .int
  | 7 => .int
  | _ => .int
theorem nmX10 : ∀ a, a < 9 → ∀ b, b < 9 → a ≠ b → (TX10 a).2.1 ≠ (TX10 b).2.1 := by decide +kernel
theorem tyX10_ok : ∀ k, k < 9 → parseFieldDescriptor (TX10 k).2.2.1 = some (tyX10 k) := by decide +kernel
theorem df_X10 : ∀ j, j < 9 → defaultValue (tyX10 j) = vp_V [.null, .int 0, .int 0, .long 0, .int 0, .int 0, .int 0, .int 0, .int 0] j := by decide +kernel
def RX13 : String := "KeyStewardModel"
def TX13 : u_T := fun k => match k with
  | 0 => ("KeyStewardModel", "thrownCode", "I", false)
  | 1 => ("KeyStewardModel", "nameA", "[J", true)
  | 2 => ("KeyStewardModel", "nameB", "[J", true)
  | 3 => ("KeyStewardModel", "least", "[I", true)
  | 4 => ("KeyStewardModel", "most", "[I", true)
  | 5 => ("KeyStewardModel", "heavy", "[Z", true)
  | 6 => ("KeyStewardModel", "defined", "I", false)
  | 7 => ("KeyStewardModel", "heap", "[B", true)
  | 8 => ("KeyStewardModel", "heap2", "[B", true)
  | 9 => ("KeyStewardModel", "heapSize", "I", false)
  | 10 => ("KeyStewardModel", "keys", "I", false)
  | 11 => ("KeyStewardModel", "order", "[I", true)
  | 12 => ("KeyStewardModel", "kFree", "[I", true)
  | 13 => ("KeyStewardModel", "kFrees", "I", false)
  | 14 => ("KeyStewardModel", "kAt", "[I", true)
  | 15 => ("KeyStewardModel", "kLen", "[I", true)
  | 16 => ("KeyStewardModel", "kSort", "[I", true)
  | 17 => ("KeyStewardModel", "kTime", "[J", true)
  | 18 => ("KeyStewardModel", "kTimed", "[Z", true)
  | 19 => ("KeyStewardModel", "kHead", "[I", true)
  | 20 => ("KeyStewardModel", "kTail", "[I", true)
  | 21 => ("KeyStewardModel", "kMany", "[I", true)
  | 22 => ("KeyStewardModel", "tAt", "[I", true)
  | 23 => ("KeyStewardModel", "tLen", "[I", true)
  | 24 => ("KeyStewardModel", "eNext", "[I", true)
  | 25 => ("KeyStewardModel", "ePrev", "[I", true)
  | 26 => ("KeyStewardModel", "eAt", "[I", true)
  | 27 => ("KeyStewardModel", "eLen", "[I", true)
  | 28 => ("KeyStewardModel", "vAt", "[I", true)
  | 29 => ("KeyStewardModel", "vLen", "[I", true)
  | 30 => ("KeyStewardModel", "eScore", "[J", true)
  | 31 => ("KeyStewardModel", "eFree", "I", false)
  | 32 => ("KeyStewardModel", "req", "[B", true)
  | 33 => ("KeyStewardModel", "reqSize", "I", false)
  | 34 => ("KeyStewardModel", "aAt", "[I", true)
  | 35 => ("KeyStewardModel", "aLen", "[I", true)
  | 36 => ("KeyStewardModel", "words", "I", false)
  | 37 => ("KeyStewardModel", "opened", "[Z", true)
  | 38 => ("KeyStewardModel", "input", "[B", true)
  | 39 => ("KeyStewardModel", "inSize", "[I", true)
  | 40 => ("KeyStewardModel", "output", "[B", true)
  | 41 => ("KeyStewardModel", "outSize", "[I", true)
  | 42 => ("KeyStewardModel", "blocked", "[Z", true)
  | 43 => ("KeyStewardModel", "spoilt", "[Z", true)
  | 44 => ("KeyStewardModel", "queue", "[B", true)
  | 45 => ("KeyStewardModel", "queueEnd", "I", false)
  | 46 => ("KeyStewardModel", "queuedAt", "[I", true)
  | 47 => ("KeyStewardModel", "queued", "[I", true)
  | 48 => ("KeyStewardModel", "watches", "[I", true)
  | 49 => ("KeyStewardModel", "watchText", "[B", true)
  | 50 => ("KeyStewardModel", "watchEnd", "I", false)
  | 51 => ("KeyStewardModel", "watchAt", "[I", true)
  | 52 => ("KeyStewardModel", "watchLen", "[I", true)
  | 53 => ("KeyStewardModel", "disturbed", "[Z", true)
  | 54 => ("KeyStewardModel", "channels", "[I", true)
  | 55 => ("KeyStewardModel", "channelText", "[B", true)
  | 56 => ("KeyStewardModel", "channelEnd", "I", false)
  | 57 => ("KeyStewardModel", "channelAt", "[I", true)
  | 58 => ("KeyStewardModel", "channelLen", "[I", true)
  | 59 => ("KeyStewardModel", "answer", "[B", true)
  | 60 => ("KeyStewardModel", "answerSize", "I", false)
  | 61 => ("KeyStewardModel", "tooLong", "Z", false)
  | 62 => ("KeyStewardModel", "digits", "[B", true)
  | 63 => ("KeyStewardModel", "digitsSize", "I", false)
  | 64 => ("KeyStewardModel", "disk", "[B", true)
  | 65 => ("KeyStewardModel", "diskSize", "I", false)
  | 66 => ("KeyStewardModel", "pending", "[B", true)
  | 67 => ("KeyStewardModel", "pendingSize", "I", false)
  | 68 => ("KeyStewardModel", "burning", "I", false)
  | 69 => ("KeyStewardModel", "up", "Z", false)
  | 70 => ("KeyStewardModel", "replays", "Z", false)
  | 71 => ("KeyStewardModel", "inBlock", "Z", false)
  | 72 => ("KeyStewardModel", "now0", "J", false)
  | 73 => ("KeyStewardModel", "spelt", "[B", true)
  | 74 => ("KeyStewardModel", "num", "J", false)
  | 75 => ("KeyStewardModel", "n1", "J", false)
  | 76 => ("KeyStewardModel", "n2", "J", false)
  | 77 => ("KeyStewardModel", "optNx", "Z", false)
  | 78 => ("KeyStewardModel", "optXx", "Z", false)
  | 79 => ("KeyStewardModel", "optGet", "Z", false)
  | 80 => ("KeyStewardModel", "optKeep", "Z", false)
  | 81 => ("KeyStewardModel", "optGt", "Z", false)
  | 82 => ("KeyStewardModel", "optLt", "Z", false)
  | 83 => ("KeyStewardModel", "optCh", "Z", false)
  | 84 => ("KeyStewardModel", "optIncr", "Z", false)
  | 85 => ("KeyStewardModel", "optScores", "Z", false)
  | 86 => ("KeyStewardModel", "optLimit", "Z", false)
  | 87 => ("KeyStewardModel", "limitFrom", "J", false)
  | 88 => ("KeyStewardModel", "limitMany", "J", false)
  | 89 => ("KeyStewardModel", "timed", "Z", false)
  | 90 => ("KeyStewardModel", "time", "J", false)
  | 91 => ("KeyStewardModel", "pairs", "I", false)
  | 92 => ("KeyStewardModel", "lowScore", "J", false)
  | 93 => ("KeyStewardModel", "highScore", "J", false)
  | 94 => ("KeyStewardModel", "noScore", "Z", false)
  | 95 => ("KeyStewardModel", "limitAt", "I", false)
  | 96 => ("KeyStewardModel", "work", "[B", true)
  | 97 => ("KeyStewardModel", "workSize", "I", false)
  | 98 => ("KeyStewardModel", "from", "I", false)
  | 99 => ("KeyStewardModel", "upTo", "I", false)
  | 100 => ("KeyStewardModel", "behindSet", "I", false)
  | 101 => ("KeyStewardModel", "found", "I", false)
  | 102 => ("KeyStewardModel", "pile", "[B", true)
  | 103 => ("KeyStewardModel", "pileSize", "I", false)
  | 104 => ("KeyStewardModel", "mAt", "[I", true)
  | 105 => ("KeyStewardModel", "mLen", "[I", true)
  | 106 => ("KeyStewardModel", "members", "I", false)
  | 107 => ("KeyStewardModel", "cur", "I", false)
  | 108 => ("KeyStewardModel", "held", "[B", true)
  | 109 => ("KeyStewardModel", "lineNumber", "I", false)
  | 110 => ("KeyStewardModel", "lineEnd", "I", false)
  | 111 => ("KeyStewardModel", "faultWord", "I", false)
  | 112 => ("KeyStewardModel", "tape", "[B", true)
  | 113 => ("KeyStewardModel", "tapeSize", "I", false)
  | 114 => ("KeyStewardModel", "line0", "[B", true)
  | _ => ("KeyStewardModel", "logCommand", "I", false)
def tyX13 : Nat → FieldType := fun k => match k with
  | 0 => .int
  | 1 => .array .long
  | 2 => .array .long
  | 3 => .array .int
  | 4 => .array .int
  | 5 => .array .boolean
  | 6 => .int
  | 7 => .array .byte
  | 8 => .array .byte
  | 9 => .int
  | 10 => .int
  | 11 => .array .int
  | 12 => .array .int
  | 13 => .int
  | 14 => .array .int
  | 15 => .array .int
  | 16 => .array .int
  | 17 => .array .long
  | 18 => .array .boolean
  | 19 => .array .int
  | 20 => .array .int
  | 21 => .array .int
  | 22 => .array .int
  | 23 => .array .int
  | 24 => .array .int
  | 25 => .array .int
  | 26 => .array .int
  | 27 => .array .int
  | 28 => .array .int
  | 29 => .array .int
  | 30 => .array .long
  | 31 => .int
  | 32 => .array .byte
  | 33 => .int
  | 34 => .array .int
  | 35 => .array .int
  | 36 => .int
  | 37 => .array .boolean
  | 38 => .array .byte
  | 39 => .array .int
  | 40 => .array .byte
  | 41 => .array .int
  | 42 => .array .boolean
  | 43 => .array .boolean
  | 44 => .array .byte
  | 45 => .int
  | 46 => .array .int
  | 47 => .array .int
  | 48 => .array .int
  | 49 => .array .byte
  | 50 => .int
  | 51 => .array .int
  | 52 => .array .int
  | 53 => .array .boolean
  | 54 => .array .int
  | 55 => .array .byte
  | 56 => .int
  | 57 => .array .int
  | 58 => .array .int
  | 59 => .array .byte
  | 60 => .int
  | 61 => .boolean
  | 62 => .array .byte
  | 63 => .int
  | 64 => .array .byte
  | 65 => .int
  | 66 => .array .byte
  | 67 => .int
  | 68 => .int
  | 69 => .boolean
  | 70 => .boolean
  | 71 => .boolean
  | 72 => .long
  | 73 => .array .byte
  | 74 => .long
  | 75 => .long
  | 76 => .long
  | 77 => .boolean
  | 78 => .boolean
  | 79 => .boolean
  | 80 => .boolean
  | 81 => .boolean
  | 82 => .boolean
  | 83 => .boolean
  | 84 => .boolean
  | 85 => .boolean
  | 86 => .boolean
  | 87 => .long
  | 88 => .long
  | 89 => .boolean
  | 90 => .long
  | 91 => .int
  | 92 => .long
  | 93 => .long
  | 94 => .boolean
  | 95 => .int
  | 96 => .array .byte
  | 97 => .int
  | 98 => .int
  | 99 => .int
  | 100 => .int
  | 101 => .int
  | 102 => .array .byte
  | 103 => .int
  | 104 => .array .int
  | 105 => .array .int
  | 106 => .int
  | 107 => .int
  | 108 => .array .byte
  | 109 => .int
  | 110 => .int
  | 111 => .int
  | 112 => .array .byte
  | 113 => .int
  | 114 => .array .byte
  | _ => .int
theorem nmX13 : ∀ a, a < 116 → ∀ b, b < 116 → a ≠ b → (TX13 a).2.1 ≠ (TX13 b).2.1 := by decide +kernel
theorem tyX13_ok : ∀ k, k < 116 → parseFieldDescriptor (TX13 k).2.2.1 = some (tyX13 k) := by decide +kernel
theorem df_X13 : ∀ j, j < 116 → defaultValue (tyX13 j) = vp_V [.int 0, .null, .null, .null, .null, .null, .int 0, .null, .null, .int 0, .int 0, .null, .null, .int 0, .null, .null, .null, .null, .null, .null, .null, .null, .null, .null, .null, .null, .null, .null, .null, .null, .null, .int 0, .null, .int 0, .null, .null, .int 0, .null, .null, .null, .null, .null, .null, .null, .null, .int 0, .null, .null, .null, .null, .int 0, .null, .null, .null, .null, .null, .int 0, .null, .null, .null, .int 0, .int 0, .null, .int 0, .null, .int 0, .null, .int 0, .int 0, .int 0, .int 0, .int 0, .long 0, .null, .long 0, .long 0, .long 0, .int 0, .int 0, .int 0, .int 0, .int 0, .int 0, .int 0, .int 0, .int 0, .int 0, .long 0, .long 0, .int 0, .long 0, .int 0, .long 0, .long 0, .int 0, .int 0, .null, .int 0, .int 0, .int 0, .int 0, .int 0, .null, .int 0, .null, .null, .int 0, .int 0, .null, .int 0, .int 0, .int 0, .null, .int 0, .null, .int 0] j := by decide +kernel
def RL : String := "KeyStewardLaw"
abbrev cX1_init : ByteArray := prog_3_method_1_code
def yX1_init : MethodName := ⟨RX1, "<init>", "(I)V"⟩
abbrev cX1_empty : ByteArray := prog_3_method_2_code
def yX1_empty : MethodName := ⟨RX1, "empty", "()V"⟩
abbrev cX1_room : ByteArray := prog_3_method_3_code
def yX1_room : MethodName := ⟨RX1, "room", "(I)Z"⟩
abbrev cX1_four : ByteArray := prog_3_method_5_code
def yX1_four : MethodName := ⟨RX1, "four", "(I)V"⟩
abbrev cX1_append : ByteArray := prog_3_method_6_code
def yX1_append : MethodName := ⟨RX1, "append", "([BII)V"⟩
abbrev cX1_drop : ByteArray := prog_3_method_7_code
def yX1_drop : MethodName := ⟨RX1, "drop", "(I)V"⟩
abbrev cX1_cut : ByteArray := prog_3_method_8_code
def yX1_cut : MethodName := ⟨RX1, "cut", "(I)V"⟩
abbrev cX3_init : ByteArray := prog_5_method_1_code
def yX3_init : MethodName := ⟨RX3, "<init>", "()V"⟩
abbrev cX3_close : ByteArray := prog_5_method_2_code
def yX3_close : MethodName := ⟨RX3, "close", "()V"⟩
abbrev cX3_endBlock : ByteArray := prog_5_method_3_code
def yX3_endBlock : MethodName := ⟨RX3, "endBlock", "()V"⟩
abbrev cX3_unwatch : ByteArray := prog_5_method_4_code
def yX3_unwatch : MethodName := ⟨RX3, "unwatch", "()V"⟩
abbrev cX4_init : ByteArray := prog_6_method_1_code
def yX4_init : MethodName := ⟨RX4, "<init>", "(LKeySteward$Words;LKeySteward$Request;[LKeySteward$Connection;)V"⟩
abbrev cX4_forget : ByteArray := prog_6_method_2_code
def yX4_forget : MethodName := ⟨RX4, "forget", "()V"⟩
abbrev cX5_init : ByteArray := prog_7_method_1_code
def yX5_init : MethodName := ⟨RX5, "<init>", "(LKeySteward$Words;LKeySteward$Request;LKeySteward$Keys;)V"⟩
abbrev cX6_init : ByteArray := prog_8_method_1_code
def yX6_init : MethodName := ⟨RX6, "<init>", "(LKeySteward$Words;LKeySteward$Request;LKeySteward$Keys;)V"⟩
abbrev cX7_init : ByteArray := prog_9_method_1_code
def yX7_init : MethodName := ⟨RX7, "<init>", "(LKeySteward$Words;LKeySteward$Request;LKeySteward$Keys;)V"⟩
abbrev cX8_init : ByteArray := prog_10_method_1_code
def yX8_init : MethodName := ⟨RX8, "<init>", "(LKeySteward$Words;)V"⟩
abbrev cX8_read : ByteArray := prog_10_method_2_code
def yX8_read : MethodName := ⟨RX8, "read", "([BII)I"⟩
abbrev cX9_init : ByteArray := prog_11_method_1_code
def yX9_init : MethodName := ⟨RX9, "<init>", "(LKeySteward$Request;LKeySteward$Keys;)V"⟩
abbrev cX11_init : ByteArray := prog_13_method_1_code
def yX11_init : MethodName := ⟨RX11, "<init>", "()V"⟩
abbrev cX11_forget : ByteArray := prog_13_method_2_code
def yX11_forget : MethodName := ⟨RX11, "forget", "()V"⟩
abbrev cX12_init : ByteArray := prog_1_method_1_code
def yX12_init : MethodName := ⟨RX12, "<init>", "()V"⟩
abbrev cX12_feed : ByteArray := prog_1_method_2_code
def yX12_feed : MethodName := ⟨RX12, "feed", "(IIIII)Z"⟩
abbrev cX12_end : ByteArray := prog_1_method_3_code
def yX12_end : MethodName := ⟨RX12, "end", "(I)Z"⟩
abbrev cX12_send : ByteArray := prog_1_method_4_code
def yX12_send : MethodName := ⟨RX12, "send", "(I)I"⟩
abbrev cX12_open : ByteArray := prog_1_method_5_code
def yX12_open : MethodName := ⟨RX12, "open", "(I)Z"⟩
abbrev cX12_isOpen : ByteArray := prog_1_method_6_code
def yX12_isOpen : MethodName := ⟨RX12, "isOpen", "(I)Z"⟩
abbrev cX12_out : ByteArray := prog_1_method_7_code
def yX12_out : MethodName := ⟨RX12, "out", "(I)I"⟩
abbrev cX12_take : ByteArray := prog_1_method_9_code
def yX12_take : MethodName := ⟨RX12, "take", "(II)Z"⟩
abbrev cX12_pass : ByteArray := prog_1_method_10_code
def yX12_pass : MethodName := ⟨RX12, "pass", "(J)I"⟩
abbrev cX12_now : ByteArray := prog_1_method_11_code
def yX12_now : MethodName := ⟨RX12, "now", "()J"⟩
abbrev cX12_fuse : ByteArray := prog_1_method_12_code
def yX12_fuse : MethodName := ⟨RX12, "fuse", "(I)V"⟩
abbrev cX12_crash : ByteArray := prog_1_method_13_code
def yX12_crash : MethodName := ⟨RX12, "crash", "()Z"⟩
abbrev cX12_restart : ByteArray := prog_1_method_14_code
def yX12_restart : MethodName := ⟨RX12, "restart", "()I"⟩
abbrev cX12_rewrite : ByteArray := prog_1_method_15_code
def yX12_rewrite : MethodName := ⟨RX12, "rewrite", "()I"⟩
abbrev cX12_log : ByteArray := prog_1_method_16_code
def yX12_log : MethodName := ⟨RX12, "log", "()I"⟩
abbrev cX12_tear : ByteArray := prog_1_method_18_code
def yX12_tear : MethodName := ⟨RX12, "tear", "(I)Z"⟩
abbrev cX12_isUp : ByteArray := prog_1_method_19_code
def yX12_isUp : MethodName := ⟨RX12, "isUp", "()Z"⟩
abbrev cX12_total : ByteArray := prog_1_method_20_code
def yX12_total : MethodName := ⟨RX12, "total", "(I)I"⟩
abbrev cX12_connectionOf : ByteArray := prog_1_method_21_code
def yX12_connectionOf : MethodName := ⟨RX12, "connectionOf", "(I)LKeySteward$Connection;"⟩
abbrev cX12_keepRest : ByteArray := prog_1_method_22_code
def yX12_keepRest : MethodName := ⟨RX12, "keepRest", "(LKeySteward$Connection;I)V"⟩
abbrev cX12_halt : ByteArray := prog_1_method_23_code
def yX12_halt : MethodName := ⟨RX12, "halt", "()V"⟩
abbrev cX12_burn : ByteArray := prog_1_method_24_code
def yX12_burn : MethodName := ⟨RX12, "burn", "(I)V"⟩
abbrev cX12_expire : ByteArray := prog_1_method_32_code
def yX12_expire : MethodName := ⟨RX12, "expire", "()I"⟩
abbrev cX13_define : ByteArray := prog_15_method_1_code
def yX13_define : MethodName := ⟨RX13, "define", "(JJIIZ)V"⟩
abbrev cX13_init : ByteArray := prog_15_method_2_code
def yX13_init : MethodName := ⟨RX13, "<init>", "()V"⟩
abbrev cX13_names1 : ByteArray := prog_15_method_3_code
def yX13_names1 : MethodName := ⟨RX13, "names1", "()V"⟩
abbrev cX13_memory : ByteArray := prog_15_method_21_code
def yX13_memory : MethodName := ⟨RX13, "memory", "()I"⟩
abbrev cX13_endBlock : ByteArray := prog_15_method_22_code
def yX13_endBlock : MethodName := ⟨RX13, "endBlock", "(I)V"⟩
abbrev cX13_close : ByteArray := prog_15_method_23_code
def yX13_close : MethodName := ⟨RX13, "close", "(I)V"⟩
abbrev cX13_stop : ByteArray := prog_15_method_52_code
def yX13_stop : MethodName := ⟨RX13, "stop", "()V"⟩
abbrev cX13_feed : ByteArray := prog_15_method_172_code
def yX13_feed : MethodName := ⟨RX13, "feed", "(IIIII)Z"⟩
abbrev cX13_end : ByteArray := prog_15_method_173_code
def yX13_end : MethodName := ⟨RX13, "end", "(I)Z"⟩
abbrev cX13_send : ByteArray := prog_15_method_174_code
def yX13_send : MethodName := ⟨RX13, "send", "(I)I"⟩
abbrev cX13_isConnection : ByteArray := prog_15_method_175_code
def yX13_isConnection : MethodName := ⟨RX13, "isConnection", "(I)Z"⟩
abbrev cX13_open : ByteArray := prog_15_method_176_code
def yX13_open : MethodName := ⟨RX13, "open", "(I)Z"⟩
abbrev cX13_isOpen : ByteArray := prog_15_method_177_code
def yX13_isOpen : MethodName := ⟨RX13, "isOpen", "(I)Z"⟩
abbrev cX13_out : ByteArray := prog_15_method_178_code
def yX13_out : MethodName := ⟨RX13, "out", "(I)I"⟩
abbrev cX13_outAt : ByteArray := prog_15_method_179_code
def yX13_outAt : MethodName := ⟨RX13, "outAt", "(II)I"⟩
abbrev cX13_take : ByteArray := prog_15_method_180_code
def yX13_take : MethodName := ⟨RX13, "take", "(II)Z"⟩
abbrev cX13_expire : ByteArray := prog_15_method_181_code
def yX13_expire : MethodName := ⟨RX13, "expire", "()I"⟩
abbrev cX13_pass : ByteArray := prog_15_method_182_code
def yX13_pass : MethodName := ⟨RX13, "pass", "(J)I"⟩
abbrev cX13_now : ByteArray := prog_15_method_183_code
def yX13_now : MethodName := ⟨RX13, "now", "()J"⟩
abbrev cX13_fuse : ByteArray := prog_15_method_184_code
def yX13_fuse : MethodName := ⟨RX13, "fuse", "(I)V"⟩
abbrev cX13_crash : ByteArray := prog_15_method_185_code
def yX13_crash : MethodName := ⟨RX13, "crash", "()Z"⟩
abbrev cX13_restart : ByteArray := prog_15_method_190_code
def yX13_restart : MethodName := ⟨RX13, "restart", "()I"⟩
abbrev cX13_rewrite : ByteArray := prog_15_method_192_code
def yX13_rewrite : MethodName := ⟨RX13, "rewrite", "()I"⟩
abbrev cX13_log : ByteArray := prog_15_method_193_code
def yX13_log : MethodName := ⟨RX13, "log", "()I"⟩
abbrev cX13_logAt : ByteArray := prog_15_method_194_code
def yX13_logAt : MethodName := ⟨RX13, "logAt", "(I)I"⟩
abbrev cX13_tear : ByteArray := prog_15_method_195_code
def yX13_tear : MethodName := ⟨RX13, "tear", "(I)Z"⟩
abbrev cX13_isUp : ByteArray := prog_15_method_196_code
def yX13_isUp : MethodName := ⟨RX13, "isUp", "()Z"⟩
abbrev cX13_total : ByteArray := prog_15_method_197_code
def yX13_total : MethodName := ⟨RX13, "total", "(I)I"⟩
abbrev cJ7_fill_53178 : ByteArray := prog_27_method_103_code
def yJ7_fill_53178 : MethodName := ⟨RJ7, "fill", "([II)V"⟩
def kwW : List Cond := [.methodLink RX1 3 objectInit,
  .instanceMethod objectInit,
  .code objectInit ⟨#[0xb1]⟩ 1 none,
  .arrayClass .byte,
  .fieldLink RX1 11 "KeySteward$Bytes" "row" "[B",
  .fieldLink RX1 15 "KeySteward$Bytes" "most" "I",
  .fieldLink RX1 19 "KeySteward$Bytes" "size" "I",
  .fieldLink RX1 22 "KeySteward$Bytes" "burst" "Z",
  .code yX1_room cX1_room 3 (some .boolean),
  .initialized RX1,
  .methodLink RX1 41 yX1_room,
  .instanceMethod yX1_room,
  .selects RX1 yX1_room yX1_room,
  .methodLink RX1 45 arraycopyName,
  .native arraycopyName,
  .static arraycopyName,
  .initialized RJ10,
  .methodLink RX3 3 objectInit,
  .fieldLink RX3 9 "KeySteward$Connection" "live" "Z",
  .classLink RX3 15 RX1,
  .instantiable RX1 4,
  .constant RX3 17 (131076),
  .code yX1_init cX1_init 2 none,
  .methodLink RX3 18 yX1_init,
  .instanceMethod yX1_init,
  .fieldLink RX3 21 "KeySteward$Connection" "input" "LKeySteward$Bytes;",
  .constant RX3 25 (65536),
  .fieldLink RX3 26 "KeySteward$Connection" "output" "LKeySteward$Bytes;",
  .constant RX3 29 (67108864),
  .fieldLink RX3 30 "KeySteward$Connection" "block" "LKeySteward$Bytes;",
  .arrayClass .int,
  .fieldLink RX3 33 "KeySteward$Connection" "watches" "[I",
  .fieldLink RX3 37 "KeySteward$Connection" "channels" "[I",
  .fieldLink RX3 62 "KeySteward$Connection" "watchCount" "I",
  .fieldLink RX3 65 "KeySteward$Connection" "dirty" "Z",
  .fieldLink RX3 50 "KeySteward$Connection" "queues" "Z",
  .fieldLink RX3 53 "KeySteward$Connection" "spoilt" "Z",
  .fieldLink RX3 56 "KeySteward$Connection" "queued" "I",
  .code yX1_empty cX1_empty 1 none,
  .methodLink RX3 40 yX1_empty,
  .instanceMethod yX1_empty,
  .selects RX1 yX1_empty yX1_empty,
  .code yX3_unwatch cX3_unwatch 1 none,
  .initialized RX3,
  .methodLink RX3 59 yX3_unwatch,
  .instanceMethod yX3_unwatch,
  .selects RX3 yX3_unwatch yX3_unwatch,
  .code yX3_endBlock cX3_endBlock 1 none,
  .methodLink RX3 43 yX3_endBlock,
  .instanceMethod yX3_endBlock,
  .selects RX3 yX3_endBlock yX3_endBlock,
  .fieldLink RX3 46 "KeySteward$Connection" "channelCount" "I",
  .methodLink RX11 3 objectInit,
  .fieldLink RX11 9 "KeySteward$Words" "bytes" "[B",
  .fieldLink RX11 15 "KeySteward$Words" "starts" "[I",
  .fieldLink RX11 19 "KeySteward$Words" "chain" "[I",
  .fieldLink RX11 22 "KeySteward$Words" "heads" "[I",
  .methodLink RX8 3 objectInit,
  .fieldLink RX8 11 "KeySteward$Request" "starts" "[I",
  .fieldLink RX8 15 "KeySteward$Request" "lengths" "[I",
  .fieldLink RX8 18 "KeySteward$Request" "row" "[B",
  .fieldLink RX8 22 "KeySteward$Request" "words" "LKeySteward$Words;",
  .classLink RX8 26 RX1,
  .methodLink RX8 28 yX1_init,
  .fieldLink RX8 31 "KeySteward$Request" "answer" "LKeySteward$Bytes;",
  .methodLink RX4 3 objectInit,
  .fieldLink RX4 9 "KeySteward$Keys" "ids" "[I",
  .fieldLink RX4 15 "KeySteward$Keys" "slots" "[I",
  .classLink RX4 18 RX10,
  .fieldLink RX4 20 "KeySteward$Keys" "shelf" "[LKeySteward$Value;",
  .fieldLink RX4 24 "KeySteward$Keys" "texts" "[B",
  .fieldLink RX4 28 "KeySteward$Keys" "nextTexts" "[B",
  .arrayClass .long,
  .fieldLink RX4 31 "KeySteward$Keys" "cells" "[J",
  .fieldLink RX4 35 "KeySteward$Keys" "nextCells" "[J",
  .fieldLink RX4 38 "KeySteward$Keys" "words" "LKeySteward$Words;",
  .fieldLink RX4 42 "KeySteward$Keys" "ask" "LKeySteward$Request;",
  .fieldLink RX4 46 "KeySteward$Keys" "watchers" "[LKeySteward$Connection;",
  .methodLink RX9 3 objectInit,
  .classLink RX9 9 RX1,
  .methodLink RX9 11 yX1_init,
  .fieldLink RX9 14 "KeySteward$Texts" "numeral" "LKeySteward$Bytes;",
  .fieldLink RX9 20 "KeySteward$Texts" "ask" "LKeySteward$Request;",
  .fieldLink RX9 24 "KeySteward$Texts" "keys" "LKeySteward$Keys;",
  .methodLink RX5 3 objectInit,
  .fieldLink RX5 9 "KeySteward$Lists" "words" "LKeySteward$Words;",
  .fieldLink RX5 15 "KeySteward$Lists" "ask" "LKeySteward$Request;",
  .fieldLink RX5 19 "KeySteward$Lists" "keys" "LKeySteward$Keys;",
  .methodLink RX6 3 objectInit,
  .classLink RX6 9 RX1,
  .methodLink RX6 11 yX1_init,
  .fieldLink RX6 14 "KeySteward$Members" "numeral" "LKeySteward$Bytes;",
  .fieldLink RX6 20 "KeySteward$Members" "pot" "[I",
  .fieldLink RX6 24 "KeySteward$Members" "words" "LKeySteward$Words;",
  .fieldLink RX6 28 "KeySteward$Members" "ask" "LKeySteward$Request;",
  .fieldLink RX6 32 "KeySteward$Members" "keys" "LKeySteward$Keys;",
  .methodLink RX7 3 objectInit,
  .fieldLink RX7 9 "KeySteward$Orders" "words" "LKeySteward$Words;",
  .fieldLink RX7 15 "KeySteward$Orders" "ask" "LKeySteward$Request;",
  .fieldLink RX7 19 "KeySteward$Orders" "keys" "LKeySteward$Keys;",
  .fieldLink RX8 35 "KeySteward$Request" "count" "I",
  .fieldLink RX8 39 "KeySteward$Request" "next" "I",
  .fieldLink RX12 58 "KeySteward" "connections" "[LKeySteward$Connection;",
  .fieldLink RX12 17 "KeySteward" "tape" "LKeySteward$Bytes;",
  .fieldLink RX12 106 "KeySteward$Bytes" "size" "I",
  .constant RX12 109 (65520),
  .code yX1_four cX1_four 3 none,
  .methodLink RX12 110 yX1_four,
  .instanceMethod yX1_four,
  .selects RX1 yX1_four yX1_four,
  .code yX1_cut cX1_cut 2 none,
  .methodLink RX12 113 yX1_cut,
  .instanceMethod yX1_cut,
  .selects RX1 yX1_cut yX1_cut,
  .fieldLink RX12 120 "KeySteward$Connection" "live" "Z",
  .fieldLink RX12 126 "KeySteward$Connection" "input" "LKeySteward$Bytes;",
  .code yX1_drop cX1_drop 3 none,
  .methodLink RX12 182 yX1_drop,
  .instanceMethod yX1_drop,
  .selects RX1 yX1_drop yX1_drop,
  .constant RX12 229 (65536),
  .code yX12_connectionOf cX12_connectionOf 2 (some (.object "KeySteward$Connection")),
  .initialized RX12,
  .methodLink RX12 116 yX12_connectionOf,
  .instanceMethod yX12_connectionOf,
  .selects RX12 yX12_connectionOf yX12_connectionOf,
  .fieldLink RX12 172 "KeySteward$Connection" "output" "LKeySteward$Bytes;",
  .fieldLink RX12 38 "KeySteward" "up" "Z",
  .code yX3_close cX3_close 1 none,
  .methodLink RX12 169 yX3_close,
  .instanceMethod yX3_close,
  .selects RX3 yX3_close yX3_close,
  .methodLink RX12 123 yX1_empty,
  .fieldLink RX12 129 "KeySteward$Bytes" "row" "[B",
  .code yX1_append cX1_append 4 none,
  .methodLink RX12 133 yX1_append,
  .instanceMethod yX1_append,
  .selects RX1 yX1_append yX1_append,
  .constant RX12 137 (1048576),
  .fieldLink RX12 66 "KeySteward" "ask" "LKeySteward$Request;",
  .code yX8_read cX8_read 4 (some .int),
  .initialized RX8,
  .methodLink RX12 138 yX8_read,
  .instanceMethod yX8_read,
  .selects RX8 yX8_read yX8_read,
  .code yX12_keepRest cX12_keepRest 3 none,
  .methodLink RX12 166 yX12_keepRest,
  .instanceMethod yX12_keepRest,
  .selects RX12 yX12_keepRest yX12_keepRest,
  .fieldLink RX12 70 "KeySteward" "keys" "LKeySteward$Keys;",
  .fieldLink RX12 226 "KeySteward$Keys" "timed" "I",
  .fieldLink RX12 25 "KeySteward" "journal" "LKeySteward$Bytes;",
  .fieldLink RX12 34 "KeySteward" "fuseLeft" "I",
  .constantLong RX12 185 (4503599627370496),
  .fieldLink RX12 187 "KeySteward$Keys" "clock" "J",
  .code yX12_expire cX12_expire 7 (some .int),
  .methodLink RX12 191 yX12_expire,
  .instanceMethod yX12_expire,
  .selects RX12 yX12_expire yX12_expire,
  .code yX12_burn cX12_burn 3 none,
  .methodLink RX12 195 yX12_burn,
  .instanceMethod yX12_burn,
  .selects RX12 yX12_burn yX12_burn,
  .fieldLink RX12 28 "KeySteward" "nextJournal" "LKeySteward$Bytes;",
  .fieldLink RX12 211 "KeySteward$Keys" "count" "I",
  .fieldLink RX12 223 "KeySteward$Keys" "memory" "I",
  .fieldLink RX4 50 "KeySteward$Keys" "count" "I",
  .fieldLink RX4 58 "KeySteward$Keys" "textsEnd" "I",
  .fieldLink RX4 61 "KeySteward$Keys" "cellsEnd" "I",
  .fieldLink RX11 25 "KeySteward$Words" "count" "I",
  .code yJ7_fill_53178 cJ7_fill_53178 4 none,
  .initialized RJ7,
  .methodLink RX11 29 yJ7_fill_53178,
  .static yJ7_fill_53178,
  .fieldLink RX12 230 "KeySteward" "runsBlock" "Z",
  .code yX4_forget cX4_forget 3 none,
  .initialized RX4,
  .methodLink RX12 233 yX4_forget,
  .instanceMethod yX4_forget,
  .selects RX4 yX4_forget yX4_forget,
  .fieldLink RX12 62 "KeySteward" "words" "LKeySteward$Words;",
  .code yX11_forget cX11_forget 1 none,
  .initialized RX11,
  .methodLink RX12 236 yX11_forget,
  .instanceMethod yX11_forget,
  .selects RX11 yX11_forget yX11_forget,
  .code yX12_halt cX12_halt 5 none,
  .methodLink RX12 198 yX12_halt,
  .instanceMethod yX12_halt,
  .selects RX12 yX12_halt yX12_halt,
  .methodLink RX12 3 objectInit,
  .classLink RX12 9 RX1,
  .constant RX12 13 (65540),
  .methodLink RX12 14 yX1_init,
  .fieldLink RX12 21 "KeySteward" "mute" "LKeySteward$Bytes;",
  .constant RX12 24 (67108864),
  .fieldLink RX12 31 "KeySteward" "running" "LKeySteward$Bytes;",
  .classLink RX12 42 RX3,
  .instantiable RX3 12,
  .code yX3_init cX3_init 1 none,
  .instanceMethod yX3_init,
  .classLink RX12 45 RX11,
  .instantiable RX11 5,
  .code yX11_init cX11_init 1 none,
  .instanceMethod yX11_init,
  .classLink RX12 48 RX8,
  .instantiable RX8 17,
  .code yX8_init cX8_init 2 none,
  .methodLink RX12 50 yX8_init,
  .instanceMethod yX8_init,
  .classLink RX12 53 RX4,
  .instantiable RX4 19,
  .code yX4_init cX4_init 4 none,
  .methodLink RX12 55 yX4_init,
  .instanceMethod yX4_init,
  .classLink RX12 74 RX9,
  .instantiable RX9 7,
  .initialized RX9,
  .code yX9_init cX9_init 3 none,
  .methodLink RX12 76 yX9_init,
  .instanceMethod yX9_init,
  .fieldLink RX12 79 "KeySteward" "texts" "LKeySteward$Texts;",
  .classLink RX12 83 RX5,
  .instantiable RX5 3,
  .initialized RX5,
  .code yX5_init cX5_init 4 none,
  .methodLink RX12 85 yX5_init,
  .instanceMethod yX5_init,
  .fieldLink RX12 88 "KeySteward" "lists" "LKeySteward$Lists;",
  .classLink RX12 92 RX6,
  .instantiable RX6 6,
  .initialized RX6,
  .code yX6_init cX6_init 4 none,
  .methodLink RX12 94 yX6_init,
  .instanceMethod yX6_init,
  .fieldLink RX12 95 "KeySteward" "members" "LKeySteward$Members;",
  .classLink RX12 99 RX7,
  .instantiable RX7 9,
  .initialized RX7,
  .code yX7_init cX7_init 4 none,
  .methodLink RX12 101 yX7_init,
  .instanceMethod yX7_init,
  .fieldLink RX12 102 "KeySteward" "orders" "LKeySteward$Orders;",
  .fieldLink RX13 1 "KeyStewardModel" "defined" "I",
  .fieldLink RX13 7 "KeyStewardModel" "nameA" "[J",
  .fieldLink RX13 11 "KeyStewardModel" "nameB" "[J",
  .fieldLink RX13 14 "KeyStewardModel" "least" "[I",
  .fieldLink RX13 18 "KeyStewardModel" "most" "[I",
  .fieldLink RX13 21 "KeyStewardModel" "heavy" "[Z",
  .constantLong RX13 378 (4670804),
  .code yX13_define cX13_define 8 none,
  .initialized RX13,
  .methodLink RX13 380 yX13_define,
  .instanceMethod yX13_define,
  .selects RX13 yX13_define yX13_define,
  .constantLong RX13 384 (5457236),
  .constantLong RX13 386 (78363092075852),
  .constantLong RX13 388 (78363093058900),
  .constantLong RX13 390 (357645438552),
  .constantLong RX13 392 (357645436248),
  .constantLong RX13 394 (88318575658328),
  .constantLong RX13 396 (1296516436),
  .constantLong RX13 398 (1297302868),
  .constantLong RX13 400 (85020040777304),
  .constantLong RX13 402 (71813199908420),
  .constantLong RX13 404 (91621623088462),
  .constantLong RX13 406 (5135603662345619269),
  .constantLong RX13 408 (6000294790800754501),
  .constantLong RX13 410 (1229865810),
  .constantLong RX13 412 (1145389906),
  .constantLong RX13 414 (80600485741145),
  .constantLong RX13 416 (75064272896601),
  .constantLong RX13 418 (91557231479124),
  .constantLong RX13 420 (78363091945812),
  .constantLong RX13 422 (4776441527873654356),
  .constantLong RX13 424 (4474188),
  .constantLong RX13 426 (76245489636435),
  .constantLong RX13 428 (1415139397),
  .constantLong RX13 430 (90457619123525),
  .constantLong RX13 432 (5928230526879354456),
  .constantLong RX13 434 (1262836051),
  .constantLong RX13 436 (75051655846469),
  .constantLong RX13 438 (5065517497067850828),
  .constantLong RX13 440 (76245606421061),
  .constantLong RX13 442 (22594243743273541),
  .constantLong RX13 444 (4996832062410670420),
  .constantLong RX13 446 (5784126398278026561),
  .constantLong RX13 448 (84),
  .constantLong RX13 450 (22594218023801684),
  .constantLong RX13 452 (5526604),
  .constantLong RX13 454 (1347703884),
  .constantLong RX13 456 (327765283656),
  .constantLong RX13 458 (353535087432),
  .constantLong RX13 460 (83907912616024),
  .constantLong RX13 462 (90504982382680),
  .constantLong RX13 464 (1280331600),
  .constantLong RX13 466 (1380994896),
  .constantLong RX13 468 (1280066894),
  .constantLong RX13 470 (83916166678341),
  .constantLong RX13 472 (83877729420632),
  .constantLong RX13 474 (1280525652),
  .constantLong RX13 476 (21472698983338580),
  .constantLong RX13 478 (1280460109),
  .constantLong RX13 480 (327832193357),
  .constantLong RX13 482 (327714559557),
  .constantLong RX13 484 (5931327915543254355),
  .constantLong RX13 486 (72),
  .constantLong RX13 488 (1213416788),
  .constantLong RX13 490 (79522482638424),
  .constantLong RX13 492 (1212630356),
  .constantLong RX13 494 (310534161748),
  .constantLong RX13 496 (1212433740),
  .constantLong RX13 498 (20342443812803667),
  .constantLong RX13 500 (1212958030),
  .constantLong RX13 502 (20357819946255694),
  .constantLong RX13 504 (310500481363),
  .constantLong RX13 506 (310684765267),
  .constantLong RX13 508 (20344561415048268),
  .constantLong RX13 510 (20346798808908377),
  .constantLong RX13 512 (1396786244),
  .constantLong RX13 514 (1397900621),
  .constantLong RX13 516 (6001419569788174917),
  .constantLong RX13 518 (82),
  .constantLong RX13 520 (6002534500482239810),
  .constantLong RX13 522 (17746),
  .constantLong RX13 524 (357610639940),
  .constantLong RX13 526 (6002530076481376851),
  .constantLong RX13 528 (357779330629),
  .constantLong RX13 530 (91574311863634),
  .constantLong RX13 532 (91625850752846),
  .constantLong RX13 534 (357627938374),
  .constantLong RX13 536 (6001414102295139156),
  .constantLong RX13 538 (5198405),
  .constantLong RX13 540 (6004791754938536788),
  .constantLong RX13 542 (6000001169740747855),
  .constantLong RX13 544 (21061),
  .constantLong RX13 546 (1397772112),
  .constantLong RX13 548 (1514226756),
  .constantLong RX13 550 (1515341133),
  .constantLong RX13 552 (99313658057285),
  .constantLong RX13 554 (25413348389700185),
  .constantLong RX13 556 (387675411012),
  .constantLong RX13 558 (387927068235),
  .constantLong RX13 560 (6508340648553303627),
  .constantLong RX13 562 (99309329467205),
  .constantLong RX13 564 (6508340648553303623),
  .constantLong RX13 566 (69),
  .constantLong RX13 568 (6508336215962763865),
  .constantLong RX13 570 (357611557445),
  .constantLong RX13 572 (4990649551226360389),
  .constantLong RX13 574 (99245140299348),
  .constantLong RX13 576 (6508340609898597959),
  .constantLong RX13 578 (19494724792569419),
  .constantLong RX13 580 (25421049483839822),
  .constantLong RX13 582 (25421049483837784),
  .constantLong RX13 584 (1346981447),
  .constantLong RX13 586 (1162037327),
  .constantLong RX13 588 (1364543828),
  .constantLong RX13 590 (374758196040),
  .constantLong RX13 592 (24011509685568328),
  .constantLong RX13 594 (332143547465),
  .constantLong RX13 596 (1163412803),
  .constantLong RX13 598 (19220920375792196),
  .constantLong RX13 600 (6004778603547609410),
  .constantLong RX13 602 (6146942167057384274),
  .constantLong RX13 604 (4801093),
  .constantLong RX13 606 (22611741372928840),
  .constantLong RX13 608 (1414090053),
  .methodLink RX13 25 objectInit,
  .fieldLink RX13 31 "KeyStewardModel" "thrownCode" "I",
  .arrayClass .boolean,
  .constant RX13 34 (300000),
  .fieldLink RX13 35 "KeyStewardModel" "heap" "[B",
  .constant RX13 39 (200000),
  .fieldLink RX13 40 "KeyStewardModel" "heap2" "[B",
  .fieldLink RX13 43 "KeyStewardModel" "heapSize" "I",
  .fieldLink RX13 46 "KeyStewardModel" "keys" "I",
  .fieldLink RX13 49 "KeyStewardModel" "order" "[I",
  .fieldLink RX13 52 "KeyStewardModel" "kFree" "[I",
  .fieldLink RX13 55 "KeyStewardModel" "kFrees" "I",
  .fieldLink RX13 58 "KeyStewardModel" "kAt" "[I",
  .fieldLink RX13 61 "KeyStewardModel" "kLen" "[I",
  .fieldLink RX13 64 "KeyStewardModel" "kSort" "[I",
  .fieldLink RX13 67 "KeyStewardModel" "kTime" "[J",
  .fieldLink RX13 70 "KeyStewardModel" "kTimed" "[Z",
  .fieldLink RX13 73 "KeyStewardModel" "kHead" "[I",
  .fieldLink RX13 76 "KeyStewardModel" "kTail" "[I",
  .fieldLink RX13 79 "KeyStewardModel" "kMany" "[I",
  .fieldLink RX13 82 "KeyStewardModel" "tAt" "[I",
  .fieldLink RX13 85 "KeyStewardModel" "tLen" "[I",
  .fieldLink RX13 88 "KeyStewardModel" "eNext" "[I",
  .fieldLink RX13 91 "KeyStewardModel" "ePrev" "[I",
  .fieldLink RX13 94 "KeyStewardModel" "eAt" "[I",
  .fieldLink RX13 97 "KeyStewardModel" "eLen" "[I",
  .fieldLink RX13 100 "KeyStewardModel" "vAt" "[I",
  .fieldLink RX13 103 "KeyStewardModel" "vLen" "[I",
  .fieldLink RX13 106 "KeyStewardModel" "eScore" "[J",
  .fieldLink RX13 109 "KeyStewardModel" "eFree" "I",
  .constant RX13 112 (131200),
  .fieldLink RX13 113 "KeyStewardModel" "req" "[B",
  .fieldLink RX13 116 "KeyStewardModel" "reqSize" "I",
  .fieldLink RX13 119 "KeyStewardModel" "aAt" "[I",
  .fieldLink RX13 122 "KeyStewardModel" "aLen" "[I",
  .fieldLink RX13 125 "KeyStewardModel" "words" "I",
  .fieldLink RX13 128 "KeyStewardModel" "opened" "[Z",
  .constant RX13 131 (262400),
  .fieldLink RX13 132 "KeyStewardModel" "input" "[B",
  .fieldLink RX13 135 "KeyStewardModel" "inSize" "[I",
  .constant RX13 138 (262144),
  .fieldLink RX13 139 "KeyStewardModel" "output" "[B",
  .fieldLink RX13 142 "KeyStewardModel" "outSize" "[I",
  .fieldLink RX13 145 "KeyStewardModel" "blocked" "[Z",
  .fieldLink RX13 148 "KeyStewardModel" "spoilt" "[Z",
  .constant RX13 151 (220000),
  .fieldLink RX13 152 "KeyStewardModel" "queue" "[B",
  .fieldLink RX13 155 "KeyStewardModel" "queueEnd" "I",
  .fieldLink RX13 158 "KeyStewardModel" "queuedAt" "[I",
  .fieldLink RX13 161 "KeyStewardModel" "queued" "[I",
  .fieldLink RX13 164 "KeyStewardModel" "watches" "[I",
  .constant RX13 167 (100000),
  .fieldLink RX13 168 "KeyStewardModel" "watchText" "[B",
  .fieldLink RX13 171 "KeyStewardModel" "watchEnd" "I",
  .fieldLink RX13 174 "KeyStewardModel" "watchAt" "[I",
  .fieldLink RX13 177 "KeyStewardModel" "watchLen" "[I",
  .fieldLink RX13 180 "KeyStewardModel" "disturbed" "[Z",
  .fieldLink RX13 183 "KeyStewardModel" "channels" "[I",
  .fieldLink RX13 186 "KeyStewardModel" "channelText" "[B",
  .fieldLink RX13 189 "KeyStewardModel" "channelEnd" "I",
  .fieldLink RX13 192 "KeyStewardModel" "channelAt" "[I",
  .fieldLink RX13 195 "KeyStewardModel" "channelLen" "[I",
  .constant RX13 198 (70000),
  .fieldLink RX13 199 "KeyStewardModel" "answer" "[B",
  .fieldLink RX13 202 "KeyStewardModel" "answerSize" "I",
  .fieldLink RX13 205 "KeyStewardModel" "tooLong" "Z",
  .fieldLink RX13 209 "KeyStewardModel" "digits" "[B",
  .fieldLink RX13 212 "KeyStewardModel" "digitsSize" "I",
  .constant RX13 215 (700000),
  .fieldLink RX13 216 "KeyStewardModel" "disk" "[B",
  .fieldLink RX13 219 "KeyStewardModel" "diskSize" "I",
  .constant RX13 222 (420000),
  .fieldLink RX13 223 "KeyStewardModel" "pending" "[B",
  .fieldLink RX13 226 "KeyStewardModel" "pendingSize" "I",
  .fieldLink RX13 229 "KeyStewardModel" "burning" "I",
  .fieldLink RX13 232 "KeyStewardModel" "up" "Z",
  .fieldLink RX13 235 "KeyStewardModel" "replays" "Z",
  .fieldLink RX13 238 "KeyStewardModel" "inBlock" "Z",
  .fieldLink RX13 241 "KeyStewardModel" "now0" "J",
  .fieldLink RX13 245 "KeyStewardModel" "spelt" "[B",
  .fieldLink RX13 248 "KeyStewardModel" "num" "J",
  .fieldLink RX13 251 "KeyStewardModel" "n1" "J",
  .fieldLink RX13 254 "KeyStewardModel" "n2" "J",
  .fieldLink RX13 257 "KeyStewardModel" "optNx" "Z",
  .fieldLink RX13 260 "KeyStewardModel" "optXx" "Z",
  .fieldLink RX13 263 "KeyStewardModel" "optGet" "Z",
  .fieldLink RX13 266 "KeyStewardModel" "optKeep" "Z",
  .fieldLink RX13 269 "KeyStewardModel" "optGt" "Z",
  .fieldLink RX13 272 "KeyStewardModel" "optLt" "Z",
  .fieldLink RX13 275 "KeyStewardModel" "optCh" "Z",
  .fieldLink RX13 278 "KeyStewardModel" "optIncr" "Z",
  .fieldLink RX13 281 "KeyStewardModel" "optScores" "Z",
  .fieldLink RX13 284 "KeyStewardModel" "optLimit" "Z",
  .fieldLink RX13 287 "KeyStewardModel" "limitFrom" "J",
  .fieldLink RX13 290 "KeyStewardModel" "limitMany" "J",
  .fieldLink RX13 293 "KeyStewardModel" "timed" "Z",
  .fieldLink RX13 296 "KeyStewardModel" "time" "J",
  .fieldLink RX13 299 "KeyStewardModel" "pairs" "I",
  .fieldLink RX13 302 "KeyStewardModel" "lowScore" "J",
  .fieldLink RX13 305 "KeyStewardModel" "highScore" "J",
  .fieldLink RX13 308 "KeyStewardModel" "noScore" "Z",
  .fieldLink RX13 311 "KeyStewardModel" "limitAt" "I",
  .fieldLink RX13 314 "KeyStewardModel" "work" "[B",
  .fieldLink RX13 317 "KeyStewardModel" "workSize" "I",
  .fieldLink RX13 320 "KeyStewardModel" "from" "I",
  .fieldLink RX13 323 "KeyStewardModel" "upTo" "I",
  .fieldLink RX13 326 "KeyStewardModel" "behindSet" "I",
  .fieldLink RX13 329 "KeyStewardModel" "found" "I",
  .fieldLink RX13 332 "KeyStewardModel" "pile" "[B",
  .fieldLink RX13 335 "KeyStewardModel" "pileSize" "I",
  .fieldLink RX13 338 "KeyStewardModel" "mAt" "[I",
  .fieldLink RX13 341 "KeyStewardModel" "mLen" "[I",
  .fieldLink RX13 344 "KeyStewardModel" "members" "I",
  .fieldLink RX13 347 "KeyStewardModel" "cur" "I",
  .fieldLink RX13 350 "KeyStewardModel" "held" "[B",
  .fieldLink RX13 353 "KeyStewardModel" "lineNumber" "I",
  .fieldLink RX13 356 "KeyStewardModel" "lineEnd" "I",
  .fieldLink RX13 359 "KeyStewardModel" "faultWord" "I",
  .constant RX13 362 (65540),
  .fieldLink RX13 363 "KeyStewardModel" "tape" "[B",
  .fieldLink RX13 366 "KeyStewardModel" "tapeSize" "I",
  .fieldLink RX13 369 "KeyStewardModel" "line0" "[B",
  .fieldLink RX13 372 "KeyStewardModel" "logCommand" "I",
  .code yX13_names1 cX13_names1 1 none,
  .methodLink RX13 375 yX13_names1,
  .instanceMethod yX13_names1,
  .selects RX13 yX13_names1 yX13_names1,
  .code yX13_endBlock cX13_endBlock 2 none,
  .methodLink RX13 640 yX13_endBlock,
  .instanceMethod yX13_endBlock,
  .selects RX13 yX13_endBlock yX13_endBlock,
  .constant RX13 647 (65536),
  .code yX13_isConnection cX13_isConnection 1 (some .boolean),
  .methodLink RX13 1293 yX13_isConnection,
  .static yX13_isConnection,
  .code yX13_close cX13_close 2 none,
  .methodLink RX13 687 yX13_close,
  .instanceMethod yX13_close,
  .selects RX13 yX13_close yX13_close,
  .constantLong RX13 1298 (4503599627370496),
  .code yX13_expire cX13_expire 4 (some .int),
  .methodLink RX13 1300 yX13_expire,
  .instanceMethod yX13_expire,
  .selects RX13 yX13_expire yX13_expire,
  .code yX13_stop cX13_stop 2 none,
  .methodLink RX13 713 yX13_stop,
  .instanceMethod yX13_stop,
  .selects RX13 yX13_stop yX13_stop,
  .code yX13_memory cX13_memory 6 (some .int),
  .methodLink RX13 1068 yX13_memory,
  .instanceMethod yX13_memory,
  .selects RX13 yX13_memory yX13_memory]
def kwF0 : List Cond := u_ws RX1 TX1 4 ++ (u_ws RX3 TX3 12 ++ (u_ws RX11 TX11 5 ++ (u_ws RX8 TX8 17 ++ (u_ws RX4 TX4 19 ++ (u_ws RX9 TX9 7 ++ (u_ws RX5 TX5 3 ++ (u_ws RX6 TX6 6 ++ (u_ws RX7 TX7 9 ++ (u_ws RX12 TX12 18 ++ (u_ws RX13 TX13 116))))))))))
def kwF : List Cond := kwF0 ++ u_ws RX10 TX10 9
/-- the words of the tables that are good everywhere -/
def kwT : List Cond := lw_tbl.filter goodWord
def kw : List Cond := kwW ++ (kwF ++ kwT)
theorem kwW_good : kwW.all goodWord = true := by decide +kernel
theorem kwF_good : kwF.all goodWord = true := by decide +kernel
theorem kw_good (w : Cond) (h : w ∈ kw) : goodWord w = true := (List.mem_append.mp h).elim (List.all_eq_true.mp kwW_good w) (fun h => (List.mem_append.mp h).elim (List.all_eq_true.mp kwF_good w) (fun h => (List.mem_filter.mp h).2))
theorem kw_tab {w : Cond} (h : w ∈ lw_tbl) (g : goodWord w = true) : w ∈ kw := List.mem_append_right _ (List.mem_append_right _ (List.mem_filter.mpr ⟨h, g⟩))
theorem m_0 : Cond.methodLink RX1 3 objectInit ∈ kw := List.mem_append_left _ (List.mem_of_getElem? (i := 0) (by decide +kernel))
theorem m_1 : Cond.instanceMethod objectInit ∈ kw := List.mem_append_left _ (List.mem_of_getElem? (i := 1) (by decide +kernel))
set_option maxRecDepth 100000 in
theorem m_2 : Cond.code objectInit ⟨#[0xb1]⟩ 1 none ∈ kw := List.mem_append_left _ (List.mem_of_getElem? (i := 2) rfl)
theorem m_3 : Cond.arrayClass .byte ∈ kw := List.mem_append_left _ (List.mem_of_getElem? (i := 3) (by decide +kernel))
theorem m_4 : Cond.fieldLink RX1 11 "KeySteward$Bytes" "row" "[B" ∈ kw := List.mem_append_left _ (List.mem_of_getElem? (i := 4) (by decide +kernel))
theorem m_5 : Cond.fieldLink RX1 15 "KeySteward$Bytes" "most" "I" ∈ kw := List.mem_append_left _ (List.mem_of_getElem? (i := 5) (by decide +kernel))
theorem m_6 : Cond.fieldLink RX1 19 "KeySteward$Bytes" "size" "I" ∈ kw := List.mem_append_left _ (List.mem_of_getElem? (i := 6) (by decide +kernel))
theorem m_7 : Cond.fieldLink RX1 22 "KeySteward$Bytes" "burst" "Z" ∈ kw := List.mem_append_left _ (List.mem_of_getElem? (i := 7) (by decide +kernel))
set_option maxRecDepth 100000 in
theorem m_8 : Cond.code yX1_room cX1_room 3 (some .boolean) ∈ kw := List.mem_append_left _ (List.mem_of_getElem? (i := 8) rfl)
theorem m_9 : Cond.initialized RX1 ∈ kw := List.mem_append_left _ (List.mem_of_getElem? (i := 9) (by decide +kernel))
theorem m_10 : Cond.methodLink RX1 41 yX1_room ∈ kw := List.mem_append_left _ (List.mem_of_getElem? (i := 10) (by decide +kernel))
theorem m_11 : Cond.instanceMethod yX1_room ∈ kw := List.mem_append_left _ (List.mem_of_getElem? (i := 11) (by decide +kernel))
theorem m_12 : Cond.selects RX1 yX1_room yX1_room ∈ kw := List.mem_append_left _ (List.mem_of_getElem? (i := 12) (by decide +kernel))
theorem m_13 : Cond.methodLink RX1 45 arraycopyName ∈ kw := List.mem_append_left _ (List.mem_of_getElem? (i := 13) (by decide +kernel))
theorem m_14 : Cond.native arraycopyName ∈ kw := List.mem_append_left _ (List.mem_of_getElem? (i := 14) (by decide +kernel))
theorem m_15 : Cond.static arraycopyName ∈ kw := List.mem_append_left _ (List.mem_of_getElem? (i := 15) (by decide +kernel))
theorem m_16 : Cond.initialized RJ10 ∈ kw := List.mem_append_left _ (List.mem_of_getElem? (i := 16) (by decide +kernel))
theorem m_17 : Cond.methodLink RX3 3 objectInit ∈ kw := List.mem_append_left _ (List.mem_of_getElem? (i := 17) (by decide +kernel))
theorem m_18 : Cond.fieldLink RX3 9 "KeySteward$Connection" "live" "Z" ∈ kw := List.mem_append_left _ (List.mem_of_getElem? (i := 18) (by decide +kernel))
theorem m_19 : Cond.classLink RX3 15 RX1 ∈ kw := List.mem_append_left _ (List.mem_of_getElem? (i := 19) (by decide +kernel))
theorem m_20 : Cond.instantiable RX1 4 ∈ kw := List.mem_append_left _ (List.mem_of_getElem? (i := 20) (by decide +kernel))
theorem m_21 : Cond.constant RX3 17 (131076) ∈ kw := List.mem_append_left _ (List.mem_of_getElem? (i := 21) (by decide +kernel))
set_option maxRecDepth 100000 in
theorem m_22 : Cond.code yX1_init cX1_init 2 none ∈ kw := List.mem_append_left _ (List.mem_of_getElem? (i := 22) rfl)
theorem m_23 : Cond.methodLink RX3 18 yX1_init ∈ kw := List.mem_append_left _ (List.mem_of_getElem? (i := 23) (by decide +kernel))
theorem m_24 : Cond.instanceMethod yX1_init ∈ kw := List.mem_append_left _ (List.mem_of_getElem? (i := 24) (by decide +kernel))
theorem m_25 : Cond.fieldLink RX3 21 "KeySteward$Connection" "input" "LKeySteward$Bytes;" ∈ kw := List.mem_append_left _ (List.mem_of_getElem? (i := 25) (by decide +kernel))
theorem m_26 : Cond.constant RX3 25 (65536) ∈ kw := List.mem_append_left _ (List.mem_of_getElem? (i := 26) (by decide +kernel))
theorem m_27 : Cond.fieldLink RX3 26 "KeySteward$Connection" "output" "LKeySteward$Bytes;" ∈ kw := List.mem_append_left _ (List.mem_of_getElem? (i := 27) (by decide +kernel))
theorem m_28 : Cond.constant RX3 29 (67108864) ∈ kw := List.mem_append_left _ (List.mem_of_getElem? (i := 28) (by decide +kernel))
theorem m_29 : Cond.fieldLink RX3 30 "KeySteward$Connection" "block" "LKeySteward$Bytes;" ∈ kw := List.mem_append_left _ (List.mem_of_getElem? (i := 29) (by decide +kernel))
theorem m_30 : Cond.arrayClass .int ∈ kw := List.mem_append_left _ (List.mem_of_getElem? (i := 30) (by decide +kernel))
theorem m_31 : Cond.fieldLink RX3 33 "KeySteward$Connection" "watches" "[I" ∈ kw := List.mem_append_left _ (List.mem_of_getElem? (i := 31) (by decide +kernel))
theorem m_32 : Cond.fieldLink RX3 37 "KeySteward$Connection" "channels" "[I" ∈ kw := List.mem_append_left _ (List.mem_of_getElem? (i := 32) (by decide +kernel))
theorem m_33 : Cond.fieldLink RX3 62 "KeySteward$Connection" "watchCount" "I" ∈ kw := List.mem_append_left _ (List.mem_of_getElem? (i := 33) (by decide +kernel))
theorem m_34 : Cond.fieldLink RX3 65 "KeySteward$Connection" "dirty" "Z" ∈ kw := List.mem_append_left _ (List.mem_of_getElem? (i := 34) (by decide +kernel))
theorem m_35 : Cond.fieldLink RX3 50 "KeySteward$Connection" "queues" "Z" ∈ kw := List.mem_append_left _ (List.mem_of_getElem? (i := 35) (by decide +kernel))
theorem m_36 : Cond.fieldLink RX3 53 "KeySteward$Connection" "spoilt" "Z" ∈ kw := List.mem_append_left _ (List.mem_of_getElem? (i := 36) (by decide +kernel))
theorem m_37 : Cond.fieldLink RX3 56 "KeySteward$Connection" "queued" "I" ∈ kw := List.mem_append_left _ (List.mem_of_getElem? (i := 37) (by decide +kernel))
set_option maxRecDepth 100000 in
theorem m_38 : Cond.code yX1_empty cX1_empty 1 none ∈ kw := List.mem_append_left _ (List.mem_of_getElem? (i := 38) rfl)
theorem m_39 : Cond.methodLink RX3 40 yX1_empty ∈ kw := List.mem_append_left _ (List.mem_of_getElem? (i := 39) (by decide +kernel))
theorem m_40 : Cond.instanceMethod yX1_empty ∈ kw := List.mem_append_left _ (List.mem_of_getElem? (i := 40) (by decide +kernel))
theorem m_41 : Cond.selects RX1 yX1_empty yX1_empty ∈ kw := List.mem_append_left _ (List.mem_of_getElem? (i := 41) (by decide +kernel))
set_option maxRecDepth 100000 in
theorem m_42 : Cond.code yX3_unwatch cX3_unwatch 1 none ∈ kw := List.mem_append_left _ (List.mem_of_getElem? (i := 42) rfl)
theorem m_43 : Cond.initialized RX3 ∈ kw := List.mem_append_left _ (List.mem_of_getElem? (i := 43) (by decide +kernel))
theorem m_44 : Cond.methodLink RX3 59 yX3_unwatch ∈ kw := List.mem_append_left _ (List.mem_of_getElem? (i := 44) (by decide +kernel))
theorem m_45 : Cond.instanceMethod yX3_unwatch ∈ kw := List.mem_append_left _ (List.mem_of_getElem? (i := 45) (by decide +kernel))
theorem m_46 : Cond.selects RX3 yX3_unwatch yX3_unwatch ∈ kw := List.mem_append_left _ (List.mem_of_getElem? (i := 46) (by decide +kernel))
set_option maxRecDepth 100000 in
theorem m_47 : Cond.code yX3_endBlock cX3_endBlock 1 none ∈ kw := List.mem_append_left _ (List.mem_of_getElem? (i := 47) rfl)
theorem m_48 : Cond.methodLink RX3 43 yX3_endBlock ∈ kw := List.mem_append_left _ (List.mem_of_getElem? (i := 48) (by decide +kernel))
theorem m_49 : Cond.instanceMethod yX3_endBlock ∈ kw := List.mem_append_left _ (List.mem_of_getElem? (i := 49) (by decide +kernel))
theorem m_50 : Cond.selects RX3 yX3_endBlock yX3_endBlock ∈ kw := List.mem_append_left _ (List.mem_of_getElem? (i := 50) (by decide +kernel))
theorem m_51 : Cond.fieldLink RX3 46 "KeySteward$Connection" "channelCount" "I" ∈ kw := List.mem_append_left _ (List.mem_of_getElem? (i := 51) (by decide +kernel))
theorem m_52 : Cond.methodLink RX11 3 objectInit ∈ kw := List.mem_append_left _ (List.mem_of_getElem? (i := 52) (by decide +kernel))
theorem m_53 : Cond.fieldLink RX11 9 "KeySteward$Words" "bytes" "[B" ∈ kw := List.mem_append_left _ (List.mem_of_getElem? (i := 53) (by decide +kernel))
theorem m_54 : Cond.fieldLink RX11 15 "KeySteward$Words" "starts" "[I" ∈ kw := List.mem_append_left _ (List.mem_of_getElem? (i := 54) (by decide +kernel))
theorem m_55 : Cond.fieldLink RX11 19 "KeySteward$Words" "chain" "[I" ∈ kw := List.mem_append_left _ (List.mem_of_getElem? (i := 55) (by decide +kernel))
theorem m_56 : Cond.fieldLink RX11 22 "KeySteward$Words" "heads" "[I" ∈ kw := List.mem_append_left _ (List.mem_of_getElem? (i := 56) (by decide +kernel))
theorem m_57 : Cond.methodLink RX8 3 objectInit ∈ kw := List.mem_append_left _ (List.mem_of_getElem? (i := 57) (by decide +kernel))
theorem m_58 : Cond.fieldLink RX8 11 "KeySteward$Request" "starts" "[I" ∈ kw := List.mem_append_left _ (List.mem_of_getElem? (i := 58) (by decide +kernel))
theorem m_59 : Cond.fieldLink RX8 15 "KeySteward$Request" "lengths" "[I" ∈ kw := List.mem_append_left _ (List.mem_of_getElem? (i := 59) (by decide +kernel))
theorem m_60 : Cond.fieldLink RX8 18 "KeySteward$Request" "row" "[B" ∈ kw := List.mem_append_left _ (List.mem_of_getElem? (i := 60) (by decide +kernel))
theorem m_61 : Cond.fieldLink RX8 22 "KeySteward$Request" "words" "LKeySteward$Words;" ∈ kw := List.mem_append_left _ (List.mem_of_getElem? (i := 61) (by decide +kernel))
theorem m_62 : Cond.classLink RX8 26 RX1 ∈ kw := List.mem_append_left _ (List.mem_of_getElem? (i := 62) (by decide +kernel))
theorem m_63 : Cond.methodLink RX8 28 yX1_init ∈ kw := List.mem_append_left _ (List.mem_of_getElem? (i := 63) (by decide +kernel))
theorem m_64 : Cond.fieldLink RX8 31 "KeySteward$Request" "answer" "LKeySteward$Bytes;" ∈ kw := List.mem_append_left _ (List.mem_of_getElem? (i := 64) (by decide +kernel))
theorem m_65 : Cond.methodLink RX4 3 objectInit ∈ kw := List.mem_append_left _ (List.mem_of_getElem? (i := 65) (by decide +kernel))
theorem m_66 : Cond.fieldLink RX4 9 "KeySteward$Keys" "ids" "[I" ∈ kw := List.mem_append_left _ (List.mem_of_getElem? (i := 66) (by decide +kernel))
theorem m_67 : Cond.fieldLink RX4 15 "KeySteward$Keys" "slots" "[I" ∈ kw := List.mem_append_left _ (List.mem_of_getElem? (i := 67) (by decide +kernel))
theorem m_68 : Cond.classLink RX4 18 RX10 ∈ kw := List.mem_append_left _ (List.mem_of_getElem? (i := 68) (by decide +kernel))
theorem m_69 : Cond.fieldLink RX4 20 "KeySteward$Keys" "shelf" "[LKeySteward$Value;" ∈ kw := List.mem_append_left _ (List.mem_of_getElem? (i := 69) (by decide +kernel))
theorem m_70 : Cond.fieldLink RX4 24 "KeySteward$Keys" "texts" "[B" ∈ kw := List.mem_append_left _ (List.mem_of_getElem? (i := 70) (by decide +kernel))
theorem m_71 : Cond.fieldLink RX4 28 "KeySteward$Keys" "nextTexts" "[B" ∈ kw := List.mem_append_left _ (List.mem_of_getElem? (i := 71) (by decide +kernel))
theorem m_72 : Cond.arrayClass .long ∈ kw := List.mem_append_left _ (List.mem_of_getElem? (i := 72) (by decide +kernel))
theorem m_73 : Cond.fieldLink RX4 31 "KeySteward$Keys" "cells" "[J" ∈ kw := List.mem_append_left _ (List.mem_of_getElem? (i := 73) (by decide +kernel))
theorem m_74 : Cond.fieldLink RX4 35 "KeySteward$Keys" "nextCells" "[J" ∈ kw := List.mem_append_left _ (List.mem_of_getElem? (i := 74) (by decide +kernel))
theorem m_75 : Cond.fieldLink RX4 38 "KeySteward$Keys" "words" "LKeySteward$Words;" ∈ kw := List.mem_append_left _ (List.mem_of_getElem? (i := 75) (by decide +kernel))
theorem m_76 : Cond.fieldLink RX4 42 "KeySteward$Keys" "ask" "LKeySteward$Request;" ∈ kw := List.mem_append_left _ (List.mem_of_getElem? (i := 76) (by decide +kernel))
theorem m_77 : Cond.fieldLink RX4 46 "KeySteward$Keys" "watchers" "[LKeySteward$Connection;" ∈ kw := List.mem_append_left _ (List.mem_of_getElem? (i := 77) (by decide +kernel))
theorem m_78 : Cond.methodLink RX9 3 objectInit ∈ kw := List.mem_append_left _ (List.mem_of_getElem? (i := 78) (by decide +kernel))
theorem m_79 : Cond.classLink RX9 9 RX1 ∈ kw := List.mem_append_left _ (List.mem_of_getElem? (i := 79) (by decide +kernel))
theorem m_80 : Cond.methodLink RX9 11 yX1_init ∈ kw := List.mem_append_left _ (List.mem_of_getElem? (i := 80) (by decide +kernel))
theorem m_81 : Cond.fieldLink RX9 14 "KeySteward$Texts" "numeral" "LKeySteward$Bytes;" ∈ kw := List.mem_append_left _ (List.mem_of_getElem? (i := 81) (by decide +kernel))
theorem m_82 : Cond.fieldLink RX9 20 "KeySteward$Texts" "ask" "LKeySteward$Request;" ∈ kw := List.mem_append_left _ (List.mem_of_getElem? (i := 82) (by decide +kernel))
theorem m_83 : Cond.fieldLink RX9 24 "KeySteward$Texts" "keys" "LKeySteward$Keys;" ∈ kw := List.mem_append_left _ (List.mem_of_getElem? (i := 83) (by decide +kernel))
theorem m_84 : Cond.methodLink RX5 3 objectInit ∈ kw := List.mem_append_left _ (List.mem_of_getElem? (i := 84) (by decide +kernel))
theorem m_85 : Cond.fieldLink RX5 9 "KeySteward$Lists" "words" "LKeySteward$Words;" ∈ kw := List.mem_append_left _ (List.mem_of_getElem? (i := 85) (by decide +kernel))
theorem m_86 : Cond.fieldLink RX5 15 "KeySteward$Lists" "ask" "LKeySteward$Request;" ∈ kw := List.mem_append_left _ (List.mem_of_getElem? (i := 86) (by decide +kernel))
theorem m_87 : Cond.fieldLink RX5 19 "KeySteward$Lists" "keys" "LKeySteward$Keys;" ∈ kw := List.mem_append_left _ (List.mem_of_getElem? (i := 87) (by decide +kernel))
theorem m_88 : Cond.methodLink RX6 3 objectInit ∈ kw := List.mem_append_left _ (List.mem_of_getElem? (i := 88) (by decide +kernel))
theorem m_89 : Cond.classLink RX6 9 RX1 ∈ kw := List.mem_append_left _ (List.mem_of_getElem? (i := 89) (by decide +kernel))
theorem m_90 : Cond.methodLink RX6 11 yX1_init ∈ kw := List.mem_append_left _ (List.mem_of_getElem? (i := 90) (by decide +kernel))
theorem m_91 : Cond.fieldLink RX6 14 "KeySteward$Members" "numeral" "LKeySteward$Bytes;" ∈ kw := List.mem_append_left _ (List.mem_of_getElem? (i := 91) (by decide +kernel))
theorem m_92 : Cond.fieldLink RX6 20 "KeySteward$Members" "pot" "[I" ∈ kw := List.mem_append_left _ (List.mem_of_getElem? (i := 92) (by decide +kernel))
theorem m_93 : Cond.fieldLink RX6 24 "KeySteward$Members" "words" "LKeySteward$Words;" ∈ kw := List.mem_append_left _ (List.mem_of_getElem? (i := 93) (by decide +kernel))
theorem m_94 : Cond.fieldLink RX6 28 "KeySteward$Members" "ask" "LKeySteward$Request;" ∈ kw := List.mem_append_left _ (List.mem_of_getElem? (i := 94) (by decide +kernel))
theorem m_95 : Cond.fieldLink RX6 32 "KeySteward$Members" "keys" "LKeySteward$Keys;" ∈ kw := List.mem_append_left _ (List.mem_of_getElem? (i := 95) (by decide +kernel))
theorem m_96 : Cond.methodLink RX7 3 objectInit ∈ kw := List.mem_append_left _ (List.mem_of_getElem? (i := 96) (by decide +kernel))
theorem m_97 : Cond.fieldLink RX7 9 "KeySteward$Orders" "words" "LKeySteward$Words;" ∈ kw := List.mem_append_left _ (List.mem_of_getElem? (i := 97) (by decide +kernel))
theorem m_98 : Cond.fieldLink RX7 15 "KeySteward$Orders" "ask" "LKeySteward$Request;" ∈ kw := List.mem_append_left _ (List.mem_of_getElem? (i := 98) (by decide +kernel))
theorem m_99 : Cond.fieldLink RX7 19 "KeySteward$Orders" "keys" "LKeySteward$Keys;" ∈ kw := List.mem_append_left _ (List.mem_of_getElem? (i := 99) (by decide +kernel))
theorem m_100 : Cond.fieldLink RX8 35 "KeySteward$Request" "count" "I" ∈ kw := List.mem_append_left _ (List.mem_of_getElem? (i := 100) (by decide +kernel))
theorem m_101 : Cond.fieldLink RX8 39 "KeySteward$Request" "next" "I" ∈ kw := List.mem_append_left _ (List.mem_of_getElem? (i := 101) (by decide +kernel))
theorem m_102 : Cond.fieldLink RX12 58 "KeySteward" "connections" "[LKeySteward$Connection;" ∈ kw := List.mem_append_left _ (List.mem_of_getElem? (i := 102) (by decide +kernel))
theorem m_103 : Cond.fieldLink RX12 17 "KeySteward" "tape" "LKeySteward$Bytes;" ∈ kw := List.mem_append_left _ (List.mem_of_getElem? (i := 103) (by decide +kernel))
theorem m_104 : Cond.fieldLink RX12 106 "KeySteward$Bytes" "size" "I" ∈ kw := List.mem_append_left _ (List.mem_of_getElem? (i := 104) (by decide +kernel))
theorem m_105 : Cond.constant RX12 109 (65520) ∈ kw := List.mem_append_left _ (List.mem_of_getElem? (i := 105) (by decide +kernel))
set_option maxRecDepth 100000 in
theorem m_106 : Cond.code yX1_four cX1_four 3 none ∈ kw := List.mem_append_left _ (List.mem_of_getElem? (i := 106) rfl)
theorem m_107 : Cond.methodLink RX12 110 yX1_four ∈ kw := List.mem_append_left _ (List.mem_of_getElem? (i := 107) (by decide +kernel))
theorem m_108 : Cond.instanceMethod yX1_four ∈ kw := List.mem_append_left _ (List.mem_of_getElem? (i := 108) (by decide +kernel))
theorem m_109 : Cond.selects RX1 yX1_four yX1_four ∈ kw := List.mem_append_left _ (List.mem_of_getElem? (i := 109) (by decide +kernel))
set_option maxRecDepth 100000 in
theorem m_110 : Cond.code yX1_cut cX1_cut 2 none ∈ kw := List.mem_append_left _ (List.mem_of_getElem? (i := 110) rfl)
theorem m_111 : Cond.methodLink RX12 113 yX1_cut ∈ kw := List.mem_append_left _ (List.mem_of_getElem? (i := 111) (by decide +kernel))
theorem m_112 : Cond.instanceMethod yX1_cut ∈ kw := List.mem_append_left _ (List.mem_of_getElem? (i := 112) (by decide +kernel))
theorem m_113 : Cond.selects RX1 yX1_cut yX1_cut ∈ kw := List.mem_append_left _ (List.mem_of_getElem? (i := 113) (by decide +kernel))
theorem m_114 : Cond.fieldLink RX12 120 "KeySteward$Connection" "live" "Z" ∈ kw := List.mem_append_left _ (List.mem_of_getElem? (i := 114) (by decide +kernel))
theorem m_115 : Cond.fieldLink RX12 126 "KeySteward$Connection" "input" "LKeySteward$Bytes;" ∈ kw := List.mem_append_left _ (List.mem_of_getElem? (i := 115) (by decide +kernel))
set_option maxRecDepth 100000 in
theorem m_116 : Cond.code yX1_drop cX1_drop 3 none ∈ kw := List.mem_append_left _ (List.mem_of_getElem? (i := 116) rfl)
theorem m_117 : Cond.methodLink RX12 182 yX1_drop ∈ kw := List.mem_append_left _ (List.mem_of_getElem? (i := 117) (by decide +kernel))
theorem m_118 : Cond.instanceMethod yX1_drop ∈ kw := List.mem_append_left _ (List.mem_of_getElem? (i := 118) (by decide +kernel))
theorem m_119 : Cond.selects RX1 yX1_drop yX1_drop ∈ kw := List.mem_append_left _ (List.mem_of_getElem? (i := 119) (by decide +kernel))
theorem m_120 : Cond.constant RX12 229 (65536) ∈ kw := List.mem_append_left _ (List.mem_of_getElem? (i := 120) (by decide +kernel))
set_option maxRecDepth 100000 in
theorem m_121 : Cond.code yX12_connectionOf cX12_connectionOf 2 (some (.object "KeySteward$Connection")) ∈ kw := List.mem_append_left _ (List.mem_of_getElem? (i := 121) rfl)
theorem m_122 : Cond.initialized RX12 ∈ kw := List.mem_append_left _ (List.mem_of_getElem? (i := 122) (by decide +kernel))
theorem m_123 : Cond.methodLink RX12 116 yX12_connectionOf ∈ kw := List.mem_append_left _ (List.mem_of_getElem? (i := 123) (by decide +kernel))
theorem m_124 : Cond.instanceMethod yX12_connectionOf ∈ kw := List.mem_append_left _ (List.mem_of_getElem? (i := 124) (by decide +kernel))
theorem m_125 : Cond.selects RX12 yX12_connectionOf yX12_connectionOf ∈ kw := List.mem_append_left _ (List.mem_of_getElem? (i := 125) (by decide +kernel))
theorem m_126 : Cond.fieldLink RX12 172 "KeySteward$Connection" "output" "LKeySteward$Bytes;" ∈ kw := List.mem_append_left _ (List.mem_of_getElem? (i := 126) (by decide +kernel))
theorem m_127 : Cond.fieldLink RX12 38 "KeySteward" "up" "Z" ∈ kw := List.mem_append_left _ (List.mem_of_getElem? (i := 127) (by decide +kernel))
set_option maxRecDepth 100000 in
theorem m_128 : Cond.code yX3_close cX3_close 1 none ∈ kw := List.mem_append_left _ (List.mem_of_getElem? (i := 128) rfl)
theorem m_129 : Cond.methodLink RX12 169 yX3_close ∈ kw := List.mem_append_left _ (List.mem_of_getElem? (i := 129) (by decide +kernel))
theorem m_130 : Cond.instanceMethod yX3_close ∈ kw := List.mem_append_left _ (List.mem_of_getElem? (i := 130) (by decide +kernel))
theorem m_131 : Cond.selects RX3 yX3_close yX3_close ∈ kw := List.mem_append_left _ (List.mem_of_getElem? (i := 131) (by decide +kernel))
theorem m_132 : Cond.methodLink RX12 123 yX1_empty ∈ kw := List.mem_append_left _ (List.mem_of_getElem? (i := 132) (by decide +kernel))
theorem m_133 : Cond.fieldLink RX12 129 "KeySteward$Bytes" "row" "[B" ∈ kw := List.mem_append_left _ (List.mem_of_getElem? (i := 133) (by decide +kernel))
set_option maxRecDepth 100000 in
theorem m_134 : Cond.code yX1_append cX1_append 4 none ∈ kw := List.mem_append_left _ (List.mem_of_getElem? (i := 134) rfl)
theorem m_135 : Cond.methodLink RX12 133 yX1_append ∈ kw := List.mem_append_left _ (List.mem_of_getElem? (i := 135) (by decide +kernel))
theorem m_136 : Cond.instanceMethod yX1_append ∈ kw := List.mem_append_left _ (List.mem_of_getElem? (i := 136) (by decide +kernel))
theorem m_137 : Cond.selects RX1 yX1_append yX1_append ∈ kw := List.mem_append_left _ (List.mem_of_getElem? (i := 137) (by decide +kernel))
theorem m_138 : Cond.constant RX12 137 (1048576) ∈ kw := List.mem_append_left _ (List.mem_of_getElem? (i := 138) (by decide +kernel))
theorem m_139 : Cond.fieldLink RX12 66 "KeySteward" "ask" "LKeySteward$Request;" ∈ kw := List.mem_append_left _ (List.mem_of_getElem? (i := 139) (by decide +kernel))
set_option maxRecDepth 100000 in
theorem m_140 : Cond.code yX8_read cX8_read 4 (some .int) ∈ kw := List.mem_append_left _ (List.mem_of_getElem? (i := 140) rfl)
theorem m_141 : Cond.initialized RX8 ∈ kw := List.mem_append_left _ (List.mem_of_getElem? (i := 141) (by decide +kernel))
theorem m_142 : Cond.methodLink RX12 138 yX8_read ∈ kw := List.mem_append_left _ (List.mem_of_getElem? (i := 142) (by decide +kernel))
theorem m_143 : Cond.instanceMethod yX8_read ∈ kw := List.mem_append_left _ (List.mem_of_getElem? (i := 143) (by decide +kernel))
theorem m_144 : Cond.selects RX8 yX8_read yX8_read ∈ kw := List.mem_append_left _ (List.mem_of_getElem? (i := 144) (by decide +kernel))
set_option maxRecDepth 100000 in
theorem m_145 : Cond.code yX12_keepRest cX12_keepRest 3 none ∈ kw := List.mem_append_left _ (List.mem_of_getElem? (i := 145) rfl)
theorem m_146 : Cond.methodLink RX12 166 yX12_keepRest ∈ kw := List.mem_append_left _ (List.mem_of_getElem? (i := 146) (by decide +kernel))
theorem m_147 : Cond.instanceMethod yX12_keepRest ∈ kw := List.mem_append_left _ (List.mem_of_getElem? (i := 147) (by decide +kernel))
theorem m_148 : Cond.selects RX12 yX12_keepRest yX12_keepRest ∈ kw := List.mem_append_left _ (List.mem_of_getElem? (i := 148) (by decide +kernel))
theorem m_149 : Cond.fieldLink RX12 70 "KeySteward" "keys" "LKeySteward$Keys;" ∈ kw := List.mem_append_left _ (List.mem_of_getElem? (i := 149) (by decide +kernel))
theorem m_150 : Cond.fieldLink RX12 226 "KeySteward$Keys" "timed" "I" ∈ kw := List.mem_append_left _ (List.mem_of_getElem? (i := 150) (by decide +kernel))
theorem m_151 : Cond.fieldLink RX12 25 "KeySteward" "journal" "LKeySteward$Bytes;" ∈ kw := List.mem_append_left _ (List.mem_of_getElem? (i := 151) (by decide +kernel))
theorem m_152 : Cond.fieldLink RX12 34 "KeySteward" "fuseLeft" "I" ∈ kw := List.mem_append_left _ (List.mem_of_getElem? (i := 152) (by decide +kernel))
theorem m_153 : Cond.constantLong RX12 185 (4503599627370496) ∈ kw := List.mem_append_left _ (List.mem_of_getElem? (i := 153) (by decide +kernel))
theorem m_154 : Cond.fieldLink RX12 187 "KeySteward$Keys" "clock" "J" ∈ kw := List.mem_append_left _ (List.mem_of_getElem? (i := 154) (by decide +kernel))
set_option maxRecDepth 100000 in
theorem m_155 : Cond.code yX12_expire cX12_expire 7 (some .int) ∈ kw := List.mem_append_left _ (List.mem_of_getElem? (i := 155) rfl)
theorem m_156 : Cond.methodLink RX12 191 yX12_expire ∈ kw := List.mem_append_left _ (List.mem_of_getElem? (i := 156) (by decide +kernel))
theorem m_157 : Cond.instanceMethod yX12_expire ∈ kw := List.mem_append_left _ (List.mem_of_getElem? (i := 157) (by decide +kernel))
theorem m_158 : Cond.selects RX12 yX12_expire yX12_expire ∈ kw := List.mem_append_left _ (List.mem_of_getElem? (i := 158) (by decide +kernel))
set_option maxRecDepth 100000 in
theorem m_159 : Cond.code yX12_burn cX12_burn 3 none ∈ kw := List.mem_append_left _ (List.mem_of_getElem? (i := 159) rfl)
theorem m_160 : Cond.methodLink RX12 195 yX12_burn ∈ kw := List.mem_append_left _ (List.mem_of_getElem? (i := 160) (by decide +kernel))
theorem m_161 : Cond.instanceMethod yX12_burn ∈ kw := List.mem_append_left _ (List.mem_of_getElem? (i := 161) (by decide +kernel))
theorem m_162 : Cond.selects RX12 yX12_burn yX12_burn ∈ kw := List.mem_append_left _ (List.mem_of_getElem? (i := 162) (by decide +kernel))
theorem m_163 : Cond.fieldLink RX12 28 "KeySteward" "nextJournal" "LKeySteward$Bytes;" ∈ kw := List.mem_append_left _ (List.mem_of_getElem? (i := 163) (by decide +kernel))
theorem m_164 : Cond.fieldLink RX12 211 "KeySteward$Keys" "count" "I" ∈ kw := List.mem_append_left _ (List.mem_of_getElem? (i := 164) (by decide +kernel))
theorem m_165 : Cond.fieldLink RX12 223 "KeySteward$Keys" "memory" "I" ∈ kw := List.mem_append_left _ (List.mem_of_getElem? (i := 165) (by decide +kernel))
theorem m_166 : Cond.fieldLink RX4 50 "KeySteward$Keys" "count" "I" ∈ kw := List.mem_append_left _ (List.mem_of_getElem? (i := 166) (by decide +kernel))
theorem m_167 : Cond.fieldLink RX4 58 "KeySteward$Keys" "textsEnd" "I" ∈ kw := List.mem_append_left _ (List.mem_of_getElem? (i := 167) (by decide +kernel))
theorem m_168 : Cond.fieldLink RX4 61 "KeySteward$Keys" "cellsEnd" "I" ∈ kw := List.mem_append_left _ (List.mem_of_getElem? (i := 168) (by decide +kernel))
theorem m_169 : Cond.fieldLink RX11 25 "KeySteward$Words" "count" "I" ∈ kw := List.mem_append_left _ (List.mem_of_getElem? (i := 169) (by decide +kernel))
set_option maxRecDepth 100000 in
theorem m_170 : Cond.code yJ7_fill_53178 cJ7_fill_53178 4 none ∈ kw := List.mem_append_left _ (List.mem_of_getElem? (i := 170) rfl)
theorem m_171 : Cond.initialized RJ7 ∈ kw := List.mem_append_left _ (List.mem_of_getElem? (i := 171) (by decide +kernel))
theorem m_172 : Cond.methodLink RX11 29 yJ7_fill_53178 ∈ kw := List.mem_append_left _ (List.mem_of_getElem? (i := 172) (by decide +kernel))
theorem m_173 : Cond.static yJ7_fill_53178 ∈ kw := List.mem_append_left _ (List.mem_of_getElem? (i := 173) (by decide +kernel))
theorem m_174 : Cond.fieldLink RX12 230 "KeySteward" "runsBlock" "Z" ∈ kw := List.mem_append_left _ (List.mem_of_getElem? (i := 174) (by decide +kernel))
set_option maxRecDepth 100000 in
theorem m_175 : Cond.code yX4_forget cX4_forget 3 none ∈ kw := List.mem_append_left _ (List.mem_of_getElem? (i := 175) rfl)
theorem m_176 : Cond.initialized RX4 ∈ kw := List.mem_append_left _ (List.mem_of_getElem? (i := 176) (by decide +kernel))
theorem m_177 : Cond.methodLink RX12 233 yX4_forget ∈ kw := List.mem_append_left _ (List.mem_of_getElem? (i := 177) (by decide +kernel))
theorem m_178 : Cond.instanceMethod yX4_forget ∈ kw := List.mem_append_left _ (List.mem_of_getElem? (i := 178) (by decide +kernel))
theorem m_179 : Cond.selects RX4 yX4_forget yX4_forget ∈ kw := List.mem_append_left _ (List.mem_of_getElem? (i := 179) (by decide +kernel))
theorem m_180 : Cond.fieldLink RX12 62 "KeySteward" "words" "LKeySteward$Words;" ∈ kw := List.mem_append_left _ (List.mem_of_getElem? (i := 180) (by decide +kernel))
set_option maxRecDepth 100000 in
theorem m_181 : Cond.code yX11_forget cX11_forget 1 none ∈ kw := List.mem_append_left _ (List.mem_of_getElem? (i := 181) rfl)
theorem m_182 : Cond.initialized RX11 ∈ kw := List.mem_append_left _ (List.mem_of_getElem? (i := 182) (by decide +kernel))
theorem m_183 : Cond.methodLink RX12 236 yX11_forget ∈ kw := List.mem_append_left _ (List.mem_of_getElem? (i := 183) (by decide +kernel))
theorem m_184 : Cond.instanceMethod yX11_forget ∈ kw := List.mem_append_left _ (List.mem_of_getElem? (i := 184) (by decide +kernel))
theorem m_185 : Cond.selects RX11 yX11_forget yX11_forget ∈ kw := List.mem_append_left _ (List.mem_of_getElem? (i := 185) (by decide +kernel))
set_option maxRecDepth 100000 in
theorem m_186 : Cond.code yX12_halt cX12_halt 5 none ∈ kw := List.mem_append_left _ (List.mem_of_getElem? (i := 186) rfl)
theorem m_187 : Cond.methodLink RX12 198 yX12_halt ∈ kw := List.mem_append_left _ (List.mem_of_getElem? (i := 187) (by decide +kernel))
theorem m_188 : Cond.instanceMethod yX12_halt ∈ kw := List.mem_append_left _ (List.mem_of_getElem? (i := 188) (by decide +kernel))
theorem m_189 : Cond.selects RX12 yX12_halt yX12_halt ∈ kw := List.mem_append_left _ (List.mem_of_getElem? (i := 189) (by decide +kernel))
theorem m_190 : Cond.methodLink RX12 3 objectInit ∈ kw := List.mem_append_left _ (List.mem_of_getElem? (i := 190) (by decide +kernel))
theorem m_191 : Cond.classLink RX12 9 RX1 ∈ kw := List.mem_append_left _ (List.mem_of_getElem? (i := 191) (by decide +kernel))
theorem m_192 : Cond.constant RX12 13 (65540) ∈ kw := List.mem_append_left _ (List.mem_of_getElem? (i := 192) (by decide +kernel))
theorem m_193 : Cond.methodLink RX12 14 yX1_init ∈ kw := List.mem_append_left _ (List.mem_of_getElem? (i := 193) (by decide +kernel))
theorem m_194 : Cond.fieldLink RX12 21 "KeySteward" "mute" "LKeySteward$Bytes;" ∈ kw := List.mem_append_left _ (List.mem_of_getElem? (i := 194) (by decide +kernel))
theorem m_195 : Cond.constant RX12 24 (67108864) ∈ kw := List.mem_append_left _ (List.mem_of_getElem? (i := 195) (by decide +kernel))
theorem m_196 : Cond.fieldLink RX12 31 "KeySteward" "running" "LKeySteward$Bytes;" ∈ kw := List.mem_append_left _ (List.mem_of_getElem? (i := 196) (by decide +kernel))
theorem m_197 : Cond.classLink RX12 42 RX3 ∈ kw := List.mem_append_left _ (List.mem_of_getElem? (i := 197) (by decide +kernel))
theorem m_198 : Cond.instantiable RX3 12 ∈ kw := List.mem_append_left _ (List.mem_of_getElem? (i := 198) (by decide +kernel))
set_option maxRecDepth 100000 in
theorem m_199 : Cond.code yX3_init cX3_init 1 none ∈ kw := List.mem_append_left _ (List.mem_of_getElem? (i := 199) rfl)
theorem m_200 : Cond.instanceMethod yX3_init ∈ kw := List.mem_append_left _ (List.mem_of_getElem? (i := 200) (by decide +kernel))
theorem m_201 : Cond.classLink RX12 45 RX11 ∈ kw := List.mem_append_left _ (List.mem_of_getElem? (i := 201) (by decide +kernel))
theorem m_202 : Cond.instantiable RX11 5 ∈ kw := List.mem_append_left _ (List.mem_of_getElem? (i := 202) (by decide +kernel))
set_option maxRecDepth 100000 in
theorem m_203 : Cond.code yX11_init cX11_init 1 none ∈ kw := List.mem_append_left _ (List.mem_of_getElem? (i := 203) rfl)
theorem m_204 : Cond.instanceMethod yX11_init ∈ kw := List.mem_append_left _ (List.mem_of_getElem? (i := 204) (by decide +kernel))
theorem m_205 : Cond.classLink RX12 48 RX8 ∈ kw := List.mem_append_left _ (List.mem_of_getElem? (i := 205) (by decide +kernel))
theorem m_206 : Cond.instantiable RX8 17 ∈ kw := List.mem_append_left _ (List.mem_of_getElem? (i := 206) (by decide +kernel))
set_option maxRecDepth 100000 in
theorem m_207 : Cond.code yX8_init cX8_init 2 none ∈ kw := List.mem_append_left _ (List.mem_of_getElem? (i := 207) rfl)
theorem m_208 : Cond.methodLink RX12 50 yX8_init ∈ kw := List.mem_append_left _ (List.mem_of_getElem? (i := 208) (by decide +kernel))
theorem m_209 : Cond.instanceMethod yX8_init ∈ kw := List.mem_append_left _ (List.mem_of_getElem? (i := 209) (by decide +kernel))
theorem m_210 : Cond.classLink RX12 53 RX4 ∈ kw := List.mem_append_left _ (List.mem_of_getElem? (i := 210) (by decide +kernel))
theorem m_211 : Cond.instantiable RX4 19 ∈ kw := List.mem_append_left _ (List.mem_of_getElem? (i := 211) (by decide +kernel))
set_option maxRecDepth 100000 in
theorem m_212 : Cond.code yX4_init cX4_init 4 none ∈ kw := List.mem_append_left _ (List.mem_of_getElem? (i := 212) rfl)
theorem m_213 : Cond.methodLink RX12 55 yX4_init ∈ kw := List.mem_append_left _ (List.mem_of_getElem? (i := 213) (by decide +kernel))
theorem m_214 : Cond.instanceMethod yX4_init ∈ kw := List.mem_append_left _ (List.mem_of_getElem? (i := 214) (by decide +kernel))
theorem m_215 : Cond.classLink RX12 74 RX9 ∈ kw := List.mem_append_left _ (List.mem_of_getElem? (i := 215) (by decide +kernel))
theorem m_216 : Cond.instantiable RX9 7 ∈ kw := List.mem_append_left _ (List.mem_of_getElem? (i := 216) (by decide +kernel))
theorem m_217 : Cond.initialized RX9 ∈ kw := List.mem_append_left _ (List.mem_of_getElem? (i := 217) (by decide +kernel))
set_option maxRecDepth 100000 in
theorem m_218 : Cond.code yX9_init cX9_init 3 none ∈ kw := List.mem_append_left _ (List.mem_of_getElem? (i := 218) rfl)
theorem m_219 : Cond.methodLink RX12 76 yX9_init ∈ kw := List.mem_append_left _ (List.mem_of_getElem? (i := 219) (by decide +kernel))
theorem m_220 : Cond.instanceMethod yX9_init ∈ kw := List.mem_append_left _ (List.mem_of_getElem? (i := 220) (by decide +kernel))
theorem m_221 : Cond.fieldLink RX12 79 "KeySteward" "texts" "LKeySteward$Texts;" ∈ kw := List.mem_append_left _ (List.mem_of_getElem? (i := 221) (by decide +kernel))
theorem m_222 : Cond.classLink RX12 83 RX5 ∈ kw := List.mem_append_left _ (List.mem_of_getElem? (i := 222) (by decide +kernel))
theorem m_223 : Cond.instantiable RX5 3 ∈ kw := List.mem_append_left _ (List.mem_of_getElem? (i := 223) (by decide +kernel))
theorem m_224 : Cond.initialized RX5 ∈ kw := List.mem_append_left _ (List.mem_of_getElem? (i := 224) (by decide +kernel))
set_option maxRecDepth 100000 in
theorem m_225 : Cond.code yX5_init cX5_init 4 none ∈ kw := List.mem_append_left _ (List.mem_of_getElem? (i := 225) rfl)
theorem m_226 : Cond.methodLink RX12 85 yX5_init ∈ kw := List.mem_append_left _ (List.mem_of_getElem? (i := 226) (by decide +kernel))
theorem m_227 : Cond.instanceMethod yX5_init ∈ kw := List.mem_append_left _ (List.mem_of_getElem? (i := 227) (by decide +kernel))
theorem m_228 : Cond.fieldLink RX12 88 "KeySteward" "lists" "LKeySteward$Lists;" ∈ kw := List.mem_append_left _ (List.mem_of_getElem? (i := 228) (by decide +kernel))
theorem m_229 : Cond.classLink RX12 92 RX6 ∈ kw := List.mem_append_left _ (List.mem_of_getElem? (i := 229) (by decide +kernel))
theorem m_230 : Cond.instantiable RX6 6 ∈ kw := List.mem_append_left _ (List.mem_of_getElem? (i := 230) (by decide +kernel))
theorem m_231 : Cond.initialized RX6 ∈ kw := List.mem_append_left _ (List.mem_of_getElem? (i := 231) (by decide +kernel))
set_option maxRecDepth 100000 in
theorem m_232 : Cond.code yX6_init cX6_init 4 none ∈ kw := List.mem_append_left _ (List.mem_of_getElem? (i := 232) rfl)
theorem m_233 : Cond.methodLink RX12 94 yX6_init ∈ kw := List.mem_append_left _ (List.mem_of_getElem? (i := 233) (by decide +kernel))
theorem m_234 : Cond.instanceMethod yX6_init ∈ kw := List.mem_append_left _ (List.mem_of_getElem? (i := 234) (by decide +kernel))
theorem m_235 : Cond.fieldLink RX12 95 "KeySteward" "members" "LKeySteward$Members;" ∈ kw := List.mem_append_left _ (List.mem_of_getElem? (i := 235) (by decide +kernel))
theorem m_236 : Cond.classLink RX12 99 RX7 ∈ kw := List.mem_append_left _ (List.mem_of_getElem? (i := 236) (by decide +kernel))
theorem m_237 : Cond.instantiable RX7 9 ∈ kw := List.mem_append_left _ (List.mem_of_getElem? (i := 237) (by decide +kernel))
theorem m_238 : Cond.initialized RX7 ∈ kw := List.mem_append_left _ (List.mem_of_getElem? (i := 238) (by decide +kernel))
set_option maxRecDepth 100000 in
theorem m_239 : Cond.code yX7_init cX7_init 4 none ∈ kw := List.mem_append_left _ (List.mem_of_getElem? (i := 239) rfl)
theorem m_240 : Cond.methodLink RX12 101 yX7_init ∈ kw := List.mem_append_left _ (List.mem_of_getElem? (i := 240) (by decide +kernel))
theorem m_241 : Cond.instanceMethod yX7_init ∈ kw := List.mem_append_left _ (List.mem_of_getElem? (i := 241) (by decide +kernel))
theorem m_242 : Cond.fieldLink RX12 102 "KeySteward" "orders" "LKeySteward$Orders;" ∈ kw := List.mem_append_left _ (List.mem_of_getElem? (i := 242) (by decide +kernel))
theorem m_243 : Cond.fieldLink RX13 1 "KeyStewardModel" "defined" "I" ∈ kw := List.mem_append_left _ (List.mem_of_getElem? (i := 243) (by decide +kernel))
theorem m_244 : Cond.fieldLink RX13 7 "KeyStewardModel" "nameA" "[J" ∈ kw := List.mem_append_left _ (List.mem_of_getElem? (i := 244) (by decide +kernel))
theorem m_245 : Cond.fieldLink RX13 11 "KeyStewardModel" "nameB" "[J" ∈ kw := List.mem_append_left _ (List.mem_of_getElem? (i := 245) (by decide +kernel))
theorem m_246 : Cond.fieldLink RX13 14 "KeyStewardModel" "least" "[I" ∈ kw := List.mem_append_left _ (List.mem_of_getElem? (i := 246) (by decide +kernel))
theorem m_247 : Cond.fieldLink RX13 18 "KeyStewardModel" "most" "[I" ∈ kw := List.mem_append_left _ (List.mem_of_getElem? (i := 247) (by decide +kernel))
theorem m_248 : Cond.fieldLink RX13 21 "KeyStewardModel" "heavy" "[Z" ∈ kw := List.mem_append_left _ (List.mem_of_getElem? (i := 248) (by decide +kernel))
theorem m_249 : Cond.constantLong RX13 378 (4670804) ∈ kw := List.mem_append_left _ (List.mem_of_getElem? (i := 249) (by decide +kernel))
set_option maxRecDepth 100000 in
theorem m_250 : Cond.code yX13_define cX13_define 8 none ∈ kw := List.mem_append_left _ (List.mem_of_getElem? (i := 250) rfl)
theorem m_251 : Cond.initialized RX13 ∈ kw := List.mem_append_left _ (List.mem_of_getElem? (i := 251) (by decide +kernel))
theorem m_252 : Cond.methodLink RX13 380 yX13_define ∈ kw := List.mem_append_left _ (List.mem_of_getElem? (i := 252) (by decide +kernel))
theorem m_253 : Cond.instanceMethod yX13_define ∈ kw := List.mem_append_left _ (List.mem_of_getElem? (i := 253) (by decide +kernel))
theorem m_254 : Cond.selects RX13 yX13_define yX13_define ∈ kw := List.mem_append_left _ (List.mem_of_getElem? (i := 254) (by decide +kernel))
theorem m_255 : Cond.constantLong RX13 384 (5457236) ∈ kw := List.mem_append_left _ (List.mem_of_getElem? (i := 255) (by decide +kernel))
theorem m_256 : Cond.constantLong RX13 386 (78363092075852) ∈ kw := List.mem_append_left _ (List.mem_of_getElem? (i := 256) (by decide +kernel))
theorem m_257 : Cond.constantLong RX13 388 (78363093058900) ∈ kw := List.mem_append_left _ (List.mem_of_getElem? (i := 257) (by decide +kernel))
theorem m_258 : Cond.constantLong RX13 390 (357645438552) ∈ kw := List.mem_append_left _ (List.mem_of_getElem? (i := 258) (by decide +kernel))
theorem m_259 : Cond.constantLong RX13 392 (357645436248) ∈ kw := List.mem_append_left _ (List.mem_of_getElem? (i := 259) (by decide +kernel))
theorem m_260 : Cond.constantLong RX13 394 (88318575658328) ∈ kw := List.mem_append_left _ (List.mem_of_getElem? (i := 260) (by decide +kernel))
theorem m_261 : Cond.constantLong RX13 396 (1296516436) ∈ kw := List.mem_append_left _ (List.mem_of_getElem? (i := 261) (by decide +kernel))
theorem m_262 : Cond.constantLong RX13 398 (1297302868) ∈ kw := List.mem_append_left _ (List.mem_of_getElem? (i := 262) (by decide +kernel))
theorem m_263 : Cond.constantLong RX13 400 (85020040777304) ∈ kw := List.mem_append_left _ (List.mem_of_getElem? (i := 263) (by decide +kernel))
theorem m_264 : Cond.constantLong RX13 402 (71813199908420) ∈ kw := List.mem_append_left _ (List.mem_of_getElem? (i := 264) (by decide +kernel))
theorem m_265 : Cond.constantLong RX13 404 (91621623088462) ∈ kw := List.mem_append_left _ (List.mem_of_getElem? (i := 265) (by decide +kernel))
theorem m_266 : Cond.constantLong RX13 406 (5135603662345619269) ∈ kw := List.mem_append_left _ (List.mem_of_getElem? (i := 266) (by decide +kernel))
theorem m_267 : Cond.constantLong RX13 408 (6000294790800754501) ∈ kw := List.mem_append_left _ (List.mem_of_getElem? (i := 267) (by decide +kernel))
theorem m_268 : Cond.constantLong RX13 410 (1229865810) ∈ kw := List.mem_append_left _ (List.mem_of_getElem? (i := 268) (by decide +kernel))
theorem m_269 : Cond.constantLong RX13 412 (1145389906) ∈ kw := List.mem_append_left _ (List.mem_of_getElem? (i := 269) (by decide +kernel))
theorem m_270 : Cond.constantLong RX13 414 (80600485741145) ∈ kw := List.mem_append_left _ (List.mem_of_getElem? (i := 270) (by decide +kernel))
theorem m_271 : Cond.constantLong RX13 416 (75064272896601) ∈ kw := List.mem_append_left _ (List.mem_of_getElem? (i := 271) (by decide +kernel))
theorem m_272 : Cond.constantLong RX13 418 (91557231479124) ∈ kw := List.mem_append_left _ (List.mem_of_getElem? (i := 272) (by decide +kernel))
theorem m_273 : Cond.constantLong RX13 420 (78363091945812) ∈ kw := List.mem_append_left _ (List.mem_of_getElem? (i := 273) (by decide +kernel))
theorem m_274 : Cond.constantLong RX13 422 (4776441527873654356) ∈ kw := List.mem_append_left _ (List.mem_of_getElem? (i := 274) (by decide +kernel))
theorem m_275 : Cond.constantLong RX13 424 (4474188) ∈ kw := List.mem_append_left _ (List.mem_of_getElem? (i := 275) (by decide +kernel))
theorem m_276 : Cond.constantLong RX13 426 (76245489636435) ∈ kw := List.mem_append_left _ (List.mem_of_getElem? (i := 276) (by decide +kernel))
theorem m_277 : Cond.constantLong RX13 428 (1415139397) ∈ kw := List.mem_append_left _ (List.mem_of_getElem? (i := 277) (by decide +kernel))
theorem m_278 : Cond.constantLong RX13 430 (90457619123525) ∈ kw := List.mem_append_left _ (List.mem_of_getElem? (i := 278) (by decide +kernel))
theorem m_279 : Cond.constantLong RX13 432 (5928230526879354456) ∈ kw := List.mem_append_left _ (List.mem_of_getElem? (i := 279) (by decide +kernel))
theorem m_280 : Cond.constantLong RX13 434 (1262836051) ∈ kw := List.mem_append_left _ (List.mem_of_getElem? (i := 280) (by decide +kernel))
theorem m_281 : Cond.constantLong RX13 436 (75051655846469) ∈ kw := List.mem_append_left _ (List.mem_of_getElem? (i := 281) (by decide +kernel))
theorem m_282 : Cond.constantLong RX13 438 (5065517497067850828) ∈ kw := List.mem_append_left _ (List.mem_of_getElem? (i := 282) (by decide +kernel))
theorem m_283 : Cond.constantLong RX13 440 (76245606421061) ∈ kw := List.mem_append_left _ (List.mem_of_getElem? (i := 283) (by decide +kernel))
theorem m_284 : Cond.constantLong RX13 442 (22594243743273541) ∈ kw := List.mem_append_left _ (List.mem_of_getElem? (i := 284) (by decide +kernel))
theorem m_285 : Cond.constantLong RX13 444 (4996832062410670420) ∈ kw := List.mem_append_left _ (List.mem_of_getElem? (i := 285) (by decide +kernel))
theorem m_286 : Cond.constantLong RX13 446 (5784126398278026561) ∈ kw := List.mem_append_left _ (List.mem_of_getElem? (i := 286) (by decide +kernel))
theorem m_287 : Cond.constantLong RX13 448 (84) ∈ kw := List.mem_append_left _ (List.mem_of_getElem? (i := 287) (by decide +kernel))
theorem m_288 : Cond.constantLong RX13 450 (22594218023801684) ∈ kw := List.mem_append_left _ (List.mem_of_getElem? (i := 288) (by decide +kernel))
theorem m_289 : Cond.constantLong RX13 452 (5526604) ∈ kw := List.mem_append_left _ (List.mem_of_getElem? (i := 289) (by decide +kernel))
theorem m_290 : Cond.constantLong RX13 454 (1347703884) ∈ kw := List.mem_append_left _ (List.mem_of_getElem? (i := 290) (by decide +kernel))
theorem m_291 : Cond.constantLong RX13 456 (327765283656) ∈ kw := List.mem_append_left _ (List.mem_of_getElem? (i := 291) (by decide +kernel))
theorem m_292 : Cond.constantLong RX13 458 (353535087432) ∈ kw := List.mem_append_left _ (List.mem_of_getElem? (i := 292) (by decide +kernel))
theorem m_293 : Cond.constantLong RX13 460 (83907912616024) ∈ kw := List.mem_append_left _ (List.mem_of_getElem? (i := 293) (by decide +kernel))
theorem m_294 : Cond.constantLong RX13 462 (90504982382680) ∈ kw := List.mem_append_left _ (List.mem_of_getElem? (i := 294) (by decide +kernel))
theorem m_295 : Cond.constantLong RX13 464 (1280331600) ∈ kw := List.mem_append_left _ (List.mem_of_getElem? (i := 295) (by decide +kernel))
theorem m_296 : Cond.constantLong RX13 466 (1380994896) ∈ kw := List.mem_append_left _ (List.mem_of_getElem? (i := 296) (by decide +kernel))
theorem m_297 : Cond.constantLong RX13 468 (1280066894) ∈ kw := List.mem_append_left _ (List.mem_of_getElem? (i := 297) (by decide +kernel))
theorem m_298 : Cond.constantLong RX13 470 (83916166678341) ∈ kw := List.mem_append_left _ (List.mem_of_getElem? (i := 298) (by decide +kernel))
theorem m_299 : Cond.constantLong RX13 472 (83877729420632) ∈ kw := List.mem_append_left _ (List.mem_of_getElem? (i := 299) (by decide +kernel))
theorem m_300 : Cond.constantLong RX13 474 (1280525652) ∈ kw := List.mem_append_left _ (List.mem_of_getElem? (i := 300) (by decide +kernel))
theorem m_301 : Cond.constantLong RX13 476 (21472698983338580) ∈ kw := List.mem_append_left _ (List.mem_of_getElem? (i := 301) (by decide +kernel))
theorem m_302 : Cond.constantLong RX13 478 (1280460109) ∈ kw := List.mem_append_left _ (List.mem_of_getElem? (i := 302) (by decide +kernel))
theorem m_303 : Cond.constantLong RX13 480 (327832193357) ∈ kw := List.mem_append_left _ (List.mem_of_getElem? (i := 303) (by decide +kernel))
theorem m_304 : Cond.constantLong RX13 482 (327714559557) ∈ kw := List.mem_append_left _ (List.mem_of_getElem? (i := 304) (by decide +kernel))
theorem m_305 : Cond.constantLong RX13 484 (5931327915543254355) ∈ kw := List.mem_append_left _ (List.mem_of_getElem? (i := 305) (by decide +kernel))
theorem m_306 : Cond.constantLong RX13 486 (72) ∈ kw := List.mem_append_left _ (List.mem_of_getElem? (i := 306) (by decide +kernel))
theorem m_307 : Cond.constantLong RX13 488 (1213416788) ∈ kw := List.mem_append_left _ (List.mem_of_getElem? (i := 307) (by decide +kernel))
theorem m_308 : Cond.constantLong RX13 490 (79522482638424) ∈ kw := List.mem_append_left _ (List.mem_of_getElem? (i := 308) (by decide +kernel))
theorem m_309 : Cond.constantLong RX13 492 (1212630356) ∈ kw := List.mem_append_left _ (List.mem_of_getElem? (i := 309) (by decide +kernel))
theorem m_310 : Cond.constantLong RX13 494 (310534161748) ∈ kw := List.mem_append_left _ (List.mem_of_getElem? (i := 310) (by decide +kernel))
theorem m_311 : Cond.constantLong RX13 496 (1212433740) ∈ kw := List.mem_append_left _ (List.mem_of_getElem? (i := 311) (by decide +kernel))
theorem m_312 : Cond.constantLong RX13 498 (20342443812803667) ∈ kw := List.mem_append_left _ (List.mem_of_getElem? (i := 312) (by decide +kernel))
theorem m_313 : Cond.constantLong RX13 500 (1212958030) ∈ kw := List.mem_append_left _ (List.mem_of_getElem? (i := 313) (by decide +kernel))
theorem m_314 : Cond.constantLong RX13 502 (20357819946255694) ∈ kw := List.mem_append_left _ (List.mem_of_getElem? (i := 314) (by decide +kernel))
theorem m_315 : Cond.constantLong RX13 504 (310500481363) ∈ kw := List.mem_append_left _ (List.mem_of_getElem? (i := 315) (by decide +kernel))
theorem m_316 : Cond.constantLong RX13 506 (310684765267) ∈ kw := List.mem_append_left _ (List.mem_of_getElem? (i := 316) (by decide +kernel))
theorem m_317 : Cond.constantLong RX13 508 (20344561415048268) ∈ kw := List.mem_append_left _ (List.mem_of_getElem? (i := 317) (by decide +kernel))
theorem m_318 : Cond.constantLong RX13 510 (20346798808908377) ∈ kw := List.mem_append_left _ (List.mem_of_getElem? (i := 318) (by decide +kernel))
theorem m_319 : Cond.constantLong RX13 512 (1396786244) ∈ kw := List.mem_append_left _ (List.mem_of_getElem? (i := 319) (by decide +kernel))
theorem m_320 : Cond.constantLong RX13 514 (1397900621) ∈ kw := List.mem_append_left _ (List.mem_of_getElem? (i := 320) (by decide +kernel))
theorem m_321 : Cond.constantLong RX13 516 (6001419569788174917) ∈ kw := List.mem_append_left _ (List.mem_of_getElem? (i := 321) (by decide +kernel))
theorem m_322 : Cond.constantLong RX13 518 (82) ∈ kw := List.mem_append_left _ (List.mem_of_getElem? (i := 322) (by decide +kernel))
theorem m_323 : Cond.constantLong RX13 520 (6002534500482239810) ∈ kw := List.mem_append_left _ (List.mem_of_getElem? (i := 323) (by decide +kernel))
theorem m_324 : Cond.constantLong RX13 522 (17746) ∈ kw := List.mem_append_left _ (List.mem_of_getElem? (i := 324) (by decide +kernel))
theorem m_325 : Cond.constantLong RX13 524 (357610639940) ∈ kw := List.mem_append_left _ (List.mem_of_getElem? (i := 325) (by decide +kernel))
theorem m_326 : Cond.constantLong RX13 526 (6002530076481376851) ∈ kw := List.mem_append_left _ (List.mem_of_getElem? (i := 326) (by decide +kernel))
theorem m_327 : Cond.constantLong RX13 528 (357779330629) ∈ kw := List.mem_append_left _ (List.mem_of_getElem? (i := 327) (by decide +kernel))
theorem m_328 : Cond.constantLong RX13 530 (91574311863634) ∈ kw := List.mem_append_left _ (List.mem_of_getElem? (i := 328) (by decide +kernel))
theorem m_329 : Cond.constantLong RX13 532 (91625850752846) ∈ kw := List.mem_append_left _ (List.mem_of_getElem? (i := 329) (by decide +kernel))
theorem m_330 : Cond.constantLong RX13 534 (357627938374) ∈ kw := List.mem_append_left _ (List.mem_of_getElem? (i := 330) (by decide +kernel))
theorem m_331 : Cond.constantLong RX13 536 (6001414102295139156) ∈ kw := List.mem_append_left _ (List.mem_of_getElem? (i := 331) (by decide +kernel))
theorem m_332 : Cond.constantLong RX13 538 (5198405) ∈ kw := List.mem_append_left _ (List.mem_of_getElem? (i := 332) (by decide +kernel))
theorem m_333 : Cond.constantLong RX13 540 (6004791754938536788) ∈ kw := List.mem_append_left _ (List.mem_of_getElem? (i := 333) (by decide +kernel))
theorem m_334 : Cond.constantLong RX13 542 (6000001169740747855) ∈ kw := List.mem_append_left _ (List.mem_of_getElem? (i := 334) (by decide +kernel))
theorem m_335 : Cond.constantLong RX13 544 (21061) ∈ kw := List.mem_append_left _ (List.mem_of_getElem? (i := 335) (by decide +kernel))
theorem m_336 : Cond.constantLong RX13 546 (1397772112) ∈ kw := List.mem_append_left _ (List.mem_of_getElem? (i := 336) (by decide +kernel))
theorem m_337 : Cond.constantLong RX13 548 (1514226756) ∈ kw := List.mem_append_left _ (List.mem_of_getElem? (i := 337) (by decide +kernel))
theorem m_338 : Cond.constantLong RX13 550 (1515341133) ∈ kw := List.mem_append_left _ (List.mem_of_getElem? (i := 338) (by decide +kernel))
theorem m_339 : Cond.constantLong RX13 552 (99313658057285) ∈ kw := List.mem_append_left _ (List.mem_of_getElem? (i := 339) (by decide +kernel))
theorem m_340 : Cond.constantLong RX13 554 (25413348389700185) ∈ kw := List.mem_append_left _ (List.mem_of_getElem? (i := 340) (by decide +kernel))
theorem m_341 : Cond.constantLong RX13 556 (387675411012) ∈ kw := List.mem_append_left _ (List.mem_of_getElem? (i := 341) (by decide +kernel))
theorem m_342 : Cond.constantLong RX13 558 (387927068235) ∈ kw := List.mem_append_left _ (List.mem_of_getElem? (i := 342) (by decide +kernel))
theorem m_343 : Cond.constantLong RX13 560 (6508340648553303627) ∈ kw := List.mem_append_left _ (List.mem_of_getElem? (i := 343) (by decide +kernel))
theorem m_344 : Cond.constantLong RX13 562 (99309329467205) ∈ kw := List.mem_append_left _ (List.mem_of_getElem? (i := 344) (by decide +kernel))
theorem m_345 : Cond.constantLong RX13 564 (6508340648553303623) ∈ kw := List.mem_append_left _ (List.mem_of_getElem? (i := 345) (by decide +kernel))
theorem m_346 : Cond.constantLong RX13 566 (69) ∈ kw := List.mem_append_left _ (List.mem_of_getElem? (i := 346) (by decide +kernel))
theorem m_347 : Cond.constantLong RX13 568 (6508336215962763865) ∈ kw := List.mem_append_left _ (List.mem_of_getElem? (i := 347) (by decide +kernel))
theorem m_348 : Cond.constantLong RX13 570 (357611557445) ∈ kw := List.mem_append_left _ (List.mem_of_getElem? (i := 348) (by decide +kernel))
theorem m_349 : Cond.constantLong RX13 572 (4990649551226360389) ∈ kw := List.mem_append_left _ (List.mem_of_getElem? (i := 349) (by decide +kernel))
theorem m_350 : Cond.constantLong RX13 574 (99245140299348) ∈ kw := List.mem_append_left _ (List.mem_of_getElem? (i := 350) (by decide +kernel))
theorem m_351 : Cond.constantLong RX13 576 (6508340609898597959) ∈ kw := List.mem_append_left _ (List.mem_of_getElem? (i := 351) (by decide +kernel))
theorem m_352 : Cond.constantLong RX13 578 (19494724792569419) ∈ kw := List.mem_append_left _ (List.mem_of_getElem? (i := 352) (by decide +kernel))
theorem m_353 : Cond.constantLong RX13 580 (25421049483839822) ∈ kw := List.mem_append_left _ (List.mem_of_getElem? (i := 353) (by decide +kernel))
theorem m_354 : Cond.constantLong RX13 582 (25421049483837784) ∈ kw := List.mem_append_left _ (List.mem_of_getElem? (i := 354) (by decide +kernel))
theorem m_355 : Cond.constantLong RX13 584 (1346981447) ∈ kw := List.mem_append_left _ (List.mem_of_getElem? (i := 355) (by decide +kernel))
theorem m_356 : Cond.constantLong RX13 586 (1162037327) ∈ kw := List.mem_append_left _ (List.mem_of_getElem? (i := 356) (by decide +kernel))
theorem m_357 : Cond.constantLong RX13 588 (1364543828) ∈ kw := List.mem_append_left _ (List.mem_of_getElem? (i := 357) (by decide +kernel))
theorem m_358 : Cond.constantLong RX13 590 (374758196040) ∈ kw := List.mem_append_left _ (List.mem_of_getElem? (i := 358) (by decide +kernel))
theorem m_359 : Cond.constantLong RX13 592 (24011509685568328) ∈ kw := List.mem_append_left _ (List.mem_of_getElem? (i := 359) (by decide +kernel))
theorem m_360 : Cond.constantLong RX13 594 (332143547465) ∈ kw := List.mem_append_left _ (List.mem_of_getElem? (i := 360) (by decide +kernel))
theorem m_361 : Cond.constantLong RX13 596 (1163412803) ∈ kw := List.mem_append_left _ (List.mem_of_getElem? (i := 361) (by decide +kernel))
theorem m_362 : Cond.constantLong RX13 598 (19220920375792196) ∈ kw := List.mem_append_left _ (List.mem_of_getElem? (i := 362) (by decide +kernel))
theorem m_363 : Cond.constantLong RX13 600 (6004778603547609410) ∈ kw := List.mem_append_left _ (List.mem_of_getElem? (i := 363) (by decide +kernel))
theorem m_364 : Cond.constantLong RX13 602 (6146942167057384274) ∈ kw := List.mem_append_left _ (List.mem_of_getElem? (i := 364) (by decide +kernel))
theorem m_365 : Cond.constantLong RX13 604 (4801093) ∈ kw := List.mem_append_left _ (List.mem_of_getElem? (i := 365) (by decide +kernel))
theorem m_366 : Cond.constantLong RX13 606 (22611741372928840) ∈ kw := List.mem_append_left _ (List.mem_of_getElem? (i := 366) (by decide +kernel))
theorem m_367 : Cond.constantLong RX13 608 (1414090053) ∈ kw := List.mem_append_left _ (List.mem_of_getElem? (i := 367) (by decide +kernel))
theorem m_368 : Cond.methodLink RX13 25 objectInit ∈ kw := List.mem_append_left _ (List.mem_of_getElem? (i := 368) (by decide +kernel))
theorem m_369 : Cond.fieldLink RX13 31 "KeyStewardModel" "thrownCode" "I" ∈ kw := List.mem_append_left _ (List.mem_of_getElem? (i := 369) (by decide +kernel))
theorem m_370 : Cond.arrayClass .boolean ∈ kw := List.mem_append_left _ (List.mem_of_getElem? (i := 370) (by decide +kernel))
theorem m_371 : Cond.constant RX13 34 (300000) ∈ kw := List.mem_append_left _ (List.mem_of_getElem? (i := 371) (by decide +kernel))
theorem m_372 : Cond.fieldLink RX13 35 "KeyStewardModel" "heap" "[B" ∈ kw := List.mem_append_left _ (List.mem_of_getElem? (i := 372) (by decide +kernel))
theorem m_373 : Cond.constant RX13 39 (200000) ∈ kw := List.mem_append_left _ (List.mem_of_getElem? (i := 373) (by decide +kernel))
theorem m_374 : Cond.fieldLink RX13 40 "KeyStewardModel" "heap2" "[B" ∈ kw := List.mem_append_left _ (List.mem_of_getElem? (i := 374) (by decide +kernel))
theorem m_375 : Cond.fieldLink RX13 43 "KeyStewardModel" "heapSize" "I" ∈ kw := List.mem_append_left _ (List.mem_of_getElem? (i := 375) (by decide +kernel))
theorem m_376 : Cond.fieldLink RX13 46 "KeyStewardModel" "keys" "I" ∈ kw := List.mem_append_left _ (List.mem_of_getElem? (i := 376) (by decide +kernel))
theorem m_377 : Cond.fieldLink RX13 49 "KeyStewardModel" "order" "[I" ∈ kw := List.mem_append_left _ (List.mem_of_getElem? (i := 377) (by decide +kernel))
theorem m_378 : Cond.fieldLink RX13 52 "KeyStewardModel" "kFree" "[I" ∈ kw := List.mem_append_left _ (List.mem_of_getElem? (i := 378) (by decide +kernel))
theorem m_379 : Cond.fieldLink RX13 55 "KeyStewardModel" "kFrees" "I" ∈ kw := List.mem_append_left _ (List.mem_of_getElem? (i := 379) (by decide +kernel))
theorem m_380 : Cond.fieldLink RX13 58 "KeyStewardModel" "kAt" "[I" ∈ kw := List.mem_append_left _ (List.mem_of_getElem? (i := 380) (by decide +kernel))
theorem m_381 : Cond.fieldLink RX13 61 "KeyStewardModel" "kLen" "[I" ∈ kw := List.mem_append_left _ (List.mem_of_getElem? (i := 381) (by decide +kernel))
theorem m_382 : Cond.fieldLink RX13 64 "KeyStewardModel" "kSort" "[I" ∈ kw := List.mem_append_left _ (List.mem_of_getElem? (i := 382) (by decide +kernel))
theorem m_383 : Cond.fieldLink RX13 67 "KeyStewardModel" "kTime" "[J" ∈ kw := List.mem_append_left _ (List.mem_of_getElem? (i := 383) (by decide +kernel))
theorem m_384 : Cond.fieldLink RX13 70 "KeyStewardModel" "kTimed" "[Z" ∈ kw := List.mem_append_left _ (List.mem_of_getElem? (i := 384) (by decide +kernel))
theorem m_385 : Cond.fieldLink RX13 73 "KeyStewardModel" "kHead" "[I" ∈ kw := List.mem_append_left _ (List.mem_of_getElem? (i := 385) (by decide +kernel))
theorem m_386 : Cond.fieldLink RX13 76 "KeyStewardModel" "kTail" "[I" ∈ kw := List.mem_append_left _ (List.mem_of_getElem? (i := 386) (by decide +kernel))
theorem m_387 : Cond.fieldLink RX13 79 "KeyStewardModel" "kMany" "[I" ∈ kw := List.mem_append_left _ (List.mem_of_getElem? (i := 387) (by decide +kernel))
theorem m_388 : Cond.fieldLink RX13 82 "KeyStewardModel" "tAt" "[I" ∈ kw := List.mem_append_left _ (List.mem_of_getElem? (i := 388) (by decide +kernel))
theorem m_389 : Cond.fieldLink RX13 85 "KeyStewardModel" "tLen" "[I" ∈ kw := List.mem_append_left _ (List.mem_of_getElem? (i := 389) (by decide +kernel))
theorem m_390 : Cond.fieldLink RX13 88 "KeyStewardModel" "eNext" "[I" ∈ kw := List.mem_append_left _ (List.mem_of_getElem? (i := 390) (by decide +kernel))
theorem m_391 : Cond.fieldLink RX13 91 "KeyStewardModel" "ePrev" "[I" ∈ kw := List.mem_append_left _ (List.mem_of_getElem? (i := 391) (by decide +kernel))
theorem m_392 : Cond.fieldLink RX13 94 "KeyStewardModel" "eAt" "[I" ∈ kw := List.mem_append_left _ (List.mem_of_getElem? (i := 392) (by decide +kernel))
theorem m_393 : Cond.fieldLink RX13 97 "KeyStewardModel" "eLen" "[I" ∈ kw := List.mem_append_left _ (List.mem_of_getElem? (i := 393) (by decide +kernel))
theorem m_394 : Cond.fieldLink RX13 100 "KeyStewardModel" "vAt" "[I" ∈ kw := List.mem_append_left _ (List.mem_of_getElem? (i := 394) (by decide +kernel))
theorem m_395 : Cond.fieldLink RX13 103 "KeyStewardModel" "vLen" "[I" ∈ kw := List.mem_append_left _ (List.mem_of_getElem? (i := 395) (by decide +kernel))
theorem m_396 : Cond.fieldLink RX13 106 "KeyStewardModel" "eScore" "[J" ∈ kw := List.mem_append_left _ (List.mem_of_getElem? (i := 396) (by decide +kernel))
theorem m_397 : Cond.fieldLink RX13 109 "KeyStewardModel" "eFree" "I" ∈ kw := List.mem_append_left _ (List.mem_of_getElem? (i := 397) (by decide +kernel))
theorem m_398 : Cond.constant RX13 112 (131200) ∈ kw := List.mem_append_left _ (List.mem_of_getElem? (i := 398) (by decide +kernel))
theorem m_399 : Cond.fieldLink RX13 113 "KeyStewardModel" "req" "[B" ∈ kw := List.mem_append_left _ (List.mem_of_getElem? (i := 399) (by decide +kernel))
theorem m_400 : Cond.fieldLink RX13 116 "KeyStewardModel" "reqSize" "I" ∈ kw := List.mem_append_left _ (List.mem_of_getElem? (i := 400) (by decide +kernel))
theorem m_401 : Cond.fieldLink RX13 119 "KeyStewardModel" "aAt" "[I" ∈ kw := List.mem_append_left _ (List.mem_of_getElem? (i := 401) (by decide +kernel))
theorem m_402 : Cond.fieldLink RX13 122 "KeyStewardModel" "aLen" "[I" ∈ kw := List.mem_append_left _ (List.mem_of_getElem? (i := 402) (by decide +kernel))
theorem m_403 : Cond.fieldLink RX13 125 "KeyStewardModel" "words" "I" ∈ kw := List.mem_append_left _ (List.mem_of_getElem? (i := 403) (by decide +kernel))
theorem m_404 : Cond.fieldLink RX13 128 "KeyStewardModel" "opened" "[Z" ∈ kw := List.mem_append_left _ (List.mem_of_getElem? (i := 404) (by decide +kernel))
theorem m_405 : Cond.constant RX13 131 (262400) ∈ kw := List.mem_append_left _ (List.mem_of_getElem? (i := 405) (by decide +kernel))
theorem m_406 : Cond.fieldLink RX13 132 "KeyStewardModel" "input" "[B" ∈ kw := List.mem_append_left _ (List.mem_of_getElem? (i := 406) (by decide +kernel))
theorem m_407 : Cond.fieldLink RX13 135 "KeyStewardModel" "inSize" "[I" ∈ kw := List.mem_append_left _ (List.mem_of_getElem? (i := 407) (by decide +kernel))
theorem m_408 : Cond.constant RX13 138 (262144) ∈ kw := List.mem_append_left _ (List.mem_of_getElem? (i := 408) (by decide +kernel))
theorem m_409 : Cond.fieldLink RX13 139 "KeyStewardModel" "output" "[B" ∈ kw := List.mem_append_left _ (List.mem_of_getElem? (i := 409) (by decide +kernel))
theorem m_410 : Cond.fieldLink RX13 142 "KeyStewardModel" "outSize" "[I" ∈ kw := List.mem_append_left _ (List.mem_of_getElem? (i := 410) (by decide +kernel))
theorem m_411 : Cond.fieldLink RX13 145 "KeyStewardModel" "blocked" "[Z" ∈ kw := List.mem_append_left _ (List.mem_of_getElem? (i := 411) (by decide +kernel))
theorem m_412 : Cond.fieldLink RX13 148 "KeyStewardModel" "spoilt" "[Z" ∈ kw := List.mem_append_left _ (List.mem_of_getElem? (i := 412) (by decide +kernel))
theorem m_413 : Cond.constant RX13 151 (220000) ∈ kw := List.mem_append_left _ (List.mem_of_getElem? (i := 413) (by decide +kernel))
theorem m_414 : Cond.fieldLink RX13 152 "KeyStewardModel" "queue" "[B" ∈ kw := List.mem_append_left _ (List.mem_of_getElem? (i := 414) (by decide +kernel))
theorem m_415 : Cond.fieldLink RX13 155 "KeyStewardModel" "queueEnd" "I" ∈ kw := List.mem_append_left _ (List.mem_of_getElem? (i := 415) (by decide +kernel))
theorem m_416 : Cond.fieldLink RX13 158 "KeyStewardModel" "queuedAt" "[I" ∈ kw := List.mem_append_left _ (List.mem_of_getElem? (i := 416) (by decide +kernel))
theorem m_417 : Cond.fieldLink RX13 161 "KeyStewardModel" "queued" "[I" ∈ kw := List.mem_append_left _ (List.mem_of_getElem? (i := 417) (by decide +kernel))
theorem m_418 : Cond.fieldLink RX13 164 "KeyStewardModel" "watches" "[I" ∈ kw := List.mem_append_left _ (List.mem_of_getElem? (i := 418) (by decide +kernel))
theorem m_419 : Cond.constant RX13 167 (100000) ∈ kw := List.mem_append_left _ (List.mem_of_getElem? (i := 419) (by decide +kernel))
theorem m_420 : Cond.fieldLink RX13 168 "KeyStewardModel" "watchText" "[B" ∈ kw := List.mem_append_left _ (List.mem_of_getElem? (i := 420) (by decide +kernel))
theorem m_421 : Cond.fieldLink RX13 171 "KeyStewardModel" "watchEnd" "I" ∈ kw := List.mem_append_left _ (List.mem_of_getElem? (i := 421) (by decide +kernel))
theorem m_422 : Cond.fieldLink RX13 174 "KeyStewardModel" "watchAt" "[I" ∈ kw := List.mem_append_left _ (List.mem_of_getElem? (i := 422) (by decide +kernel))
theorem m_423 : Cond.fieldLink RX13 177 "KeyStewardModel" "watchLen" "[I" ∈ kw := List.mem_append_left _ (List.mem_of_getElem? (i := 423) (by decide +kernel))
theorem m_424 : Cond.fieldLink RX13 180 "KeyStewardModel" "disturbed" "[Z" ∈ kw := List.mem_append_left _ (List.mem_of_getElem? (i := 424) (by decide +kernel))
theorem m_425 : Cond.fieldLink RX13 183 "KeyStewardModel" "channels" "[I" ∈ kw := List.mem_append_left _ (List.mem_of_getElem? (i := 425) (by decide +kernel))
theorem m_426 : Cond.fieldLink RX13 186 "KeyStewardModel" "channelText" "[B" ∈ kw := List.mem_append_left _ (List.mem_of_getElem? (i := 426) (by decide +kernel))
theorem m_427 : Cond.fieldLink RX13 189 "KeyStewardModel" "channelEnd" "I" ∈ kw := List.mem_append_left _ (List.mem_of_getElem? (i := 427) (by decide +kernel))
theorem m_428 : Cond.fieldLink RX13 192 "KeyStewardModel" "channelAt" "[I" ∈ kw := List.mem_append_left _ (List.mem_of_getElem? (i := 428) (by decide +kernel))
theorem m_429 : Cond.fieldLink RX13 195 "KeyStewardModel" "channelLen" "[I" ∈ kw := List.mem_append_left _ (List.mem_of_getElem? (i := 429) (by decide +kernel))
theorem m_430 : Cond.constant RX13 198 (70000) ∈ kw := List.mem_append_left _ (List.mem_of_getElem? (i := 430) (by decide +kernel))
theorem m_431 : Cond.fieldLink RX13 199 "KeyStewardModel" "answer" "[B" ∈ kw := List.mem_append_left _ (List.mem_of_getElem? (i := 431) (by decide +kernel))
theorem m_432 : Cond.fieldLink RX13 202 "KeyStewardModel" "answerSize" "I" ∈ kw := List.mem_append_left _ (List.mem_of_getElem? (i := 432) (by decide +kernel))
theorem m_433 : Cond.fieldLink RX13 205 "KeyStewardModel" "tooLong" "Z" ∈ kw := List.mem_append_left _ (List.mem_of_getElem? (i := 433) (by decide +kernel))
theorem m_434 : Cond.fieldLink RX13 209 "KeyStewardModel" "digits" "[B" ∈ kw := List.mem_append_left _ (List.mem_of_getElem? (i := 434) (by decide +kernel))
theorem m_435 : Cond.fieldLink RX13 212 "KeyStewardModel" "digitsSize" "I" ∈ kw := List.mem_append_left _ (List.mem_of_getElem? (i := 435) (by decide +kernel))
theorem m_436 : Cond.constant RX13 215 (700000) ∈ kw := List.mem_append_left _ (List.mem_of_getElem? (i := 436) (by decide +kernel))
theorem m_437 : Cond.fieldLink RX13 216 "KeyStewardModel" "disk" "[B" ∈ kw := List.mem_append_left _ (List.mem_of_getElem? (i := 437) (by decide +kernel))
theorem m_438 : Cond.fieldLink RX13 219 "KeyStewardModel" "diskSize" "I" ∈ kw := List.mem_append_left _ (List.mem_of_getElem? (i := 438) (by decide +kernel))
theorem m_439 : Cond.constant RX13 222 (420000) ∈ kw := List.mem_append_left _ (List.mem_of_getElem? (i := 439) (by decide +kernel))
theorem m_440 : Cond.fieldLink RX13 223 "KeyStewardModel" "pending" "[B" ∈ kw := List.mem_append_left _ (List.mem_of_getElem? (i := 440) (by decide +kernel))
theorem m_441 : Cond.fieldLink RX13 226 "KeyStewardModel" "pendingSize" "I" ∈ kw := List.mem_append_left _ (List.mem_of_getElem? (i := 441) (by decide +kernel))
theorem m_442 : Cond.fieldLink RX13 229 "KeyStewardModel" "burning" "I" ∈ kw := List.mem_append_left _ (List.mem_of_getElem? (i := 442) (by decide +kernel))
theorem m_443 : Cond.fieldLink RX13 232 "KeyStewardModel" "up" "Z" ∈ kw := List.mem_append_left _ (List.mem_of_getElem? (i := 443) (by decide +kernel))
theorem m_444 : Cond.fieldLink RX13 235 "KeyStewardModel" "replays" "Z" ∈ kw := List.mem_append_left _ (List.mem_of_getElem? (i := 444) (by decide +kernel))
theorem m_445 : Cond.fieldLink RX13 238 "KeyStewardModel" "inBlock" "Z" ∈ kw := List.mem_append_left _ (List.mem_of_getElem? (i := 445) (by decide +kernel))
theorem m_446 : Cond.fieldLink RX13 241 "KeyStewardModel" "now0" "J" ∈ kw := List.mem_append_left _ (List.mem_of_getElem? (i := 446) (by decide +kernel))
theorem m_447 : Cond.fieldLink RX13 245 "KeyStewardModel" "spelt" "[B" ∈ kw := List.mem_append_left _ (List.mem_of_getElem? (i := 447) (by decide +kernel))
theorem m_448 : Cond.fieldLink RX13 248 "KeyStewardModel" "num" "J" ∈ kw := List.mem_append_left _ (List.mem_of_getElem? (i := 448) (by decide +kernel))
theorem m_449 : Cond.fieldLink RX13 251 "KeyStewardModel" "n1" "J" ∈ kw := List.mem_append_left _ (List.mem_of_getElem? (i := 449) (by decide +kernel))
theorem m_450 : Cond.fieldLink RX13 254 "KeyStewardModel" "n2" "J" ∈ kw := List.mem_append_left _ (List.mem_of_getElem? (i := 450) (by decide +kernel))
theorem m_451 : Cond.fieldLink RX13 257 "KeyStewardModel" "optNx" "Z" ∈ kw := List.mem_append_left _ (List.mem_of_getElem? (i := 451) (by decide +kernel))
theorem m_452 : Cond.fieldLink RX13 260 "KeyStewardModel" "optXx" "Z" ∈ kw := List.mem_append_left _ (List.mem_of_getElem? (i := 452) (by decide +kernel))
theorem m_453 : Cond.fieldLink RX13 263 "KeyStewardModel" "optGet" "Z" ∈ kw := List.mem_append_left _ (List.mem_of_getElem? (i := 453) (by decide +kernel))
theorem m_454 : Cond.fieldLink RX13 266 "KeyStewardModel" "optKeep" "Z" ∈ kw := List.mem_append_left _ (List.mem_of_getElem? (i := 454) (by decide +kernel))
theorem m_455 : Cond.fieldLink RX13 269 "KeyStewardModel" "optGt" "Z" ∈ kw := List.mem_append_left _ (List.mem_of_getElem? (i := 455) (by decide +kernel))
theorem m_456 : Cond.fieldLink RX13 272 "KeyStewardModel" "optLt" "Z" ∈ kw := List.mem_append_left _ (List.mem_of_getElem? (i := 456) (by decide +kernel))
theorem m_457 : Cond.fieldLink RX13 275 "KeyStewardModel" "optCh" "Z" ∈ kw := List.mem_append_left _ (List.mem_of_getElem? (i := 457) (by decide +kernel))
theorem m_458 : Cond.fieldLink RX13 278 "KeyStewardModel" "optIncr" "Z" ∈ kw := List.mem_append_left _ (List.mem_of_getElem? (i := 458) (by decide +kernel))
theorem m_459 : Cond.fieldLink RX13 281 "KeyStewardModel" "optScores" "Z" ∈ kw := List.mem_append_left _ (List.mem_of_getElem? (i := 459) (by decide +kernel))
theorem m_460 : Cond.fieldLink RX13 284 "KeyStewardModel" "optLimit" "Z" ∈ kw := List.mem_append_left _ (List.mem_of_getElem? (i := 460) (by decide +kernel))
theorem m_461 : Cond.fieldLink RX13 287 "KeyStewardModel" "limitFrom" "J" ∈ kw := List.mem_append_left _ (List.mem_of_getElem? (i := 461) (by decide +kernel))
theorem m_462 : Cond.fieldLink RX13 290 "KeyStewardModel" "limitMany" "J" ∈ kw := List.mem_append_left _ (List.mem_of_getElem? (i := 462) (by decide +kernel))
theorem m_463 : Cond.fieldLink RX13 293 "KeyStewardModel" "timed" "Z" ∈ kw := List.mem_append_left _ (List.mem_of_getElem? (i := 463) (by decide +kernel))
theorem m_464 : Cond.fieldLink RX13 296 "KeyStewardModel" "time" "J" ∈ kw := List.mem_append_left _ (List.mem_of_getElem? (i := 464) (by decide +kernel))
theorem m_465 : Cond.fieldLink RX13 299 "KeyStewardModel" "pairs" "I" ∈ kw := List.mem_append_left _ (List.mem_of_getElem? (i := 465) (by decide +kernel))
theorem m_466 : Cond.fieldLink RX13 302 "KeyStewardModel" "lowScore" "J" ∈ kw := List.mem_append_left _ (List.mem_of_getElem? (i := 466) (by decide +kernel))
theorem m_467 : Cond.fieldLink RX13 305 "KeyStewardModel" "highScore" "J" ∈ kw := List.mem_append_left _ (List.mem_of_getElem? (i := 467) (by decide +kernel))
theorem m_468 : Cond.fieldLink RX13 308 "KeyStewardModel" "noScore" "Z" ∈ kw := List.mem_append_left _ (List.mem_of_getElem? (i := 468) (by decide +kernel))
theorem m_469 : Cond.fieldLink RX13 311 "KeyStewardModel" "limitAt" "I" ∈ kw := List.mem_append_left _ (List.mem_of_getElem? (i := 469) (by decide +kernel))
theorem m_470 : Cond.fieldLink RX13 314 "KeyStewardModel" "work" "[B" ∈ kw := List.mem_append_left _ (List.mem_of_getElem? (i := 470) (by decide +kernel))
theorem m_471 : Cond.fieldLink RX13 317 "KeyStewardModel" "workSize" "I" ∈ kw := List.mem_append_left _ (List.mem_of_getElem? (i := 471) (by decide +kernel))
theorem m_472 : Cond.fieldLink RX13 320 "KeyStewardModel" "from" "I" ∈ kw := List.mem_append_left _ (List.mem_of_getElem? (i := 472) (by decide +kernel))
theorem m_473 : Cond.fieldLink RX13 323 "KeyStewardModel" "upTo" "I" ∈ kw := List.mem_append_left _ (List.mem_of_getElem? (i := 473) (by decide +kernel))
theorem m_474 : Cond.fieldLink RX13 326 "KeyStewardModel" "behindSet" "I" ∈ kw := List.mem_append_left _ (List.mem_of_getElem? (i := 474) (by decide +kernel))
theorem m_475 : Cond.fieldLink RX13 329 "KeyStewardModel" "found" "I" ∈ kw := List.mem_append_left _ (List.mem_of_getElem? (i := 475) (by decide +kernel))
theorem m_476 : Cond.fieldLink RX13 332 "KeyStewardModel" "pile" "[B" ∈ kw := List.mem_append_left _ (List.mem_of_getElem? (i := 476) (by decide +kernel))
theorem m_477 : Cond.fieldLink RX13 335 "KeyStewardModel" "pileSize" "I" ∈ kw := List.mem_append_left _ (List.mem_of_getElem? (i := 477) (by decide +kernel))
theorem m_478 : Cond.fieldLink RX13 338 "KeyStewardModel" "mAt" "[I" ∈ kw := List.mem_append_left _ (List.mem_of_getElem? (i := 478) (by decide +kernel))
theorem m_479 : Cond.fieldLink RX13 341 "KeyStewardModel" "mLen" "[I" ∈ kw := List.mem_append_left _ (List.mem_of_getElem? (i := 479) (by decide +kernel))
theorem m_480 : Cond.fieldLink RX13 344 "KeyStewardModel" "members" "I" ∈ kw := List.mem_append_left _ (List.mem_of_getElem? (i := 480) (by decide +kernel))
theorem m_481 : Cond.fieldLink RX13 347 "KeyStewardModel" "cur" "I" ∈ kw := List.mem_append_left _ (List.mem_of_getElem? (i := 481) (by decide +kernel))
theorem m_482 : Cond.fieldLink RX13 350 "KeyStewardModel" "held" "[B" ∈ kw := List.mem_append_left _ (List.mem_of_getElem? (i := 482) (by decide +kernel))
theorem m_483 : Cond.fieldLink RX13 353 "KeyStewardModel" "lineNumber" "I" ∈ kw := List.mem_append_left _ (List.mem_of_getElem? (i := 483) (by decide +kernel))
theorem m_484 : Cond.fieldLink RX13 356 "KeyStewardModel" "lineEnd" "I" ∈ kw := List.mem_append_left _ (List.mem_of_getElem? (i := 484) (by decide +kernel))
theorem m_485 : Cond.fieldLink RX13 359 "KeyStewardModel" "faultWord" "I" ∈ kw := List.mem_append_left _ (List.mem_of_getElem? (i := 485) (by decide +kernel))
theorem m_486 : Cond.constant RX13 362 (65540) ∈ kw := List.mem_append_left _ (List.mem_of_getElem? (i := 486) (by decide +kernel))
theorem m_487 : Cond.fieldLink RX13 363 "KeyStewardModel" "tape" "[B" ∈ kw := List.mem_append_left _ (List.mem_of_getElem? (i := 487) (by decide +kernel))
theorem m_488 : Cond.fieldLink RX13 366 "KeyStewardModel" "tapeSize" "I" ∈ kw := List.mem_append_left _ (List.mem_of_getElem? (i := 488) (by decide +kernel))
theorem m_489 : Cond.fieldLink RX13 369 "KeyStewardModel" "line0" "[B" ∈ kw := List.mem_append_left _ (List.mem_of_getElem? (i := 489) (by decide +kernel))
theorem m_490 : Cond.fieldLink RX13 372 "KeyStewardModel" "logCommand" "I" ∈ kw := List.mem_append_left _ (List.mem_of_getElem? (i := 490) (by decide +kernel))
set_option maxRecDepth 100000 in
theorem m_491 : Cond.code yX13_names1 cX13_names1 1 none ∈ kw := List.mem_append_left _ (List.mem_of_getElem? (i := 491) rfl)
theorem m_492 : Cond.methodLink RX13 375 yX13_names1 ∈ kw := List.mem_append_left _ (List.mem_of_getElem? (i := 492) (by decide +kernel))
theorem m_493 : Cond.instanceMethod yX13_names1 ∈ kw := List.mem_append_left _ (List.mem_of_getElem? (i := 493) (by decide +kernel))
theorem m_494 : Cond.selects RX13 yX13_names1 yX13_names1 ∈ kw := List.mem_append_left _ (List.mem_of_getElem? (i := 494) (by decide +kernel))
set_option maxRecDepth 100000 in
theorem m_495 : Cond.code yX13_endBlock cX13_endBlock 2 none ∈ kw := List.mem_append_left _ (List.mem_of_getElem? (i := 495) rfl)
theorem m_496 : Cond.methodLink RX13 640 yX13_endBlock ∈ kw := List.mem_append_left _ (List.mem_of_getElem? (i := 496) (by decide +kernel))
theorem m_497 : Cond.instanceMethod yX13_endBlock ∈ kw := List.mem_append_left _ (List.mem_of_getElem? (i := 497) (by decide +kernel))
theorem m_498 : Cond.selects RX13 yX13_endBlock yX13_endBlock ∈ kw := List.mem_append_left _ (List.mem_of_getElem? (i := 498) (by decide +kernel))
theorem m_499 : Cond.constant RX13 647 (65536) ∈ kw := List.mem_append_left _ (List.mem_of_getElem? (i := 499) (by decide +kernel))
set_option maxRecDepth 100000 in
theorem m_500 : Cond.code yX13_isConnection cX13_isConnection 1 (some .boolean) ∈ kw := List.mem_append_left _ (List.mem_of_getElem? (i := 500) rfl)
theorem m_501 : Cond.methodLink RX13 1293 yX13_isConnection ∈ kw := List.mem_append_left _ (List.mem_of_getElem? (i := 501) (by decide +kernel))
theorem m_502 : Cond.static yX13_isConnection ∈ kw := List.mem_append_left _ (List.mem_of_getElem? (i := 502) (by decide +kernel))
set_option maxRecDepth 100000 in
theorem m_503 : Cond.code yX13_close cX13_close 2 none ∈ kw := List.mem_append_left _ (List.mem_of_getElem? (i := 503) rfl)
theorem m_504 : Cond.methodLink RX13 687 yX13_close ∈ kw := List.mem_append_left _ (List.mem_of_getElem? (i := 504) (by decide +kernel))
theorem m_505 : Cond.instanceMethod yX13_close ∈ kw := List.mem_append_left _ (List.mem_of_getElem? (i := 505) (by decide +kernel))
theorem m_506 : Cond.selects RX13 yX13_close yX13_close ∈ kw := List.mem_append_left _ (List.mem_of_getElem? (i := 506) (by decide +kernel))
theorem m_507 : Cond.constantLong RX13 1298 (4503599627370496) ∈ kw := List.mem_append_left _ (List.mem_of_getElem? (i := 507) (by decide +kernel))
set_option maxRecDepth 100000 in
theorem m_508 : Cond.code yX13_expire cX13_expire 4 (some .int) ∈ kw := List.mem_append_left _ (List.mem_of_getElem? (i := 508) rfl)
theorem m_509 : Cond.methodLink RX13 1300 yX13_expire ∈ kw := List.mem_append_left _ (List.mem_of_getElem? (i := 509) (by decide +kernel))
theorem m_510 : Cond.instanceMethod yX13_expire ∈ kw := List.mem_append_left _ (List.mem_of_getElem? (i := 510) (by decide +kernel))
theorem m_511 : Cond.selects RX13 yX13_expire yX13_expire ∈ kw := List.mem_append_left _ (List.mem_of_getElem? (i := 511) (by decide +kernel))
set_option maxRecDepth 100000 in
theorem m_512 : Cond.code yX13_stop cX13_stop 2 none ∈ kw := List.mem_append_left _ (List.mem_of_getElem? (i := 512) rfl)
theorem m_513 : Cond.methodLink RX13 713 yX13_stop ∈ kw := List.mem_append_left _ (List.mem_of_getElem? (i := 513) (by decide +kernel))
theorem m_514 : Cond.instanceMethod yX13_stop ∈ kw := List.mem_append_left _ (List.mem_of_getElem? (i := 514) (by decide +kernel))
theorem m_515 : Cond.selects RX13 yX13_stop yX13_stop ∈ kw := List.mem_append_left _ (List.mem_of_getElem? (i := 515) (by decide +kernel))
set_option maxRecDepth 100000 in
theorem m_516 : Cond.code yX13_memory cX13_memory 6 (some .int) ∈ kw := List.mem_append_left _ (List.mem_of_getElem? (i := 516) rfl)
theorem m_517 : Cond.methodLink RX13 1068 yX13_memory ∈ kw := List.mem_append_left _ (List.mem_of_getElem? (i := 517) (by decide +kernel))
theorem m_518 : Cond.instanceMethod yX13_memory ∈ kw := List.mem_append_left _ (List.mem_of_getElem? (i := 518) (by decide +kernel))
theorem m_519 : Cond.selects RX13 yX13_memory yX13_memory ∈ kw := List.mem_append_left _ (List.mem_of_getElem? (i := 519) (by decide +kernel))
theorem kin_X1 : ∀ w ∈ u_ws RX1 TX1 4, w ∈ kw := fun w h => List.mem_append_right _ (List.mem_append_left _ (List.mem_append_left _ ((List.mem_append_left _ h))))
theorem kin_X3 : ∀ w ∈ u_ws RX3 TX3 12, w ∈ kw := fun w h => List.mem_append_right _ (List.mem_append_left _ (List.mem_append_left _ ((List.mem_append_right _ (List.mem_append_left _ h)))))
theorem kin_X11 : ∀ w ∈ u_ws RX11 TX11 5, w ∈ kw := fun w h => List.mem_append_right _ (List.mem_append_left _ (List.mem_append_left _ ((List.mem_append_right _ (List.mem_append_right _ (List.mem_append_left _ h))))))
theorem kin_X8 : ∀ w ∈ u_ws RX8 TX8 17, w ∈ kw := fun w h => List.mem_append_right _ (List.mem_append_left _ (List.mem_append_left _ ((List.mem_append_right _ (List.mem_append_right _ (List.mem_append_right _ (List.mem_append_left _ h)))))))
theorem kin_X4 : ∀ w ∈ u_ws RX4 TX4 19, w ∈ kw := fun w h => List.mem_append_right _ (List.mem_append_left _ (List.mem_append_left _ ((List.mem_append_right _ (List.mem_append_right _ (List.mem_append_right _ (List.mem_append_right _ (List.mem_append_left _ h))))))))
theorem kin_X9 : ∀ w ∈ u_ws RX9 TX9 7, w ∈ kw := fun w h => List.mem_append_right _ (List.mem_append_left _ (List.mem_append_left _ ((List.mem_append_right _ (List.mem_append_right _ (List.mem_append_right _ (List.mem_append_right _ (List.mem_append_right _ (List.mem_append_left _ h)))))))))
theorem kin_X5 : ∀ w ∈ u_ws RX5 TX5 3, w ∈ kw := fun w h => List.mem_append_right _ (List.mem_append_left _ (List.mem_append_left _ ((List.mem_append_right _ (List.mem_append_right _ (List.mem_append_right _ (List.mem_append_right _ (List.mem_append_right _ (List.mem_append_right _ (List.mem_append_left _ h))))))))))
theorem kin_X6 : ∀ w ∈ u_ws RX6 TX6 6, w ∈ kw := fun w h => List.mem_append_right _ (List.mem_append_left _ (List.mem_append_left _ ((List.mem_append_right _ (List.mem_append_right _ (List.mem_append_right _ (List.mem_append_right _ (List.mem_append_right _ (List.mem_append_right _ (List.mem_append_right _ (List.mem_append_left _ h)))))))))))
theorem kin_X7 : ∀ w ∈ u_ws RX7 TX7 9, w ∈ kw := fun w h => List.mem_append_right _ (List.mem_append_left _ (List.mem_append_left _ ((List.mem_append_right _ (List.mem_append_right _ (List.mem_append_right _ (List.mem_append_right _ (List.mem_append_right _ (List.mem_append_right _ (List.mem_append_right _ (List.mem_append_right _ (List.mem_append_left _ h))))))))))))
theorem kin_X12 : ∀ w ∈ u_ws RX12 TX12 18, w ∈ kw := fun w h => List.mem_append_right _ (List.mem_append_left _ (List.mem_append_left _ ((List.mem_append_right _ (List.mem_append_right _ (List.mem_append_right _ (List.mem_append_right _ (List.mem_append_right _ (List.mem_append_right _ (List.mem_append_right _ (List.mem_append_right _ (List.mem_append_right _ (List.mem_append_left _ h)))))))))))))
theorem kin_X13 : ∀ w ∈ u_ws RX13 TX13 116, w ∈ kw := fun w h => List.mem_append_right _ (List.mem_append_left _ (List.mem_append_left _ ((List.mem_append_right _ (List.mem_append_right _ (List.mem_append_right _ (List.mem_append_right _ (List.mem_append_right _ (List.mem_append_right _ (List.mem_append_right _ (List.mem_append_right _ (List.mem_append_right _ (List.mem_append_right _ h)))))))))))))
theorem kin_X10 : ∀ w ∈ u_ws RX10 TX10 9, w ∈ kw := fun w h => List.mem_append_right _ (List.mem_append_left _ (List.mem_append_right _ h))
abbrev classes : List vw_C := [(RX1, TX1, 4), (RX3, TX3, 12), (RX11, TX11, 5), (RX8, TX8, 17), (RX4, TX4, 19), (RX9, TX9, 7), (RX5, TX5, 3), (RX6, TX6, 6), (RX7, TX7, 9), (RX12, TX12, 18), (RX13, TX13, 116), (RX10, TX10, 9)]
theorem kwI {y : MethodName} {b : ByteArray} {n : Nat} {r : Option FieldType} (h : Cond.code y b n r ∈ kw) : GoodIn kw (Cond.code y b n r :: kw) := fun w hw => by
  have h1 : w ∈ kw := (List.mem_cons.mp hw).elim (fun e => by rw [e]; exact h) id
  exact ⟨h1, good_of_word (kw_good w h1)⟩
abbrev wX1_init : List Cond := Cond.code yX1_init cX1_init 2 none :: kw
abbrev wX1_empty : List Cond := Cond.code yX1_empty cX1_empty 1 none :: kw
abbrev wX1_room : List Cond := Cond.code yX1_room cX1_room 3 (some .boolean) :: kw
abbrev wX1_four : List Cond := Cond.code yX1_four cX1_four 3 none :: kw
abbrev wX1_append : List Cond := Cond.code yX1_append cX1_append 4 none :: kw
abbrev wX1_drop : List Cond := Cond.code yX1_drop cX1_drop 3 none :: kw
abbrev wX1_cut : List Cond := Cond.code yX1_cut cX1_cut 2 none :: kw
abbrev wX3_init : List Cond := Cond.code yX3_init cX3_init 1 none :: kw
abbrev wX3_close : List Cond := Cond.code yX3_close cX3_close 1 none :: kw
abbrev wX3_endBlock : List Cond := Cond.code yX3_endBlock cX3_endBlock 1 none :: kw
abbrev wX3_unwatch : List Cond := Cond.code yX3_unwatch cX3_unwatch 1 none :: kw
abbrev wX4_init : List Cond := Cond.code yX4_init cX4_init 4 none :: kw
abbrev wX4_forget : List Cond := Cond.code yX4_forget cX4_forget 3 none :: kw
abbrev wX5_init : List Cond := Cond.code yX5_init cX5_init 4 none :: kw
abbrev wX6_init : List Cond := Cond.code yX6_init cX6_init 4 none :: kw
abbrev wX7_init : List Cond := Cond.code yX7_init cX7_init 4 none :: kw
abbrev wX8_init : List Cond := Cond.code yX8_init cX8_init 2 none :: kw
abbrev wX8_read : List Cond := Cond.code yX8_read cX8_read 4 (some .int) :: kw
abbrev wX9_init : List Cond := Cond.code yX9_init cX9_init 3 none :: kw
abbrev wX11_init : List Cond := Cond.code yX11_init cX11_init 1 none :: kw
abbrev wX11_forget : List Cond := Cond.code yX11_forget cX11_forget 1 none :: kw
abbrev wX12_init : List Cond := Cond.code yX12_init cX12_init 5 none :: kw
abbrev wX12_feed : List Cond := Cond.code yX12_feed cX12_feed 6 (some .boolean) :: kw
abbrev wX12_end : List Cond := Cond.code yX12_end cX12_end 2 (some .boolean) :: kw
abbrev wX12_send : List Cond := Cond.code yX12_send cX12_send 10 (some .int) :: kw
abbrev wX12_open : List Cond := Cond.code yX12_open cX12_open 3 (some .boolean) :: kw
abbrev wX12_isOpen : List Cond := Cond.code yX12_isOpen cX12_isOpen 3 (some .boolean) :: kw
abbrev wX12_out : List Cond := Cond.code yX12_out cX12_out 3 (some .int) :: kw
abbrev wX12_take : List Cond := Cond.code yX12_take cX12_take 4 (some .boolean) :: kw
abbrev wX12_pass : List Cond := Cond.code yX12_pass cX12_pass 5 (some .int) :: kw
abbrev wX12_now : List Cond := Cond.code yX12_now cX12_now 1 (some .long) :: kw
abbrev wX12_fuse : List Cond := Cond.code yX12_fuse cX12_fuse 2 none :: kw
abbrev wX12_crash : List Cond := Cond.code yX12_crash cX12_crash 1 (some .boolean) :: kw
abbrev wX12_restart : List Cond := Cond.code yX12_restart cX12_restart 6 (some .int) :: kw
abbrev wX12_rewrite : List Cond := Cond.code yX12_rewrite cX12_rewrite 2 (some .int) :: kw
abbrev wX12_log : List Cond := Cond.code yX12_log cX12_log 1 (some .int) :: kw
abbrev wX12_tear : List Cond := Cond.code yX12_tear cX12_tear 2 (some .boolean) :: kw
abbrev wX12_isUp : List Cond := Cond.code yX12_isUp cX12_isUp 1 (some .boolean) :: kw
abbrev wX12_total : List Cond := Cond.code yX12_total cX12_total 2 (some .int) :: kw
abbrev wX12_connectionOf : List Cond := Cond.code yX12_connectionOf cX12_connectionOf 2 (some (.object "KeySteward$Connection")) :: kw
abbrev wX12_keepRest : List Cond := Cond.code yX12_keepRest cX12_keepRest 3 none :: kw
abbrev wX12_halt : List Cond := Cond.code yX12_halt cX12_halt 5 none :: kw
abbrev wX12_burn : List Cond := Cond.code yX12_burn cX12_burn 3 none :: kw
abbrev wX12_expire : List Cond := Cond.code yX12_expire cX12_expire 7 (some .int) :: kw
abbrev wX13_define : List Cond := Cond.code yX13_define cX13_define 8 none :: kw
abbrev wX13_init : List Cond := Cond.code yX13_init cX13_init 2 none :: kw
abbrev wX13_names1 : List Cond := Cond.code yX13_names1 cX13_names1 1 none :: kw
abbrev wX13_memory : List Cond := Cond.code yX13_memory cX13_memory 6 (some .int) :: kw
abbrev wX13_endBlock : List Cond := Cond.code yX13_endBlock cX13_endBlock 2 none :: kw
abbrev wX13_close : List Cond := Cond.code yX13_close cX13_close 2 none :: kw
abbrev wX13_stop : List Cond := Cond.code yX13_stop cX13_stop 2 none :: kw
abbrev wX13_feed : List Cond := Cond.code yX13_feed cX13_feed 8 (some .boolean) :: kw
abbrev wX13_end : List Cond := Cond.code yX13_end cX13_end 2 (some .boolean) :: kw
abbrev wX13_send : List Cond := Cond.code yX13_send cX13_send 9 (some .int) :: kw
abbrev wX13_isConnection : List Cond := Cond.code yX13_isConnection cX13_isConnection 1 (some .boolean) :: kw
abbrev wX13_open : List Cond := Cond.code yX13_open cX13_open 2 (some .boolean) :: kw
abbrev wX13_isOpen : List Cond := Cond.code yX13_isOpen cX13_isOpen 2 (some .boolean) :: kw
abbrev wX13_out : List Cond := Cond.code yX13_out cX13_out 2 (some .int) :: kw
abbrev wX13_outAt : List Cond := Cond.code yX13_outAt cX13_outAt 3 (some .int) :: kw
abbrev wX13_take : List Cond := Cond.code yX13_take cX13_take 5 (some .boolean) :: kw
abbrev wX13_expire : List Cond := Cond.code yX13_expire cX13_expire 4 (some .int) :: kw
abbrev wX13_pass : List Cond := Cond.code yX13_pass cX13_pass 3 (some .int) :: kw
abbrev wX13_now : List Cond := Cond.code yX13_now cX13_now 1 (some .long) :: kw
abbrev wX13_fuse : List Cond := Cond.code yX13_fuse cX13_fuse 2 none :: kw
abbrev wX13_crash : List Cond := Cond.code yX13_crash cX13_crash 1 (some .boolean) :: kw
abbrev wX13_restart : List Cond := Cond.code yX13_restart cX13_restart 5 (some .int) :: kw
abbrev wX13_rewrite : List Cond := Cond.code yX13_rewrite cX13_rewrite 10 (some .int) :: kw
abbrev wX13_log : List Cond := Cond.code yX13_log cX13_log 1 (some .int) :: kw
abbrev wX13_logAt : List Cond := Cond.code yX13_logAt cX13_logAt 2 (some .int) :: kw
abbrev wX13_tear : List Cond := Cond.code yX13_tear cX13_tear 2 (some .boolean) :: kw
abbrev wX13_isUp : List Cond := Cond.code yX13_isUp cX13_isUp 1 (some .boolean) :: kw
abbrev wX13_total : List Cond := Cond.code yX13_total cX13_total 4 (some .int) :: kw
abbrev wJ7_fill_53178 : List Cond := Cond.code yJ7_fill_53178 cJ7_fill_53178 4 none :: kw
def fx (U : State) : Prop := va_AO "KeySteward$Connection" U ∧ va_AO "KeySteward$Value" U ∧ va_Nw (.methodLinkNest "KeySteward" 44 yX3_init "KeySteward") U ∧ va_Nw (.methodLinkNest "KeySteward" 47 yX11_init "KeySteward") U
theorem va_AO.warm {C : String} {s U : State} (hW : s.WarmedH U.vm) (h : va_AO C s) : va_AO C U := va_AO.moved hW.alike h
theorem fx_moved {s U : State} (hW : s.WarmedH U.vm) (h : fx s) : fx U := ⟨va_AO.warm hW h.1, va_AO.warm hW h.2.1, va_Nw.warmM hW h.2.2.1, va_Nw.warmM hW h.2.2.2⟩
abbrev pW (D : va_G) (ws : va_W) (tys : List (ClassId × FieldType)) (sz : Nat) : State → Prop := fun U => U.heap.size = sz ∧ va_P D classes ws U.heap ∧ va_K D classes tys U ∧ va_D (fun _ => True) ws ∧ fx U
abbrev bW (D : va_G) (ws : va_W) (tys : List (ClassId × FieldType)) (A : Nat → Prop) (t : State) : Prop := va_P D classes ws t.heap ∧ va_K D classes tys t ∧ va_D A ws
theorem fx_call {U : State} {g : JFrame} {mk : MethodId} {a : Array Value} (h : fx U) : fx (U.calling g mk a) := h
theorem fbW {av : List Value} {D : va_G} {ws : va_W} {tys : List (ClassId × FieldType)} {sz : Nat} : FrameBlind (va_Pc av (pW D ws tys sz)) := fun a U g mk q => by
  obtain ⟨q0, q1, qP, qK, qD, qX⟩ := q
  exact ⟨q0, q1, qP, va_K.moved (u := U) (U := U.calling g mk a) (Vm.Alike.refl U.vm) qK, qD, fx_call qX⟩
theorem pW_in {av : List Value} {s : State} {H : Heap} {D : va_G} {ws : va_W} {tys : List (ClassId × FieldType)} {A : Nat → Prop} (hP : va_P D classes ws H) (hK : va_K D classes tys s) (hD : va_D A ws) (hf : fx s) : ∀ U : State, U.heap = H → s.WarmedH U.vm → va_Pc av (pW D ws tys H.size) av.toArray U :=
  fun U hU hW => ⟨rfl, by rw [hU], by rw [hU]; exact hP, va_K.moved hW.alike hK, hD.weaken (fun _ _ _ _ => trivial), fx_moved hW hf⟩
section CallsHere
variable {s : State} {args : Array Value} {R : Room} {Ts ws ws' : List Cond} {own C : String} {index maxL mc ms : Nat} {y : MethodName} {bytes : ByteArray} {ret : Option FieldType} {rm : Room}
theorem callVv (n : Nat) (ht : ∀ w ∈ Ts, w.before args s = true) (hG : GoodIn Ts ws) (hw : ws = Cond.code y bytes maxL ret :: ws') (hrc : rm.cells = mc) (hrs : rm.slots = ms) (hini : (Cond.initialized y.cls).before args s = true) (hl : (Cond.methodLink own index y).before args s = true) (hin : (Cond.instanceMethod y).before args s = true) (hsel : (Cond.selects C y y).before args s = true)
    (hd : y.cls ≠ "java/lang/invoke/MethodHandle" ∧ y.cls ≠ "java/lang/invoke/VarHandle" ∧ (parseMethodDescriptor y.desc).map (fun d => d.parameters.length) = some n) (hR : rm.frames + 1 ≤ R.frames ∧ 8 + (maxL + 11) + rm.locals ≤ R.locals) :
    CallW R s args own C index y bytes maxL ret ws rm mc ms n := ⟨callB_of n ht hG hw hrc hrs hini hl hd hR, hin, hsel⟩
theorem callSs (n : Nat) (ht : ∀ w ∈ Ts, w.before args s = true) (hG : GoodIn Ts ws) (hw : ws = Cond.code y bytes maxL ret :: ws') (hrc : rm.cells = mc) (hrs : rm.slots = ms) (hini : (Cond.initialized y.cls).before args s = true) (hl : (Cond.methodLink own index y).before args s = true) (hst : (Cond.static y).before args s = true)
    (hd : y.cls ≠ "java/lang/invoke/MethodHandle" ∧ y.cls ≠ "java/lang/invoke/VarHandle" ∧ (parseMethodDescriptor y.desc).map (fun d => d.parameters.length) = some n) (hR : rm.frames + 1 ≤ R.frames ∧ 8 + (maxL + 11) + rm.locals ≤ R.locals) :
    CallB R s args own index y bytes maxL ret ws rm mc ms n ∧ (Cond.static y).before args s = true := ⟨callB_of n ht hG hw hrc hrs hini hl hd hR, hst⟩
end CallsHere
section Tools
variable {p : Program} {l : Launch} {e : Env} {R : Room} {s : State} {m : MethodId} {args : Array Value} {below : List Frame} {meth : Method} {c : Code} {cells slots : Nat} {Q : State → Prop}
/-- a loop: a measure that falls; the state at its head in a word of its own -/
theorem loop_w {σ : Type} (St : σ → Heap → List Loc → Array Slot → Prop) (μ : σ → Nat) (pc : Nat)
    (hs : ∀ (a : σ) (H : Heap) (locs : List Loc) (ls : Array Slot), St a H locs ls → (∀ (b : σ) (H' : Heap) (locs' : List Loc) (ls' : Array Slot), St b H' locs' ls' → μ b < μ a → W p l e R s m args below meth c H' locs' cells slots Q (F0 m pc ls' [])) → W p l e R s m args below meth c H locs cells slots Q (F0 m pc ls [])) :
    ∀ (a : σ) (H : Heap) (locs : List Loc) (ls : Array Slot), St a H locs ls → W p l e R s m args below meth c H locs cells slots Q (F0 m pc ls []) := by
  have key : ∀ (n : Nat) (a : σ) (H : Heap) (locs : List Loc) (ls : Array Slot), μ a < n → St a H locs ls → W p l e R s m args below meth c H locs cells slots Q (F0 m pc ls []) := by
    intro n
    induction n with
    | zero => intro a H locs ls h; exact absurd h (Nat.not_lt_zero _)
    | succ n ih =>
      intro a H locs ls h hI
      exact hs a H locs ls hI (fun b H' locs' ls' hb hlt => ih b H' locs' ls' (Nat.lt_of_lt_of_le hlt (Nat.le_of_lt_succ h)) hb)
  intro a H locs ls hI
  exact key (μ a + 1) a H locs ls (Nat.lt_succ_self _) hI
end Tools
theorem dead_ge {x : Int32} (h : x < 0 ∨ 4 ≤ x) (h1 : ¬ x < 0) : 4 ≤ x := h.elim (fun q => absurd q h1) id
theorem dead_co {x : Int32} (h : x < 0 ∨ 4 ≤ x) (h1 : ¬ x < 0) : ¬ x < 4 := fun q => by
  have h2 := Int32.lt_iff_toInt_lt.mp q
  have h3 := Int32.le_iff_toInt_le.mp (dead_ge h h1)
  omega
theorem dead_gt {x : Int32} (h : x < 0 ∨ 4 ≤ x) (h1 : ¬ x < 0) : 3 < x := Int32.lt_iff_toInt_lt.mpr (by
  have h3 := Int32.le_iff_toInt_le.mp (dead_ge h h1)
  have e3 : (3 : Int32).toInt = 3 := by decide
  have e4 : (4 : Int32).toInt = 4 := by decide
  omega)
theorem dead_le {x : Int32} (h : x < 0 ∨ 0 < x) (h1 : ¬ x < 0) : ¬ x ≤ 0 := fun q => by
  have h2 := Int32.le_iff_toInt_le.mp q
  have h3 := Int32.lt_iff_toInt_lt.mp (h.elim (fun q => absurd q h1) id)
  omega
theorem dead_lt0 {x : Int32} (h1 : ¬ x < 0) : ¬ x < 0 := h1
theorem dead_le2 {x : Int32} (h : x < 0 ∨ 2 < x) (h1 : ¬ x < 0) : ¬ x ≤ 2 := fun q => by
  have h2 := Int32.le_iff_toInt_le.mp q
  have h3 := Int32.lt_iff_toInt_lt.mp (h.elim (fun q => absurd q h1) id)
  omega
theorem dead_n0 {x : Int32} (h : x < 0 ∨ 2 < x) : ¬ x = 0 := fun q => by subst q; exact absurd h (by decide)
theorem dead_n1 {x : Int32} (h : x < 0 ∨ 2 < x) : ¬ x = 1 := fun q => by subst q; exact absurd h (by decide)
theorem dead_n2 {x : Int32} (h : x < 0 ∨ 2 < x) : ¬ x = 2 := fun q => by subst q; exact absurd h (by decide)
/-- what pass answers on a fresh object -/
def ps (t : Int64) : Int32 := if lg_cmp t 0 < 0 then -1 else if lg_cmp t 4503599627370496 ≤ 0 then 0 else -1

