def RX0 : String := "Slidingtray$Agenda"
def TX0 : u_T := fun k => match k with
  | 0 => ("Slidingtray$Agenda", "keys", "[J", true)
  | 1 => ("Slidingtray$Agenda", "seconds", "[J", true)
  | 2 => ("Slidingtray$Agenda", "heap", "[I", true)
  | 3 => ("Slidingtray$Agenda", "spots", "[I", true)
  | _ => ("Slidingtray$Agenda", "count", "I", false)
def tyX0 : Nat → FieldType := fun k => match k with
  | 0 => .array .long
  | 1 => .array .long
  | 2 => .array .int
  | 3 => .array .int
  | _ => .int
abbrev wsX00 : List Cond := u_ws RX0 TX0 5
theorem nmX0 : ∀ a, a < 5 → ∀ b, b < 5 → a ≠ b → (TX0 a).2.1 ≠ (TX0 b).2.1 := by decide +kernel
theorem tyX0_ok : ∀ k, k < 5 → parseFieldDescriptor (TX0 k).2.2.1 = some (tyX0 k) := by decide +kernel
def RX1 : String := "Slidingtray$Aim"
def TX1 : u_T := fun k => match k with
  | 0 => ("Slidingtray$Aim", "goal", "[I", true)
  | 1 => ("Slidingtray$Aim", "weight", "[I", true)
  | 2 => ("Slidingtray$Aim", "open", "I", false)
  | _ => ("Slidingtray$Aim", "freeBits", "I", false)
def tyX1 : Nat → FieldType := fun k => match k with
  | 0 => .array .int
  | 1 => .array .int
  | 2 => .int
  | _ => .int
abbrev wsX10 : List Cond := u_ws RX1 TX1 4
theorem nmX1 : ∀ a, a < 4 → ∀ b, b < 4 → a ≠ b → (TX1 a).2.1 ≠ (TX1 b).2.1 := by decide +kernel
theorem tyX1_ok : ∀ k, k < 4 → parseFieldDescriptor (TX1 k).2.2.1 = some (tyX1 k) := by decide +kernel
def RX2 : String := "Slidingtray$AllStates"
def TX2 : u_T := fun k => match k with
  | 0 => ("Slidingtray$AllStates", "known", "I", false)
  | 1 => ("Slidingtray$AllStates", "greatest", "I", false)
  | 2 => ("Slidingtray$AllStates", "farthest", "I", false)
  | 3 => ("Slidingtray$AllStates", "states", "I", false)
  | 4 => ("Slidingtray$AllStates", "isMapped", "Z", false)
  | 5 => ("Slidingtray$AllStates", "isReckoned", "Z", false)
  | 6 => ("Slidingtray$AllStates", "packed", "[J", true)
  | 7 => ("Slidingtray$AllStates", "nexts", "[I", true)
  | 8 => ("Slidingtray$AllStates", "tiles", "[I", true)
  | 9 => ("Slidingtray$AllStates", "costs", "[I", true)
  | 10 => ("Slidingtray$AllStates", "ways", "[I", true)
  | 11 => ("Slidingtray$AllStates", "guesses", "[I", true)
  | _ => ("Slidingtray$AllStates", "work", "LSlidingtray$Lie;", true)
def tyX2 : Nat → FieldType := fun k => match k with
  | 0 => .int
  | 1 => .int
  | 2 => .int
  | 3 => .int
  | 4 => .boolean
  | 5 => .boolean
  | 6 => .array .long
  | 7 => .array .int
  | 8 => .array .int
  | 9 => .array .int
  | 10 => .array .int
  | 11 => .array .int
  | _ => .object "Slidingtray$Lie"
abbrev wsX20 : List Cond := u_ws RX2 TX2 13
theorem nmX2 : ∀ a, a < 13 → ∀ b, b < 13 → a ≠ b → (TX2 a).2.1 ≠ (TX2 b).2.1 := by decide +kernel
theorem tyX2_ok : ∀ k, k < 13 → parseFieldDescriptor (TX2 k).2.2.1 = some (tyX2 k) := by decide +kernel
def RX3 : String := "Slidingtray$BestFirst"
def TX3 : u_T := fun k => match k with
  | 0 => ("Slidingtray$BestFirst", "taken", "I", false)
  | 1 => ("Slidingtray$BestFirst", "found", "LSlidingtray$Found;", true)
  | 2 => ("Slidingtray$BestFirst", "costs", "[I", true)
  | 3 => ("Slidingtray$BestFirst", "rests", "[I", true)
  | 4 => ("Slidingtray$BestFirst", "parents", "[I", true)
  | 5 => ("Slidingtray$BestFirst", "moves", "[I", true)
  | 6 => ("Slidingtray$BestFirst", "work", "LSlidingtray$Lie;", true)
  | _ => ("Slidingtray$BestFirst", "last", "I", false)
def tyX3 : Nat → FieldType := fun k => match k with
  | 0 => .int
  | 1 => .object "Slidingtray$Found"
  | 2 => .array .int
  | 3 => .array .int
  | 4 => .array .int
  | 5 => .array .int
  | 6 => .object "Slidingtray$Lie"
  | _ => .int
abbrev wsX30 : List Cond := u_ws RX3 TX3 8
theorem nmX3 : ∀ a, a < 8 → ∀ b, b < 8 → a ≠ b → (TX3 a).2.1 ≠ (TX3 b).2.1 := by decide +kernel
theorem tyX3_ok : ∀ k, k < 8 → parseFieldDescriptor (TX3 k).2.2.1 = some (tyX3 k) := by decide +kernel
def RX4 : String := "Slidingtray$Board"
def TX4 : u_T := fun k => match k with
  | 0 => ("Slidingtray$Board", "rows", "I", false)
  | 1 => ("Slidingtray$Board", "columns", "I", false)
  | 2 => ("Slidingtray$Board", "cells", "I", false)
  | 3 => ("Slidingtray$Board", "open", "I", false)
  | 4 => ("Slidingtray$Board", "placeAt", "[I", true)
  | 5 => ("Slidingtray$Board", "cellOf", "[I", true)
  | 6 => ("Slidingtray$Board", "beside", "[I", true)
  | 7 => ("Slidingtray$Board", "steps", "[I", true)
  | 8 => ("Slidingtray$Board", "lineLengths", "[I", true)
  | 9 => ("Slidingtray$Board", "linePlaces", "[I", true)
  | _ => ("Slidingtray$Board", "onLine", "[I", true)
def tyX4 : Nat → FieldType := fun k => match k with
  | 0 => .int
  | 1 => .int
  | 2 => .int
  | 3 => .int
  | 4 => .array .int
  | 5 => .array .int
  | 6 => .array .int
  | 7 => .array .int
  | 8 => .array .int
  | 9 => .array .int
  | _ => .array .int
abbrev wsX40 : List Cond := u_ws RX4 TX4 11
theorem nmX4 : ∀ a, a < 11 → ∀ b, b < 11 → a ≠ b → (TX4 a).2.1 ≠ (TX4 b).2.1 := by decide +kernel
theorem tyX4_ok : ∀ k, k < 11 → parseFieldDescriptor (TX4 k).2.2.1 = some (tyX4 k) := by decide +kernel
def RX5 : String := "Slidingtray$Deepening"
def TX5 : u_T := fun k => match k with
  | 0 => ("Slidingtray$Deepening", "comeTo", "I", false)
  | 1 => ("Slidingtray$Deepening", "rounds", "I", false)
  | 2 => ("Slidingtray$Deepening", "row", "[I", true)
  | 3 => ("Slidingtray$Deepening", "costs", "[I", true)
  | 4 => ("Slidingtray$Deepening", "nexts", "[I", true)
  | 5 => ("Slidingtray$Deepening", "work", "LSlidingtray$Lie;", true)
  | 6 => ("Slidingtray$Deepening", "depth", "I", false)
  | _ => ("Slidingtray$Deepening", "least", "I", false)
def tyX5 : Nat → FieldType := fun k => match k with
  | 0 => .int
  | 1 => .int
  | 2 => .array .int
  | 3 => .array .int
  | 4 => .array .int
  | 5 => .object "Slidingtray$Lie"
  | 6 => .int
  | _ => .int
abbrev wsX50 : List Cond := u_ws RX5 TX5 8
theorem nmX5 : ∀ a, a < 8 → ∀ b, b < 8 → a ≠ b → (TX5 a).2.1 ≠ (TX5 b).2.1 := by decide +kernel
theorem tyX5_ok : ∀ k, k < 8 → parseFieldDescriptor (TX5 k).2.2.1 = some (tyX5 k) := by decide +kernel
def RX6 : String := "Slidingtray$Found"
def TX6 : u_T := fun k => match k with
  | 0 => ("Slidingtray$Found", "packed", "[J", true)
  | 1 => ("Slidingtray$Found", "count", "I", false)
  | 2 => ("Slidingtray$Found", "homes", "[I", true)
  | 3 => ("Slidingtray$Found", "slots", "[I", true)
  | _ => ("Slidingtray$Found", "slotBits", "I", true)
def tyX6 : Nat → FieldType := fun k => match k with
  | 0 => .array .long
  | 1 => .int
  | 2 => .array .int
  | 3 => .array .int
  | _ => .int
abbrev wsX60 : List Cond := u_ws RX6 TX6 5
theorem nmX6 : ∀ a, a < 5 → ∀ b, b < 5 → a ≠ b → (TX6 a).2.1 ≠ (TX6 b).2.1 := by decide +kernel
theorem tyX6_ok : ∀ k, k < 5 → parseFieldDescriptor (TX6 k).2.2.1 = some (tyX6 k) := by decide +kernel
def RX7 : String := "Slidingtray$Lie"
def TX7 : u_T := fun k => match k with
  | 0 => ("Slidingtray$Lie", "tileOn", "[I", true)
  | 1 => ("Slidingtray$Lie", "placeOf", "[I", true)
  | 2 => ("Slidingtray$Lie", "open", "I", false)
  | _ => ("Slidingtray$Lie", "packed", "J", false)
def tyX7 : Nat → FieldType := fun k => match k with
  | 0 => .array .int
  | 1 => .array .int
  | 2 => .int
  | _ => .long
abbrev wsX70 : List Cond := u_ws RX7 TX7 4
theorem nmX7 : ∀ a, a < 4 → ∀ b, b < 4 → a ≠ b → (TX7 a).2.1 ≠ (TX7 b).2.1 := by decide +kernel
theorem tyX7_ok : ∀ k, k < 4 → parseFieldDescriptor (TX7 k).2.2.1 = some (tyX7 k) := by decide +kernel
def RX8 : String := "Slidingtray$Part"
def TX8 : u_T := fun k => match k with
  | 0 => ("Slidingtray$Part", "bits", "I", false)
  | 1 => ("Slidingtray$Part", "open", "I", false)
  | 2 => ("Slidingtray$Part", "size", "I", false)
  | 3 => ("Slidingtray$Part", "count", "I", false)
  | 4 => ("Slidingtray$Part", "tiles", "[I", true)
  | 5 => ("Slidingtray$Part", "table", "[I", true)
  | _ => ("Slidingtray$Part", "places", "[I", true)
def tyX8 : Nat → FieldType := fun k => match k with
  | 0 => .int
  | 1 => .int
  | 2 => .int
  | 3 => .int
  | 4 => .array .int
  | 5 => .array .int
  | _ => .array .int
abbrev wsX80 : List Cond := u_ws RX8 TX8 7
theorem nmX8 : ∀ a, a < 7 → ∀ b, b < 7 → a ≠ b → (TX8 a).2.1 ≠ (TX8 b).2.1 := by decide +kernel
theorem tyX8_ok : ∀ k, k < 7 → parseFieldDescriptor (TX8 k).2.2.1 = some (tyX8 k) := by decide +kernel
def RX9 : String := "Slidingtray$Puzzle"
def TX9 : u_T := fun k => match k with
  | 0 => ("Slidingtray$Puzzle", "board", "LSlidingtray$Board;", true)
  | 1 => ("Slidingtray$Puzzle", "aim", "LSlidingtray$Aim;", true)
  | 2 => ("Slidingtray$Puzzle", "agenda", "LSlidingtray$Agenda;", true)
  | 3 => ("Slidingtray$Puzzle", "parts", "[LSlidingtray$Part;", true)
  | 4 => ("Slidingtray$Puzzle", "partCount", "I", false)
  | 5 => ("Slidingtray$Puzzle", "stakes", "[I", true)
  | 6 => ("Slidingtray$Puzzle", "targets", "[I", true)
  | _ => ("Slidingtray$Puzzle", "clashes", "[I", true)
def tyX9 : Nat → FieldType := fun k => match k with
  | 0 => .object "Slidingtray$Board"
  | 1 => .object "Slidingtray$Aim"
  | 2 => .object "Slidingtray$Agenda"
  | 3 => .array (.object "Slidingtray$Part")
  | 4 => .int
  | 5 => .array .int
  | 6 => .array .int
  | _ => .array .int
abbrev wsX90 : List Cond := u_ws RX9 TX9 8
theorem nmX9 : ∀ a, a < 8 → ∀ b, b < 8 → a ≠ b → (TX9 a).2.1 ≠ (TX9 b).2.1 := by decide +kernel
theorem tyX9_ok : ∀ k, k < 8 → parseFieldDescriptor (TX9 k).2.2.1 = some (tyX9 k) := by decide +kernel
def RX10 : String := "Slidingtray$Rings"
def TX10 : u_T := fun k => match k with
  | 0 => ("Slidingtray$Rings", "counted", "I", false)
  | 1 => ("Slidingtray$Rings", "rings", "I", false)
  | 2 => ("Slidingtray$Rings", "found", "LSlidingtray$Found;", true)
  | 3 => ("Slidingtray$Rings", "finders", "[I", true)
  | 4 => ("Slidingtray$Rings", "froms", "[I", true)
  | 5 => ("Slidingtray$Rings", "tos", "[I", true)
  | 6 => ("Slidingtray$Rings", "work", "LSlidingtray$Lie;", true)
  | _ => ("Slidingtray$Rings", "hasMet", "Z", false)
def tyX10 : Nat → FieldType := fun k => match k with
  | 0 => .int
  | 1 => .int
  | 2 => .object "Slidingtray$Found"
  | 3 => .array .int
  | 4 => .array .int
  | 5 => .array .int
  | 6 => .object "Slidingtray$Lie"
  | _ => .boolean
abbrev wsX100 : List Cond := u_ws RX10 TX10 8
theorem nmX10 : ∀ a, a < 8 → ∀ b, b < 8 → a ≠ b → (TX10 a).2.1 ≠ (TX10 b).2.1 := by decide +kernel
theorem tyX10_ok : ∀ k, k < 8 → parseFieldDescriptor (TX10 k).2.2.1 = some (tyX10 k) := by decide +kernel
def RX11 : String := "Slidingtray"
def TX11 : u_T := fun k => match k with
  | 0 => ("Slidingtray", "puzzle", "LSlidingtray$Puzzle;", true)
  | 1 => ("Slidingtray", "lie", "LSlidingtray$Lie;", true)
  | 2 => ("Slidingtray", "side", "LSlidingtray$Lie;", true)
  | 3 => ("Slidingtray", "keptLies", "[LSlidingtray$Lie;", true)
  | 4 => ("Slidingtray", "keptAims", "[LSlidingtray$Aim;", true)
  | 5 => ("Slidingtray", "isKept", "[Z", true)
  | 6 => ("Slidingtray", "macros", "[[I", true)
  | 7 => ("Slidingtray", "macroLengths", "[I", true)
  | 8 => ("Slidingtray", "remembered", "[I", true)
  | 9 => ("Slidingtray", "rememberedNext", "I", false)
  | 10 => ("Slidingtray", "rememberedCount", "I", false)
  | 11 => ("Slidingtray", "bestFirst", "LSlidingtray$BestFirst;", true)
  | 12 => ("Slidingtray", "deepening", "LSlidingtray$Deepening;", true)
  | 13 => ("Slidingtray", "rings", "LSlidingtray$Rings;", true)
  | 14 => ("Slidingtray", "allStates", "LSlidingtray$AllStates;", true)
  | 15 => ("Slidingtray", "way", "[I", true)
  | 16 => ("Slidingtray", "wayLength", "I", false)
  | 17 => ("Slidingtray", "report", "[I", true)
  | _ => ("Slidingtray", "limit", "I", false)
def tyX11 : Nat → FieldType := fun k => match k with
  | 0 => .object "Slidingtray$Puzzle"
  | 1 => .object "Slidingtray$Lie"
  | 2 => .object "Slidingtray$Lie"
  | 3 => .array (.object "Slidingtray$Lie")
  | 4 => .array (.object "Slidingtray$Aim")
  | 5 => .array .boolean
  | 6 => .array (.array .int)
  | 7 => .array .int
  | 8 => .array .int
  | 9 => .int
  | 10 => .int
  | 11 => .object "Slidingtray$BestFirst"
  | 12 => .object "Slidingtray$Deepening"
  | 13 => .object "Slidingtray$Rings"
  | 14 => .object "Slidingtray$AllStates"
  | 15 => .array .int
  | 16 => .int
  | 17 => .array .int
  | _ => .int
abbrev wsX110 : List Cond := u_ws RX11 TX11 19
theorem nmX11 : ∀ a, a < 19 → ∀ b, b < 19 → a ≠ b → (TX11 a).2.1 ≠ (TX11 b).2.1 := by decide +kernel
theorem tyX11_ok : ∀ k, k < 19 → parseFieldDescriptor (TX11 k).2.2.1 = some (tyX11 k) := by decide +kernel
def RX12 : String := "SlidingtrayModel"
def TX12 : u_T := fun k => match k with
  | 0 => ("SlidingtrayModel", "cellOf", "[I", true)
  | 1 => ("SlidingtrayModel", "openOf", "[I", true)
  | 2 => ("SlidingtrayModel", "near", "[I", true)
  | 3 => ("SlidingtrayModel", "steps", "[I", true)
  | 4 => ("SlidingtrayModel", "isWall", "[Z", true)
  | 5 => ("SlidingtrayModel", "rows", "I", false)
  | 6 => ("SlidingtrayModel", "columns", "I", false)
  | 7 => ("SlidingtrayModel", "open", "I", false)
  | 8 => ("SlidingtrayModel", "thrown", "I", false)
  | 9 => ("SlidingtrayModel", "lies", "[I", true)
  | 10 => ("SlidingtrayModel", "goalOf", "[I", true)
  | 11 => ("SlidingtrayModel", "weight", "[I", true)
  | 12 => ("SlidingtrayModel", "isFree", "[Z", true)
  | 13 => ("SlidingtrayModel", "limit", "I", false)
  | 14 => ("SlidingtrayModel", "back", "[I", true)
  | 15 => ("SlidingtrayModel", "macroMany", "[I", true)
  | 16 => ("SlidingtrayModel", "macro", "[I", true)
  | 17 => ("SlidingtrayModel", "backs", "I", false)
  | 18 => ("SlidingtrayModel", "imageLies", "[I", true)
  | 19 => ("SlidingtrayModel", "imageGoal", "[I", true)
  | 20 => ("SlidingtrayModel", "imageWeight", "[I", true)
  | 21 => ("SlidingtrayModel", "imageFree", "[Z", true)
  | 22 => ("SlidingtrayModel", "isKept", "[Z", true)
  | 23 => ("SlidingtrayModel", "wasWall", "[Z", true)
  | 24 => ("SlidingtrayModel", "isMet", "[Z", true)
  | 25 => ("SlidingtrayModel", "isUsed", "[Z", true)
  | 26 => ("SlidingtrayModel", "lineWeight", "[I", true)
  | 27 => ("SlidingtrayModel", "lineGoal", "[I", true)
  | 28 => ("SlidingtrayModel", "partTile", "[I", true)
  | 29 => ("SlidingtrayModel", "partMany", "[I", true)
  | 30 => ("SlidingtrayModel", "table", "[I", true)
  | 31 => ("SlidingtrayModel", "partAt", "[I", true)
  | 32 => ("SlidingtrayModel", "parts", "I", false)
  | 33 => ("SlidingtrayModel", "goal", "[I", true)
  | 34 => ("SlidingtrayModel", "stateTile", "[I", true)
  | 35 => ("SlidingtrayModel", "stateCost", "[I", true)
  | 36 => ("SlidingtrayModel", "stateEstimate", "[I", true)
  | 37 => ("SlidingtrayModel", "stateFrom", "[I", true)
  | 38 => ("SlidingtrayModel", "stateMove", "[I", true)
  | 39 => ("SlidingtrayModel", "bucket", "[I", true)
  | 40 => ("SlidingtrayModel", "stateRank", "[J", true)
  | 41 => ("SlidingtrayModel", "isTaken", "[Z", true)
  | 42 => ("SlidingtrayModel", "states", "I", false)
  | 43 => ("SlidingtrayModel", "row", "[I", true)
  | 44 => ("SlidingtrayModel", "way", "[I", true)
  | 45 => ("SlidingtrayModel", "aside", "[I", true)
  | 46 => ("SlidingtrayModel", "wayMany", "I", false)
  | 47 => ("SlidingtrayModel", "taken", "I", false)
  | 48 => ("SlidingtrayModel", "rounds", "I", false)
  | 49 => ("SlidingtrayModel", "toldWay", "I", false)
  | 50 => ("SlidingtrayModel", "asideMany", "I", false)
  | 51 => ("SlidingtrayModel", "asideTaken", "I", false)
  | 52 => ("SlidingtrayModel", "asideRounds", "I", false)
  | 53 => ("SlidingtrayModel", "bound", "I", false)
  | 54 => ("SlidingtrayModel", "beyond", "I", false)
  | 55 => ("SlidingtrayModel", "byEstimate", "I", false)
  | 56 => ("SlidingtrayModel", "isRefused", "Z", false)
  | 57 => ("SlidingtrayModel", "nextAt", "[I", true)
  | 58 => ("SlidingtrayModel", "costAt", "[I", true)
  | 59 => ("SlidingtrayModel", "fromAt", "[I", true)
  | 60 => ("SlidingtrayModel", "ringOf", "[I", true)
  | 61 => ("SlidingtrayModel", "costOf", "[I", true)
  | 62 => ("SlidingtrayModel", "nextOf", "[I", true)
  | 63 => ("SlidingtrayModel", "nextCost", "[I", true)
  | 64 => ("SlidingtrayModel", "manyWays", "[I", true)
  | 65 => ("SlidingtrayModel", "all", "I", false)
  | _ => ("SlidingtrayModel", "estimateOf", "[I", true)
def tyX12 : Nat → FieldType := fun k => match k with
  | 0 => .array .int
  | 1 => .array .int
  | 2 => .array .int
  | 3 => .array .int
  | 4 => .array .boolean
  | 5 => .int
  | 6 => .int
  | 7 => .int
  | 8 => .int
  | 9 => .array .int
  | 10 => .array .int
  | 11 => .array .int
  | 12 => .array .boolean
  | 13 => .int
  | 14 => .array .int
  | 15 => .array .int
  | 16 => .array .int
  | 17 => .int
  | 18 => .array .int
  | 19 => .array .int
  | 20 => .array .int
  | 21 => .array .boolean
  | 22 => .array .boolean
  | 23 => .array .boolean
  | 24 => .array .boolean
  | 25 => .array .boolean
  | 26 => .array .int
  | 27 => .array .int
  | 28 => .array .int
  | 29 => .array .int
  | 30 => .array .int
  | 31 => .array .int
  | 32 => .int
  | 33 => .array .int
  | 34 => .array .int
  | 35 => .array .int
  | 36 => .array .int
  | 37 => .array .int
  | 38 => .array .int
  | 39 => .array .int
  | 40 => .array .long
  | 41 => .array .boolean
  | 42 => .int
  | 43 => .array .int
  | 44 => .array .int
  | 45 => .array .int
  | 46 => .int
  | 47 => .int
  | 48 => .int
  | 49 => .int
  | 50 => .int
  | 51 => .int
  | 52 => .int
  | 53 => .int
  | 54 => .int
  | 55 => .int
  | 56 => .boolean
  | 57 => .array .int
  | 58 => .array .int
  | 59 => .array .int
  | 60 => .array .int
  | 61 => .array .int
  | 62 => .array .int
  | 63 => .array .int
  | 64 => .array .int
  | 65 => .int
  | _ => .array .int
abbrev wsX120 : List Cond := u_ws RX12 TX12 67
theorem nmX12 : ∀ a, a < 67 → ∀ b, b < 67 → a ≠ b → (TX12 a).2.1 ≠ (TX12 b).2.1 := by decide +kernel
theorem tyX12_ok : ∀ k, k < 67 → parseFieldDescriptor (TX12 k).2.2.1 = some (tyX12 k) := by decide +kernel
abbrev vwCl : List vw_C := [(RX0, TX0, 5), (RX1, TX1, 4), (RX2, TX2, 13), (RX3, TX3, 8), (RX4, TX4, 11), (RX5, TX5, 8), (RX6, TX6, 5), (RX7, TX7, 4), (RX8, TX8, 7), (RX9, TX9, 8), (RX10, TX10, 8), (RX11, TX11, 19), (RX12, TX12, 67)]
abbrev jaty : List FieldType := [.int, .boolean, .long, .object RX7, .object RX1, .object RX8, .array .int]
abbrev jtl (dA : Nat → ClassId) : List (ClassId × FieldType) := [(dA 0, .int), (dA 1, .boolean), (dA 2, .long), (dA 3, .object RX7), (dA 4, .object RX1), (dA 5, .object RX8), (dA 6, .array .int)]
def jel : Nat → Nat := fun t => match t with
  | 3 => 7
  | 4 => 1
  | 5 => 8
  | _ => 99
/-- the fields of a new object of class ci -/
def jdf : Nat → List Value := fun ci => match ci with
  | 0 => [.null, .null, .null, .null, .int 0]
  | 1 => [.null, .null, .int 0, .int 0]
  | 2 => [.int 0, .int 0, .int 0, .int 0, .int 0, .int 0, .null, .null, .null, .null, .null, .null, .null]
  | 3 => [.int 0, .null, .null, .null, .null, .null, .null, .int 0]
  | 4 => [.int 0, .int 0, .int 0, .int 0, .null, .null, .null, .null, .null, .null, .null]
  | 5 => [.int 0, .int 0, .null, .null, .null, .null, .int 0, .int 0]
  | 6 => [.null, .int 0, .null, .null, .int 0]
  | 7 => [.null, .null, .int 0, .long 0]
  | 8 => [.int 0, .int 0, .int 0, .int 0, .null, .null, .null]
  | 9 => [.null, .null, .null, .null, .int 0, .null, .null, .null]
  | 10 => [.int 0, .int 0, .null, .null, .null, .null, .null, .int 0]
  | 11 => [.null, .null, .null, .null, .null, .null, .null, .null, .null, .int 0, .int 0, .null, .null, .null, .null, .null, .int 0, .null, .int 0]
  | 12 => [.null, .null, .null, .null, .null, .int 0, .int 0, .int 0, .int 0, .null, .null, .null, .null, .int 0, .null, .null, .null, .int 0, .null, .null, .null, .null, .null, .null, .null, .null, .null, .null, .null, .null, .null, .null, .int 0, .null, .null, .null, .null, .null, .null, .null, .null, .null, .int 0, .null, .null, .null, .int 0, .int 0, .int 0, .int 0, .int 0, .int 0, .int 0, .int 0, .int 0, .int 0, .int 0, .null, .null, .null, .null, .null, .null, .null, .null, .int 0, .null]
  | _ => []
def jtc : FieldType → Nat := fun ty => match ty with
  | .int => 0
  | .boolean => 1
  | .long => 2
  | .object _ => 3
  | .array _ => 3
  | _ => 9
/-- what a class's table says: types and names of its fields -/
theorem jcls (ci : Nat) (r : vw_C) (h : vwCl[ci]? = some r) : ∃ ty : Nat → FieldType, (∀ k, k < r.2.2 → parseFieldDescriptor (r.2.1 k).2.2.1 = some (ty k)) ∧ (∀ a, a < r.2.2 → ∀ b, b < r.2.2 → a ≠ b → (r.2.1 a).2.1 ≠ (r.2.1 b).2.1) ∧ (∀ j, j < r.2.2 → defaultValue (ty j) = vp_V (jdf ci) j) ∧ (jdf ci).length = r.2.2 := by
  match ci, h with
  | 0, h => cases (Option.some.inj h); exact ⟨tyX0, tyX0_ok, nmX0, by decide +kernel, rfl⟩
  | 1, h => cases (Option.some.inj h); exact ⟨tyX1, tyX1_ok, nmX1, by decide +kernel, rfl⟩
  | 2, h => cases (Option.some.inj h); exact ⟨tyX2, tyX2_ok, nmX2, by decide +kernel, rfl⟩
  | 3, h => cases (Option.some.inj h); exact ⟨tyX3, tyX3_ok, nmX3, by decide +kernel, rfl⟩
  | 4, h => cases (Option.some.inj h); exact ⟨tyX4, tyX4_ok, nmX4, by decide +kernel, rfl⟩
  | 5, h => cases (Option.some.inj h); exact ⟨tyX5, tyX5_ok, nmX5, by decide +kernel, rfl⟩
  | 6, h => cases (Option.some.inj h); exact ⟨tyX6, tyX6_ok, nmX6, by decide +kernel, rfl⟩
  | 7, h => cases (Option.some.inj h); exact ⟨tyX7, tyX7_ok, nmX7, by decide +kernel, rfl⟩
  | 8, h => cases (Option.some.inj h); exact ⟨tyX8, tyX8_ok, nmX8, by decide +kernel, rfl⟩
  | 9, h => cases (Option.some.inj h); exact ⟨tyX9, tyX9_ok, nmX9, by decide +kernel, rfl⟩
  | 10, h => cases (Option.some.inj h); exact ⟨tyX10, tyX10_ok, nmX10, by decide +kernel, rfl⟩
  | 11, h => cases (Option.some.inj h); exact ⟨tyX11, tyX11_ok, nmX11, by decide +kernel, rfl⟩
  | 12, h => cases (Option.some.inj h); exact ⟨tyX12, tyX12_ok, nmX12, by decide +kernel, rfl⟩
  | n + 13, h => simp at h
