def RX0 : String := "RiverWage$Floors"
def TX0 : u_T := fun k => match k with
  | 0 => ("RiverWage$Floors", "floors", "[I", true)
  | _ => ("RiverWage$Floors", "trades", "[I", true)
def tyX0 : Nat → FieldType := fun k => match k with
  | 0 => .array .int
  | _ => .array .int
theorem nmX0 : ∀ a, a < 2 → ∀ b, b < 2 → a ≠ b → (TX0 a).2.1 ≠ (TX0 b).2.1 := by decide +kernel
theorem tyX0_ok : ∀ k, k < 2 → parseFieldDescriptor (TX0 k).2.2.1 = some (tyX0 k) := by decide +kernel
def RX1 : String := "RiverWage$Fraction"
def TX1 : u_T := fun k => match k with
  | 0 => ("RiverWage$Fraction", "above", "J", false)
  | _ => ("RiverWage$Fraction", "below", "J", false)
def tyX1 : Nat → FieldType := fun k => match k with
  | 0 => .long
  | _ => .long
theorem nmX1 : ∀ a, a < 2 → ∀ b, b < 2 → a ≠ b → (TX1 a).2.1 ≠ (TX1 b).2.1 := by decide +kernel
theorem tyX1_ok : ∀ k, k < 2 → parseFieldDescriptor (TX1 k).2.2.1 = some (tyX1 k) := by decide +kernel
def RX2 : String := "RiverWage$Ledger"
def TX2 : u_T := fun k => match k with
  | _ => ("RiverWage$Ledger", "cells", "[I", true)
def tyX2 : Nat → FieldType := fun k => match k with
  | _ => .array .int
theorem nmX2 : ∀ a, a < 1 → ∀ b, b < 1 → a ≠ b → (TX2 a).2.1 ≠ (TX2 b).2.1 := by decide +kernel
theorem tyX2_ok : ∀ k, k < 1 → parseFieldDescriptor (TX2 k).2.2.1 = some (tyX2 k) := by decide +kernel
def RX3 : String := "RiverWage$Mark"
def TX3 : u_T := fun k => match k with
  | 0 => ("RiverWage$Mark", "calls", "LRiverWage$Ledger;", true)
  | 1 => ("RiverWage$Mark", "sheets", "LRiverWage$Ledger;", true)
  | 2 => ("RiverWage$Mark", "others", "I", false)
  | _ => ("RiverWage$Mark", "laid", "Z", false)
def tyX3 : Nat → FieldType := fun k => match k with
  | 0 => .object "RiverWage$Ledger"
  | 1 => .object "RiverWage$Ledger"
  | 2 => .int
  | _ => .boolean
theorem nmX3 : ∀ a, a < 4 → ∀ b, b < 4 → a ≠ b → (TX3 a).2.1 ≠ (TX3 b).2.1 := by decide +kernel
theorem tyX3_ok : ∀ k, k < 4 → parseFieldDescriptor (TX3 k).2.2.1 = some (tyX3 k) := by decide +kernel
def RX4 : String := "RiverWage$OtherRivers"
def TX4 : u_T := fun k => match k with
  | 0 => ("RiverWage$OtherRivers", "sums", "[I", true)
  | 1 => ("RiverWage$OtherRivers", "sizes", "[I", true)
  | 2 => ("RiverWage$OtherRivers", "printed", "[Z", true)
  | _ => ("RiverWage$OtherRivers", "length", "I", false)
def tyX4 : Nat → FieldType := fun k => match k with
  | 0 => .array .int
  | 1 => .array .int
  | 2 => .array .boolean
  | _ => .int
theorem nmX4 : ∀ a, a < 4 → ∀ b, b < 4 → a ≠ b → (TX4 a).2.1 ≠ (TX4 b).2.1 := by decide +kernel
theorem tyX4_ok : ∀ k, k < 4 → parseFieldDescriptor (TX4 k).2.2.1 = some (tyX4 k) := by decide +kernel
def RX5 : String := "RiverWage$Reader"
def TX5 : u_T := fun k => match k with
  | 0 => ("RiverWage$Reader", "lineWords", "Ljava/lang/String;", true)
  | 1 => ("RiverWage$Reader", "factWords", "Ljava/lang/String;", true)
  | 2 => ("RiverWage$Reader", "forms", "[I", true)
  | 3 => ("RiverWage$Reader", "waiting", "[I", true)
  | 4 => ("RiverWage$Reader", "waits", "I", false)
  | 5 => ("RiverWage$Reader", "depth", "I", false)
  | 6 => ("RiverWage$Reader", "opened", "I", false)
  | 7 => ("RiverWage$Reader", "expected", "I", false)
  | _ => ("RiverWage$Reader", "line", "I", false)
def tyX5 : Nat → FieldType := fun k => match k with
  | 0 => .object "java/lang/String"
  | 1 => .object "java/lang/String"
  | 2 => .array .int
  | 3 => .array .int
  | 4 => .int
  | 5 => .int
  | 6 => .int
  | 7 => .int
  | _ => .int
theorem nmX5 : ∀ a, a < 9 → ∀ b, b < 9 → a ≠ b → (TX5 a).2.1 ≠ (TX5 b).2.1 := by decide +kernel
theorem tyX5_ok : ∀ k, k < 9 → parseFieldDescriptor (TX5 k).2.2.1 = some (tyX5 k) := by decide +kernel
def RX6 : String := "RiverWage$Roster"
def TX6 : u_T := fun k => match k with
  | 0 => ("RiverWage$Roster", "told", "[Z", true)
  | 1 => ("RiverWage$Roster", "chosen", "[Z", true)
  | 2 => ("RiverWage$Roster", "banks", "[I", true)
  | 3 => ("RiverWage$Roster", "wages", "[I", true)
  | _ => ("RiverWage$Roster", "mosts", "[I", true)
def tyX6 : Nat → FieldType := fun k => match k with
  | 0 => .array .boolean
  | 1 => .array .boolean
  | 2 => .array .int
  | 3 => .array .int
  | _ => .array .int
theorem nmX6 : ∀ a, a < 5 → ∀ b, b < 5 → a ≠ b → (TX6 a).2.1 ≠ (TX6 b).2.1 := by decide +kernel
theorem tyX6_ok : ∀ k, k < 5 → parseFieldDescriptor (TX6 k).2.2.1 = some (tyX6 k) := by decide +kernel
def RX7 : String := "RiverWage$Script"
def TX7 : u_T := fun k => match k with
  | 0 => ("RiverWage$Script", "code", "[I", false)
  | 1 => ("RiverWage$Script", "length", "I", false)
  | 2 => ("RiverWage$Script", "isThere", "[Z", true)
  | 3 => ("RiverWage$Script", "starts", "[I", true)
  | 4 => ("RiverWage$Script", "ends", "[I", true)
  | 5 => ("RiverWage$Script", "numbers", "[I", true)
  | _ => ("RiverWage$Script", "values", "[I", true)
def tyX7 : Nat → FieldType := fun k => match k with
  | 0 => .array .int
  | 1 => .int
  | 2 => .array .boolean
  | 3 => .array .int
  | 4 => .array .int
  | 5 => .array .int
  | _ => .array .int
theorem nmX7 : ∀ a, a < 7 → ∀ b, b < 7 → a ≠ b → (TX7 a).2.1 ≠ (TX7 b).2.1 := by decide +kernel
theorem tyX7_ok : ∀ k, k < 7 → parseFieldDescriptor (TX7 k).2.2.1 = some (tyX7 k) := by decide +kernel
def RX8 : String := "RiverWage$Sides"
def TX8 : u_T := fun k => match k with
  | 0 => ("RiverWage$Sides", "sideOf", "[I", true)
  | 1 => ("RiverWage$Sides", "changes", "[I", true)
  | 2 => ("RiverWage$Sides", "row", "[I", true)
  | 3 => ("RiverWage$Sides", "firstSums", "[I", true)
  | _ => ("RiverWage$Sides", "secondSums", "[I", true)
def tyX8 : Nat → FieldType := fun k => match k with
  | 0 => .array .int
  | 1 => .array .int
  | 2 => .array .int
  | 3 => .array .int
  | _ => .array .int
theorem nmX8 : ∀ a, a < 5 → ∀ b, b < 5 → a ≠ b → (TX8 a).2.1 ≠ (TX8 b).2.1 := by decide +kernel
theorem tyX8_ok : ∀ k, k < 5 → parseFieldDescriptor (TX8 k).2.2.1 = some (tyX8 k) := by decide +kernel
def RX9 : String := "RiverWage$Tokens"
def TX9 : u_T := fun k => match k with
  | 0 => ("RiverWage$Tokens", "signs", "[C", true)
  | 1 => ("RiverWage$Tokens", "length", "I", false)
  | 2 => ("RiverWage$Tokens", "start", "I", false)
  | 3 => ("RiverWage$Tokens", "end", "I", false)
  | 4 => ("RiverWage$Tokens", "kind", "I", false)
  | _ => ("RiverWage$Tokens", "value", "I", false)
def tyX9 : Nat → FieldType := fun k => match k with
  | 0 => .array .char
  | 1 => .int
  | 2 => .int
  | 3 => .int
  | 4 => .int
  | _ => .int
theorem nmX9 : ∀ a, a < 6 → ∀ b, b < 6 → a ≠ b → (TX9 a).2.1 ≠ (TX9 b).2.1 := by decide +kernel
theorem tyX9_ok : ∀ k, k < 6 → parseFieldDescriptor (TX9 k).2.2.1 = some (tyX9 k) := by decide +kernel
def RX10 : String := "RiverWage$World"
def TX10 : u_T := fun k => match k with
  | 0 => ("RiverWage$World", "roster", "LRiverWage$Roster;", true)
  | 1 => ("RiverWage$World", "calls", "LRiverWage$Ledger;", true)
  | 2 => ("RiverWage$World", "floors", "LRiverWage$Floors;", true)
  | 3 => ("RiverWage$World", "cells", "LRiverWage$Ledger;", true)
  | 4 => ("RiverWage$World", "facts", "[I", true)
  | _ => ("RiverWage$World", "g", "J", false)
def tyX10 : Nat → FieldType := fun k => match k with
  | 0 => .object "RiverWage$Roster"
  | 1 => .object "RiverWage$Ledger"
  | 2 => .object "RiverWage$Floors"
  | 3 => .object "RiverWage$Ledger"
  | 4 => .array .int
  | _ => .long
theorem nmX10 : ∀ a, a < 6 → ∀ b, b < 6 → a ≠ b → (TX10 a).2.1 ≠ (TX10 b).2.1 := by decide +kernel
theorem tyX10_ok : ∀ k, k < 6 → parseFieldDescriptor (TX10 k).2.2.1 = some (tyX10 k) := by decide +kernel
def RX11 : String := "RiverWage"
def TX11 : u_T := fun k => match k with
  | 0 => ("RiverWage", "roster", "LRiverWage$Roster;", true)
  | 1 => ("RiverWage", "floors", "LRiverWage$Floors;", true)
  | 2 => ("RiverWage", "calls", "LRiverWage$Ledger;", true)
  | 3 => ("RiverWage", "sheets", "LRiverWage$Ledger;", true)
  | 4 => ("RiverWage", "hours", "[I", true)
  | 5 => ("RiverWage", "takings", "[I", true)
  | 6 => ("RiverWage", "halfTenths", "I", false)
  | 7 => ("RiverWage", "sides", "LRiverWage$Sides;", true)
  | 8 => ("RiverWage", "answer", "LRiverWage$Fraction;", true)
  | 9 => ("RiverWage", "extreme", "LRiverWage$Fraction;", true)
  | 10 => ("RiverWage", "tape", "LRiverWage$Tokens;", true)
  | 11 => ("RiverWage", "lawReader", "LRiverWage$Reader;", true)
  | 12 => ("RiverWage", "writerReader", "LRiverWage$Reader;", true)
  | 13 => ("RiverWage", "draft", "LRiverWage$Script;", true)
  | 14 => ("RiverWage", "laws", "[LRiverWage$Script;", true)
  | 15 => ("RiverWage", "writers", "[LRiverWage$Script;", true)
  | 16 => ("RiverWage", "writerFacts", "[I", true)
  | 17 => ("RiverWage", "ran", "LRiverWage$World;", true)
  | 18 => ("RiverWage", "otherRivers", "LRiverWage$OtherRivers;", true)
  | _ => ("RiverWage", "marks", "[LRiverWage$Mark;", true)
def tyX11 : Nat → FieldType := fun k => match k with
  | 0 => .object "RiverWage$Roster"
  | 1 => .object "RiverWage$Floors"
  | 2 => .object "RiverWage$Ledger"
  | 3 => .object "RiverWage$Ledger"
  | 4 => .array .int
  | 5 => .array .int
  | 6 => .int
  | 7 => .object "RiverWage$Sides"
  | 8 => .object "RiverWage$Fraction"
  | 9 => .object "RiverWage$Fraction"
  | 10 => .object "RiverWage$Tokens"
  | 11 => .object "RiverWage$Reader"
  | 12 => .object "RiverWage$Reader"
  | 13 => .object "RiverWage$Script"
  | 14 => .array (.object "RiverWage$Script")
  | 15 => .array (.object "RiverWage$Script")
  | 16 => .array .int
  | 17 => .object "RiverWage$World"
  | 18 => .object "RiverWage$OtherRivers"
  | _ => .array (.object "RiverWage$Mark")
theorem nmX11 : ∀ a, a < 20 → ∀ b, b < 20 → a ≠ b → (TX11 a).2.1 ≠ (TX11 b).2.1 := by decide +kernel
theorem tyX11_ok : ∀ k, k < 20 → parseFieldDescriptor (TX11 k).2.2.1 = some (tyX11 k) := by decide +kernel
def RX12 : String := "RiverWageModel"
def TX12 : u_T := fun k => match k with
  | 0 => ("RiverWageModel", "thrown", "I", false)
  | 1 => ("RiverWageModel", "tape", "[I", true)
  | 2 => ("RiverWageModel", "taped", "I", false)
  | 3 => ("RiverWageModel", "size", "I", false)
  | 4 => ("RiverWageModel", "sort", "[I", true)
  | 5 => ("RiverWageModel", "place", "[I", true)
  | 6 => ("RiverWageModel", "value", "[J", true)
  | 7 => ("RiverWageModel", "at", "I", false)
  | 8 => ("RiverWageModel", "fault", "I", false)
  | 9 => ("RiverWageModel", "words", "[J", true)
  | 10 => ("RiverWageModel", "isTold", "[Z", true)
  | 11 => ("RiverWageModel", "bankOf", "[I", true)
  | 12 => ("RiverWageModel", "wage", "[I", true)
  | 13 => ("RiverWageModel", "most", "[I", true)
  | 14 => ("RiverWageModel", "isChosen", "[Z", true)
  | 15 => ("RiverWageModel", "ofTen", "I", false)
  | 16 => ("RiverWageModel", "floorOf", "[I", true)
  | 17 => ("RiverWageModel", "tradeOf", "[I", true)
  | 18 => ("RiverWageModel", "state", "[I", true)
  | 19 => ("RiverWageModel", "whole", "[I", true)
  | 20 => ("RiverWageModel", "half", "[I", true)
  | 21 => ("RiverWageModel", "isSheet", "[I", true)
  | 22 => ("RiverWageModel", "sheetWhole", "[I", true)
  | 23 => ("RiverWageModel", "sheetHalf", "[I", true)
  | 24 => ("RiverWageModel", "up", "J", false)
  | 25 => ("RiverWageModel", "down", "J", false)
  | 26 => ("RiverWageModel", "one", "J", false)
  | 27 => ("RiverWageModel", "oneMany", "J", false)
  | 28 => ("RiverWageModel", "other", "J", false)
  | 29 => ("RiverWageModel", "otherMany", "J", false)
  | 30 => ("RiverWageModel", "changes", "[I", true)
  | 31 => ("RiverWageModel", "lineAt", "[I", true)
  | 32 => ("RiverWageModel", "codes", "I", false)
  | 33 => ("RiverWageModel", "op", "[I", true)
  | 34 => ("RiverWageModel", "arg", "[I", true)
  | 35 => ("RiverWageModel", "writerFacts", "[I", true)
  | 36 => ("RiverWageModel", "facts", "[I", true)
  | 37 => ("RiverWageModel", "pile", "[I", true)
  | 38 => ("RiverWageModel", "worldWhole", "[I", true)
  | 39 => ("RiverWageModel", "worldHalf", "[I", true)
  | 40 => ("RiverWageModel", "worldShut", "[Z", true)
  | 41 => ("RiverWageModel", "riversMany", "I", false)
  | 42 => ("RiverWageModel", "sumThere", "[I", true)
  | 43 => ("RiverWageModel", "manyThere", "[I", true)
  | 44 => ("RiverWageModel", "isPrinted", "[Z", true)
  | 45 => ("RiverWageModel", "isWriter", "Z", false)
  | 46 => ("RiverWageModel", "takeAt", "[I", true)
  | 47 => ("RiverWageModel", "fromOf", "[I", true)
  | 48 => ("RiverWageModel", "toOf", "[I", true)
  | 49 => ("RiverWageModel", "tenthsOf", "[I", true)
  | 50 => ("RiverWageModel", "readOf", "[I", true)
  | 51 => ("RiverWageModel", "hoursOf", "[I", true)
  | 52 => ("RiverWageModel", "takings", "[I", true)
  | 53 => ("RiverWageModel", "lotOne", "[I", true)
  | 54 => ("RiverWageModel", "lotOther", "[I", true)
  | 55 => ("RiverWageModel", "isMarked", "[Z", true)
  | 56 => ("RiverWageModel", "markRivers", "[I", true)
  | _ => ("RiverWageModel", "kept", "[I", true)
def tyX12 : Nat → FieldType := fun k => match k with
  | 0 => .int
  | 1 => .array .int
  | 2 => .int
  | 3 => .int
  | 4 => .array .int
  | 5 => .array .int
  | 6 => .array .long
  | 7 => .int
  | 8 => .int
  | 9 => .array .long
  | 10 => .array .boolean
  | 11 => .array .int
  | 12 => .array .int
  | 13 => .array .int
  | 14 => .array .boolean
  | 15 => .int
  | 16 => .array .int
  | 17 => .array .int
  | 18 => .array .int
  | 19 => .array .int
  | 20 => .array .int
  | 21 => .array .int
  | 22 => .array .int
  | 23 => .array .int
  | 24 => .long
  | 25 => .long
  | 26 => .long
  | 27 => .long
  | 28 => .long
  | 29 => .long
  | 30 => .array .int
  | 31 => .array .int
  | 32 => .int
  | 33 => .array .int
  | 34 => .array .int
  | 35 => .array .int
  | 36 => .array .int
  | 37 => .array .int
  | 38 => .array .int
  | 39 => .array .int
  | 40 => .array .boolean
  | 41 => .int
  | 42 => .array .int
  | 43 => .array .int
  | 44 => .array .boolean
  | 45 => .boolean
  | 46 => .array .int
  | 47 => .array .int
  | 48 => .array .int
  | 49 => .array .int
  | 50 => .array .int
  | 51 => .array .int
  | 52 => .array .int
  | 53 => .array .int
  | 54 => .array .int
  | 55 => .array .boolean
  | 56 => .array .int
  | _ => .array .int
theorem nmX12 : ∀ a, a < 58 → ∀ b, b < 58 → a ≠ b → (TX12 a).2.1 ≠ (TX12 b).2.1 := by decide +kernel
theorem tyX12_ok : ∀ k, k < 58 → parseFieldDescriptor (TX12 k).2.2.1 = some (tyX12 k) := by decide +kernel
abbrev vwCl : List vw_C := [(RX0, TX0, 2), (RX1, TX1, 2), (RX2, TX2, 1), (RX3, TX3, 4), (RX4, TX4, 4), (RX5, TX5, 9), (RX6, TX6, 5), (RX7, TX7, 7), (RX8, TX8, 5), (RX9, TX9, 6), (RX10, TX10, 6), (RX11, TX11, 20), (RX12, TX12, 58)]

