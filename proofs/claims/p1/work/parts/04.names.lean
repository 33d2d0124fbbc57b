/-! Printed by wip/tools/names.py: names, fields, words. -/
def RX0 : String := "CallOpener$Best"
def TX0 : u_T := fun k => match k with
  | 0 => ("CallOpener$Best", "found", "I", false)
  | 1 => ("CallOpener$Best", "function", "[I", true)
  | 2 => ("CallOpener$Best", "owner", "[I", true)
  | 3 => ("CallOpener$Best", "adds", "[I", true)
  | 4 => ("CallOpener$Best", "heat", "[J", true)
  | 5 => ("CallOpener$Best", "gain", "[J", true)
  | 6 => ("CallOpener$Best", "branchSize", "[I", true)
  | 7 => ("CallOpener$Best", "nextPlace", "[I", true)
  | 8 => ("CallOpener$Best", "order", "[I", true)
  | 9 => ("CallOpener$Best", "table", "[J", true)
  | 10 => ("CallOpener$Best", "settings", "[I", true)
  | 11 => ("CallOpener$Best", "program", "LCallOpener$Program;", false)
  | _ => ("CallOpener$Best", "root", "I", false)
def tyX0 : Nat → FieldType := fun k => match k with
  | 0 => .int
  | 1 => .array .int
  | 2 => .array .int
  | 3 => .array .int
  | 4 => .array .long
  | 5 => .array .long
  | 6 => .array .int
  | 7 => .array .int
  | 8 => .array .int
  | 9 => .array .long
  | 10 => .array .int
  | 11 => .object "CallOpener$Program"
  | _ => .int
theorem nmX0 : ∀ a, a < 13 → ∀ b, b < 13 → a ≠ b → (TX0 a).2.1 ≠ (TX0 b).2.1 := by decide +kernel
theorem tyX0_ok : ∀ k, k < 13 → parseFieldDescriptor (TX0 k).2.2.1 = some (tyX0 k) := by decide +kernel
def RX1 : String := "CallOpener$Call"
def TX1 : u_T := fun k => match k with
  | 0 => ("CallOpener$Call", "site", "I", false)
  | 1 => ("CallOpener$Call", "function", "I", false)
  | 2 => ("CallOpener$Call", "owner", "I", false)
  | 3 => ("CallOpener$Call", "depth", "I", false)
  | 4 => ("CallOpener$Call", "openedAs", "I", false)
  | 5 => ("CallOpener$Call", "firstCall", "I", false)
  | 6 => ("CallOpener$Call", "stands", "Z", false)
  | 7 => ("CallOpener$Call", "tooOften", "Z", false)
  | 8 => ("CallOpener$Call", "heat", "J", false)
  | 9 => ("CallOpener$Call", "worth", "J", false)
  | 10 => ("CallOpener$Call", "gain", "J", false)
  | 11 => ("CallOpener$Call", "number", "I", false)
  | 12 => ("CallOpener$Call", "chainNodes", "I", false)
  | 13 => ("CallOpener$Call", "chainAdds", "I", false)
  | _ => ("CallOpener$Call", "chainGain", "J", false)
def tyX1 : Nat → FieldType := fun k => match k with
  | 0 => .int
  | 1 => .int
  | 2 => .int
  | 3 => .int
  | 4 => .int
  | 5 => .int
  | 6 => .boolean
  | 7 => .boolean
  | 8 => .long
  | 9 => .long
  | 10 => .long
  | 11 => .int
  | 12 => .int
  | 13 => .int
  | _ => .long
theorem nmX1 : ∀ a, a < 15 → ∀ b, b < 15 → a ≠ b → (TX1 a).2.1 ≠ (TX1 b).2.1 := by decide +kernel
theorem tyX1_ok : ∀ k, k < 15 → parseFieldDescriptor (TX1 k).2.2.1 = some (tyX1 k) := by decide +kernel
def RX2 : String := "CallOpener$Known"
def TX2 : u_T := fun k => match k with
  | 0 => ("CallOpener$Known", "answers", "[I", true)
  | 1 => ("CallOpener$Known", "numbers", "[J", true)
  | 2 => ("CallOpener$Known", "kept", "[J", true)
  | 3 => ("CallOpener$Known", "keptSize", "I", false)
  | 4 => ("CallOpener$Known", "blocks", "LCallOpener$Pile;", true)
  | 5 => ("CallOpener$Known", "variables", "I", false)
  | _ => ("CallOpener$Known", "at", "I", false)
def tyX2 : Nat → FieldType := fun k => match k with
  | 0 => .array .int
  | 1 => .array .long
  | 2 => .array .long
  | 3 => .int
  | 4 => .object "CallOpener$Pile"
  | 5 => .int
  | _ => .int
theorem nmX2 : ∀ a, a < 7 → ∀ b, b < 7 → a ≠ b → (TX2 a).2.1 ≠ (TX2 b).2.1 := by decide +kernel
theorem tyX2_ok : ∀ k, k < 7 → parseFieldDescriptor (TX2 k).2.2.1 = some (tyX2 k) := by decide +kernel
def RX3 : String := "CallOpener$Lines"
def TX3 : u_T := fun k => match k with
  | 0 => ("CallOpener$Lines", "kind", "[I", true)
  | 1 => ("CallOpener$Lines", "target", "[I", true)
  | 2 => ("CallOpener$Lines", "first", "[I", true)
  | 3 => ("CallOpener$Lines", "second", "[I", true)
  | 4 => ("CallOpener$Lines", "third", "[I", true)
  | 5 => ("CallOpener$Lines", "site", "[I", true)
  | 6 => ("CallOpener$Lines", "depth", "[I", true)
  | 7 => ("CallOpener$Lines", "branch", "[I", true)
  | 8 => ("CallOpener$Lines", "withElse", "[I", true)
  | 9 => ("CallOpener$Lines", "middle", "[I", true)
  | 10 => ("CallOpener$Lines", "end", "[I", true)
  | 11 => ("CallOpener$Lines", "around", "[I", true)
  | 12 => ("CallOpener$Lines", "lastAt", "[I", true)
  | _ => ("CallOpener$Lines", "size", "I", false)
def tyX3 : Nat → FieldType := fun k => match k with
  | 0 => .array .int
  | 1 => .array .int
  | 2 => .array .int
  | 3 => .array .int
  | 4 => .array .int
  | 5 => .array .int
  | 6 => .array .int
  | 7 => .array .int
  | 8 => .array .int
  | 9 => .array .int
  | 10 => .array .int
  | 11 => .array .int
  | 12 => .array .int
  | _ => .int
theorem nmX3 : ∀ a, a < 14 → ∀ b, b < 14 → a ≠ b → (TX3 a).2.1 ≠ (TX3 b).2.1 := by decide +kernel
theorem tyX3_ok : ∀ k, k < 14 → parseFieldDescriptor (TX3 k).2.2.1 = some (tyX3 k) := by decide +kernel
def RX4 : String := "CallOpener$Machine"
def TX4 : u_T := fun k => match k with
  | 0 => ("CallOpener$Machine", "answers", "[I", true)
  | 1 => ("CallOpener$Machine", "entered", "[I", true)
  | 2 => ("CallOpener$Machine", "done", "[I", true)
  | 3 => ("CallOpener$Machine", "values", "[I", true)
  | 4 => ("CallOpener$Machine", "blocks", "LCallOpener$Pile;", true)
  | 5 => ("CallOpener$Machine", "frames", "LCallOpener$Pile;", true)
  | 6 => ("CallOpener$Machine", "program", "LCallOpener$Program;", false)
  | 7 => ("CallOpener$Machine", "code", "LCallOpener$Lines;", false)
  | 8 => ("CallOpener$Machine", "outermost", "LCallOpener$Lines;", false)
  | 9 => ("CallOpener$Machine", "cost", "I", false)
  | 10 => ("CallOpener$Machine", "base", "I", false)
  | 11 => ("CallOpener$Machine", "top", "I", false)
  | 12 => ("CallOpener$Machine", "at", "I", false)
  | 13 => ("CallOpener$Machine", "limit", "I", false)
  | 14 => ("CallOpener$Machine", "floor", "I", false)
  | _ => ("CallOpener$Machine", "over", "Z", false)
def tyX4 : Nat → FieldType := fun k => match k with
  | 0 => .array .int
  | 1 => .array .int
  | 2 => .array .int
  | 3 => .array .int
  | 4 => .object "CallOpener$Pile"
  | 5 => .object "CallOpener$Pile"
  | 6 => .object "CallOpener$Program"
  | 7 => .object "CallOpener$Lines"
  | 8 => .object "CallOpener$Lines"
  | 9 => .int
  | 10 => .int
  | 11 => .int
  | 12 => .int
  | 13 => .int
  | 14 => .int
  | _ => .boolean
theorem nmX4 : ∀ a, a < 16 → ∀ b, b < 16 → a ≠ b → (TX4 a).2.1 ≠ (TX4 b).2.1 := by decide +kernel
theorem tyX4_ok : ∀ k, k < 16 → parseFieldDescriptor (TX4 k).2.2.1 = some (tyX4 k) := by decide +kernel
def RX5 : String := "CallOpener$Pile"
def TX5 : u_T := fun k => match k with
  | 0 => ("CallOpener$Pile", "a", "[I", true)
  | 1 => ("CallOpener$Pile", "b", "[I", true)
  | 2 => ("CallOpener$Pile", "c", "[I", true)
  | 3 => ("CallOpener$Pile", "d", "[I", true)
  | _ => ("CallOpener$Pile", "size", "I", false)
def tyX5 : Nat → FieldType := fun k => match k with
  | 0 => .array .int
  | 1 => .array .int
  | 2 => .array .int
  | 3 => .array .int
  | _ => .int
theorem nmX5 : ∀ a, a < 5 → ∀ b, b < 5 → a ≠ b → (TX5 a).2.1 ≠ (TX5 b).2.1 := by decide +kernel
theorem tyX5_ok : ∀ k, k < 5 → parseFieldDescriptor (TX5 k).2.2.1 = some (tyX5 k) := by decide +kernel
def RX6 : String := "CallOpener$Profile"
def TX6 : u_T := fun k => match k with
  | 0 => ("CallOpener$Profile", "entries", "[I", true)
  | _ => ("CallOpener$Profile", "counts", "[I", true)
def tyX6 : Nat → FieldType := fun k => match k with
  | 0 => .array .int
  | _ => .array .int
theorem nmX6 : ∀ a, a < 2 → ∀ b, b < 2 → a ≠ b → (TX6 a).2.1 ≠ (TX6 b).2.1 := by decide +kernel
theorem tyX6_ok : ∀ k, k < 2 → parseFieldDescriptor (TX6 k).2.2.1 = some (tyX6 k) := by decide +kernel
def RX7 : String := "CallOpener$Program"
def TX7 : u_T := fun k => match k with
  | 0 => ("CallOpener$Program", "functions", "I", false)
  | 1 => ("CallOpener$Program", "sites", "I", false)
  | 2 => ("CallOpener$Program", "name", "[I", true)
  | 3 => ("CallOpener$Program", "nameLength", "[I", true)
  | 4 => ("CallOpener$Program", "parameters", "[I", true)
  | 5 => ("CallOpener$Program", "variables", "[I", true)
  | 6 => ("CallOpener$Program", "firstLine", "[I", true)
  | 7 => ("CallOpener$Program", "lineCount", "[I", true)
  | 8 => ("CallOpener$Program", "firstSite", "[I", true)
  | 9 => ("CallOpener$Program", "siteCount", "[I", true)
  | 10 => ("CallOpener$Program", "given", "[I", true)
  | 11 => ("CallOpener$Program", "adds", "[I", true)
  | 12 => ("CallOpener$Program", "siteIn", "[I", true)
  | 13 => ("CallOpener$Program", "siteTo", "[I", true)
  | 14 => ("CallOpener$Program", "siteLine", "[I", true)
  | 15 => ("CallOpener$Program", "siteNumbers", "[I", true)
  | _ => ("CallOpener$Program", "lines", "LCallOpener$Lines;", true)
def tyX7 : Nat → FieldType := fun k => match k with
  | 0 => .int
  | 1 => .int
  | 2 => .array .int
  | 3 => .array .int
  | 4 => .array .int
  | 5 => .array .int
  | 6 => .array .int
  | 7 => .array .int
  | 8 => .array .int
  | 9 => .array .int
  | 10 => .array .int
  | 11 => .array .int
  | 12 => .array .int
  | 13 => .array .int
  | 14 => .array .int
  | 15 => .array .int
  | _ => .object "CallOpener$Lines"
theorem nmX7 : ∀ a, a < 17 → ∀ b, b < 17 → a ≠ b → (TX7 a).2.1 ≠ (TX7 b).2.1 := by decide +kernel
theorem tyX7_ok : ∀ k, k < 17 → parseFieldDescriptor (TX7 k).2.2.1 = some (tyX7 k) := by decide +kernel
def RX8 : String := "CallOpener$Reader"
def TX8 : u_T := fun k => match k with
  | 0 => ("CallOpener$Reader", "sorts", "[I", true)
  | 1 => ("CallOpener$Reader", "starts", "[I", true)
  | 2 => ("CallOpener$Reader", "values", "[I", true)
  | 3 => ("CallOpener$Reader", "tokens", "I", false)
  | 4 => ("CallOpener$Reader", "at", "I", false)
  | 5 => ("CallOpener$Reader", "operand", "I", false)
  | 6 => ("CallOpener$Reader", "fault", "I", false)
  | 7 => ("CallOpener$Reader", "place", "I", false)
  | 8 => ("CallOpener$Reader", "into", "LCallOpener$Program;", false)
  | 9 => ("CallOpener$Reader", "variables", "I", false)
  | 10 => ("CallOpener$Reader", "variableNames", "[I", true)
  | 11 => ("CallOpener$Reader", "calledNames", "[I", true)
  | 12 => ("CallOpener$Reader", "calledPlaces", "[I", true)
  | 13 => ("CallOpener$Reader", "calledOperands", "[I", true)
  | 14 => ("CallOpener$Reader", "depth", "I", false)
  | 15 => ("CallOpener$Reader", "openers", "[I", true)
  | _ => ("CallOpener$Reader", "branches", "[I", true)
def tyX8 : Nat → FieldType := fun k => match k with
  | 0 => .array .int
  | 1 => .array .int
  | 2 => .array .int
  | 3 => .int
  | 4 => .int
  | 5 => .int
  | 6 => .int
  | 7 => .int
  | 8 => .object "CallOpener$Program"
  | 9 => .int
  | 10 => .array .int
  | 11 => .array .int
  | 12 => .array .int
  | 13 => .array .int
  | 14 => .int
  | 15 => .array .int
  | _ => .array .int
theorem nmX8 : ∀ a, a < 17 → ∀ b, b < 17 → a ≠ b → (TX8 a).2.1 ≠ (TX8 b).2.1 := by decide +kernel
theorem tyX8_ok : ∀ k, k < 17 → parseFieldDescriptor (TX8 k).2.2.1 = some (tyX8 k) := by decide +kernel
def RX9 : String := "CallOpener$Result"
def TX9 : u_T := fun k => match k with
  | 0 => ("CallOpener$Result", "lines", "LCallOpener$Lines;", true)
  | 1 => ("CallOpener$Result", "variables", "I", false)
  | 2 => ("CallOpener$Result", "parameters", "I", false)
  | _ => ("CallOpener$Result", "program", "LCallOpener$Program;", false)
def tyX9 : Nat → FieldType := fun k => match k with
  | 0 => .object "CallOpener$Lines"
  | 1 => .int
  | 2 => .int
  | _ => .object "CallOpener$Program"
theorem nmX9 : ∀ a, a < 4 → ∀ b, b < 4 → a ≠ b → (TX9 a).2.1 ≠ (TX9 b).2.1 := by decide +kernel
theorem tyX9_ok : ∀ k, k < 4 → parseFieldDescriptor (TX9 k).2.2.1 = some (tyX9 k) := by decide +kernel
def RX10 : String := "CallOpener$Tree"
def TX10 : u_T := fun k => match k with
  | 0 => ("CallOpener$Tree", "calls", "[LCallOpener$Call;", true)
  | 1 => ("CallOpener$Tree", "nodes", "[I", true)
  | 2 => ("CallOpener$Tree", "left", "[I", true)
  | 3 => ("CallOpener$Tree", "nodeCount", "I", false)
  | 4 => ("CallOpener$Tree", "leftCount", "I", false)
  | 5 => ("CallOpener$Tree", "openedGain", "J", false)
  | 6 => ("CallOpener$Tree", "settings", "[I", true)
  | 7 => ("CallOpener$Tree", "program", "LCallOpener$Program;", false)
  | 8 => ("CallOpener$Tree", "made", "I", false)
  | 9 => ("CallOpener$Tree", "size", "I", false)
  | 10 => ("CallOpener$Tree", "openedCount", "I", false)
  | 11 => ("CallOpener$Tree", "undone", "I", false)
  | 12 => ("CallOpener$Tree", "chains", "I", false)
  | _ => ("CallOpener$Tree", "deepest", "I", false)
def tyX10 : Nat → FieldType := fun k => match k with
  | 0 => .array (.object "CallOpener$Call")
  | 1 => .array .int
  | 2 => .array .int
  | 3 => .int
  | 4 => .int
  | 5 => .long
  | 6 => .array .int
  | 7 => .object "CallOpener$Program"
  | 8 => .int
  | 9 => .int
  | 10 => .int
  | 11 => .int
  | 12 => .int
  | _ => .int
theorem nmX10 : ∀ a, a < 14 → ∀ b, b < 14 → a ≠ b → (TX10 a).2.1 ≠ (TX10 b).2.1 := by decide +kernel
theorem tyX10_ok : ∀ k, k < 14 → parseFieldDescriptor (TX10 k).2.2.1 = some (tyX10 k) := by decide +kernel
def RX11 : String := "CallOpener"
def TX11 : u_T := fun k => match k with
  | 0 => ("CallOpener", "tape", "[I", true)
  | 1 => ("CallOpener", "arguments", "[I", true)
  | 2 => ("CallOpener", "settings", "[I", true)
  | 3 => ("CallOpener", "otherSettings", "[I", true)
  | 4 => ("CallOpener", "profile", "LCallOpener$Profile;", true)
  | 5 => ("CallOpener", "reader", "LCallOpener$Reader;", true)
  | 6 => ("CallOpener", "machine", "LCallOpener$Machine;", true)
  | 7 => ("CallOpener", "grown", "LCallOpener$Tree;", true)
  | 8 => ("CallOpener", "written", "LCallOpener$Result;", true)
  | 9 => ("CallOpener", "known", "LCallOpener$Known;", true)
  | 10 => ("CallOpener", "chooser", "LCallOpener$Best;", true)
  | 11 => ("CallOpener", "told", "LCallOpener$Program;", false)
  | 12 => ("CallOpener", "spare", "LCallOpener$Program;", false)
  | 13 => ("CallOpener", "taped", "I", false)
  | 14 => ("CallOpener", "grownOf", "I", false)
  | _ => ("CallOpener", "writtenOf", "I", false)
def tyX11 : Nat → FieldType := fun k => match k with
  | 0 => .array .int
  | 1 => .array .int
  | 2 => .array .int
  | 3 => .array .int
  | 4 => .object "CallOpener$Profile"
  | 5 => .object "CallOpener$Reader"
  | 6 => .object "CallOpener$Machine"
  | 7 => .object "CallOpener$Tree"
  | 8 => .object "CallOpener$Result"
  | 9 => .object "CallOpener$Known"
  | 10 => .object "CallOpener$Best"
  | 11 => .object "CallOpener$Program"
  | 12 => .object "CallOpener$Program"
  | 13 => .int
  | 14 => .int
  | _ => .int
theorem nmX11 : ∀ a, a < 16 → ∀ b, b < 16 → a ≠ b → (TX11 a).2.1 ≠ (TX11 b).2.1 := by decide +kernel
theorem tyX11_ok : ∀ k, k < 16 → parseFieldDescriptor (TX11 k).2.2.1 = some (tyX11 k) := by decide +kernel
def RX12 : String := "CallOpenerModel"
def TX12 : u_T := fun k => match k with
  | 0 => ("CallOpenerModel", "tape", "[B", true)
  | 1 => ("CallOpenerModel", "taped", "I", false)
  | 2 => ("CallOpenerModel", "place0", "I", false)
  | 3 => ("CallOpenerModel", "length0", "I", false)
  | 4 => ("CallOpenerModel", "fault", "I", false)
  | 5 => ("CallOpenerModel", "token", "I", false)
  | 6 => ("CallOpenerModel", "begun", "I", false)
  | 7 => ("CallOpenerModel", "amount", "I", false)
  | 8 => ("CallOpenerModel", "sign", "I", false)
  | 9 => ("CallOpenerModel", "letters", "I", false)
  | 10 => ("CallOpenerModel", "word", "J", false)
  | 11 => ("CallOpenerModel", "bank", "I", false)
  | 12 => ("CallOpenerModel", "now", "I", false)
  | 13 => ("CallOpenerModel", "functions", "[I", true)
  | 14 => ("CallOpenerModel", "lines", "[I", true)
  | 15 => ("CallOpenerModel", "sites", "[I", true)
  | 16 => ("CallOpenerModel", "fName", "[J", true)
  | 17 => ("CallOpenerModel", "fParams", "[I", true)
  | 18 => ("CallOpenerModel", "fVars", "[I", true)
  | 19 => ("CallOpenerModel", "fFirst", "[I", true)
  | 20 => ("CallOpenerModel", "fMany", "[I", true)
  | 21 => ("CallOpenerModel", "fSite", "[I", true)
  | 22 => ("CallOpenerModel", "fSites", "[I", true)
  | 23 => ("CallOpenerModel", "fGives", "[Z", true)
  | 24 => ("CallOpenerModel", "lKind", "[I", true)
  | 25 => ("CallOpenerModel", "lX", "[I", true)
  | 26 => ("CallOpenerModel", "lA", "[I", true)
  | 27 => ("CallOpenerModel", "lB", "[I", true)
  | 28 => ("CallOpenerModel", "lC", "[I", true)
  | 29 => ("CallOpenerModel", "lCalled", "[I", true)
  | 30 => ("CallOpenerModel", "lSite", "[I", true)
  | 31 => ("CallOpenerModel", "lDeep", "[I", true)
  | 32 => ("CallOpenerModel", "lThen", "[I", true)
  | 33 => ("CallOpenerModel", "lElse", "[I", true)
  | 34 => ("CallOpenerModel", "lCall", "[I", true)
  | 35 => ("CallOpenerModel", "lHasElse", "[Z", true)
  | 36 => ("CallOpenerModel", "sLine", "[I", true)
  | 37 => ("CallOpenerModel", "sLoops", "[I", true)
  | 38 => ("CallOpenerModel", "sIfs", "[I", true)
  | 39 => ("CallOpenerModel", "sGiven", "[I", true)
  | 40 => ("CallOpenerModel", "sPlace", "[I", true)
  | 41 => ("CallOpenerModel", "sNumbers", "[I", true)
  | 42 => ("CallOpenerModel", "sIn", "[I", true)
  | 43 => ("CallOpenerModel", "sName", "[J", true)
  | 44 => ("CallOpenerModel", "varName", "[J", true)
  | 45 => ("CallOpenerModel", "owner", "[I", true)
  | 46 => ("CallOpenerModel", "isElse", "[Z", true)
  | 47 => ("CallOpenerModel", "blocks", "I", false)
  | 48 => ("CallOpenerModel", "operand", "I", false)
  | 49 => ("CallOpenerModel", "lies", "[I", true)
  | 50 => ("CallOpenerModel", "numberOf", "[I", true)
  | 51 => ("CallOpenerModel", "argument", "[I", true)
  | 52 => ("CallOpenerModel", "setting", "[I", true)
  | 53 => ("CallOpenerModel", "entries", "[I", true)
  | 54 => ("CallOpenerModel", "times", "[I", true)
  | 55 => ("CallOpenerModel", "ranEntries", "[I", true)
  | 56 => ("CallOpenerModel", "ranTimes", "[I", true)
  | 57 => ("CallOpenerModel", "rAt", "[I", true)
  | 58 => ("CallOpenerModel", "rEnd", "[I", true)
  | 59 => ("CallOpenerModel", "rBase", "[I", true)
  | 60 => ("CallOpenerModel", "rLine", "[I", true)
  | 61 => ("CallOpenerModel", "rBlock", "[I", true)
  | 62 => ("CallOpenerModel", "variables", "[I", true)
  | 63 => ("CallOpenerModel", "bFirst", "[I", true)
  | 64 => ("CallOpenerModel", "bLeft", "[I", true)
  | 65 => ("CallOpenerModel", "bEnd", "[I", true)
  | 66 => ("CallOpenerModel", "bBehind", "[I", true)
  | 67 => ("CallOpenerModel", "frames", "I", false)
  | 68 => ("CallOpenerModel", "open", "I", false)
  | 69 => ("CallOpenerModel", "based", "I", false)
  | 70 => ("CallOpenerModel", "steps", "I", false)
  | 71 => ("CallOpenerModel", "calls", "I", false)
  | 72 => ("CallOpenerModel", "mostFrames", "I", false)
  | 73 => ("CallOpenerModel", "stop", "I", false)
  | 74 => ("CallOpenerModel", "given", "I", false)
  | 75 => ("CallOpenerModel", "cUp", "[I", true)
  | 76 => ("CallOpenerModel", "cSite", "[I", true)
  | 77 => ("CallOpenerModel", "cFunction", "[I", true)
  | 78 => ("CallOpenerModel", "cDeep", "[I", true)
  | 79 => ("CallOpenerModel", "cOrder", "[I", true)
  | 80 => ("CallOpenerModel", "cFirst", "[I", true)
  | 81 => ("CallOpenerModel", "cAdds", "[I", true)
  | 82 => ("CallOpenerModel", "cNodes", "[I", true)
  | 83 => ("CallOpenerModel", "cHeat", "[J", true)
  | 84 => ("CallOpenerModel", "cGain", "[J", true)
  | 85 => ("CallOpenerModel", "cIs", "[Z", true)
  | 86 => ("CallOpenerModel", "callMany", "I", false)
  | 87 => ("CallOpenerModel", "opened", "I", false)
  | 88 => ("CallOpenerModel", "undone", "I", false)
  | 89 => ("CallOpenerModel", "chains", "I", false)
  | 90 => ("CallOpenerModel", "size", "I", false)
  | 91 => ("CallOpenerModel", "nodes", "[I", true)
  | 92 => ("CallOpenerModel", "numberAt", "[I", true)
  | 93 => ("CallOpenerModel", "waits", "[I", true)
  | 94 => ("CallOpenerModel", "nodeMany", "I", false)
  | 95 => ("CallOpenerModel", "nNode", "[I", true)
  | 96 => ("CallOpenerModel", "nAt", "[I", true)
  | 97 => ("CallOpenerModel", "nEnd", "[I", true)
  | 98 => ("CallOpenerModel", "nBase", "[I", true)
  | 99 => ("CallOpenerModel", "nDeep", "[I", true)
  | 100 => ("CallOpenerModel", "nCall", "[I", true)
  | 101 => ("CallOpenerModel", "nBlock", "[I", true)
  | 102 => ("CallOpenerModel", "oLine", "[I", true)
  | 103 => ("CallOpenerModel", "oOf", "[I", true)
  | 104 => ("CallOpenerModel", "oEnd", "[I", true)
  | 105 => ("CallOpenerModel", "leftCall", "[I", true)
  | 106 => ("CallOpenerModel", "oElse", "[Z", true)
  | 107 => ("CallOpenerModel", "nested", "I", false)
  | 108 => ("CallOpenerModel", "openMany", "I", false)
  | 109 => ("CallOpenerModel", "lastLine", "I", false)
  | 110 => ("CallOpenerModel", "resultVars", "I", false)
  | 111 => ("CallOpenerModel", "leftMany", "I", false)
  | 112 => ("CallOpenerModel", "isKnown", "[Z", true)
  | 113 => ("CallOpenerModel", "known", "[I", true)
  | 114 => ("CallOpenerModel", "trailVar", "[I", true)
  | 115 => ("CallOpenerModel", "trailNumber", "[I", true)
  | 116 => ("CallOpenerModel", "keptVar", "[I", true)
  | 117 => ("CallOpenerModel", "keptNumber", "[I", true)
  | 118 => ("CallOpenerModel", "kSort", "[I", true)
  | 119 => ("CallOpenerModel", "kLine", "[I", true)
  | 120 => ("CallOpenerModel", "kEnd", "[I", true)
  | 121 => ("CallOpenerModel", "kTrail", "[I", true)
  | 122 => ("CallOpenerModel", "kKept", "[I", true)
  | 123 => ("CallOpenerModel", "trailKnown", "[Z", true)
  | 124 => ("CallOpenerModel", "keptKnown", "[Z", true)
  | 125 => ("CallOpenerModel", "isSeen", "[Z", true)
  | 126 => ("CallOpenerModel", "trail", "I", false)
  | 127 => ("CallOpenerModel", "kept", "I", false)
  | 128 => ("CallOpenerModel", "gone", "I", false)
  | 129 => ("CallOpenerModel", "folds", "I", false)
  | 130 => ("CallOpenerModel", "decided", "I", false)
  | 131 => ("CallOpenerModel", "never", "I", false)
  | 132 => ("CallOpenerModel", "atLine", "I", false)
  | 133 => ("CallOpenerModel", "mostBy", "[J", true)
  | 134 => ("CallOpenerModel", "mixed", "[J", true)
  | 135 => ("CallOpenerModel", "qUp", "[I", true)
  | 136 => ("CallOpenerModel", "qFunction", "[I", true)
  | 137 => ("CallOpenerModel", "qHeat", "[J", true)
  | _ => ("CallOpenerModel", "found", "I", false)
def tyX12 : Nat → FieldType := fun k => match k with
  | 0 => .array .byte
  | 1 => .int
  | 2 => .int
  | 3 => .int
  | 4 => .int
  | 5 => .int
  | 6 => .int
  | 7 => .int
  | 8 => .int
  | 9 => .int
  | 10 => .long
  | 11 => .int
  | 12 => .int
  | 13 => .array .int
  | 14 => .array .int
  | 15 => .array .int
  | 16 => .array .long
  | 17 => .array .int
  | 18 => .array .int
  | 19 => .array .int
  | 20 => .array .int
  | 21 => .array .int
  | 22 => .array .int
  | 23 => .array .boolean
  | 24 => .array .int
  | 25 => .array .int
  | 26 => .array .int
  | 27 => .array .int
  | 28 => .array .int
  | 29 => .array .int
  | 30 => .array .int
  | 31 => .array .int
  | 32 => .array .int
  | 33 => .array .int
  | 34 => .array .int
  | 35 => .array .boolean
  | 36 => .array .int
  | 37 => .array .int
  | 38 => .array .int
  | 39 => .array .int
  | 40 => .array .int
  | 41 => .array .int
  | 42 => .array .int
  | 43 => .array .long
  | 44 => .array .long
  | 45 => .array .int
  | 46 => .array .boolean
  | 47 => .int
  | 48 => .int
  | 49 => .array .int
  | 50 => .array .int
  | 51 => .array .int
  | 52 => .array .int
  | 53 => .array .int
  | 54 => .array .int
  | 55 => .array .int
  | 56 => .array .int
  | 57 => .array .int
  | 58 => .array .int
  | 59 => .array .int
  | 60 => .array .int
  | 61 => .array .int
  | 62 => .array .int
  | 63 => .array .int
  | 64 => .array .int
  | 65 => .array .int
  | 66 => .array .int
  | 67 => .int
  | 68 => .int
  | 69 => .int
  | 70 => .int
  | 71 => .int
  | 72 => .int
  | 73 => .int
  | 74 => .int
  | 75 => .array .int
  | 76 => .array .int
  | 77 => .array .int
  | 78 => .array .int
  | 79 => .array .int
  | 80 => .array .int
  | 81 => .array .int
  | 82 => .array .int
  | 83 => .array .long
  | 84 => .array .long
  | 85 => .array .boolean
  | 86 => .int
  | 87 => .int
  | 88 => .int
  | 89 => .int
  | 90 => .int
  | 91 => .array .int
  | 92 => .array .int
  | 93 => .array .int
  | 94 => .int
  | 95 => .array .int
  | 96 => .array .int
  | 97 => .array .int
  | 98 => .array .int
  | 99 => .array .int
  | 100 => .array .int
  | 101 => .array .int
  | 102 => .array .int
  | 103 => .array .int
  | 104 => .array .int
  | 105 => .array .int
  | 106 => .array .boolean
  | 107 => .int
  | 108 => .int
  | 109 => .int
  | 110 => .int
  | 111 => .int
  | 112 => .array .boolean
  | 113 => .array .int
  | 114 => .array .int
  | 115 => .array .int
  | 116 => .array .int
  | 117 => .array .int
  | 118 => .array .int
  | 119 => .array .int
  | 120 => .array .int
  | 121 => .array .int
  | 122 => .array .int
  | 123 => .array .boolean
  | 124 => .array .boolean
  | 125 => .array .boolean
  | 126 => .int
  | 127 => .int
  | 128 => .int
  | 129 => .int
  | 130 => .int
  | 131 => .int
  | 132 => .int
  | 133 => .array .long
  | 134 => .array .long
  | 135 => .array .int
  | 136 => .array .int
  | 137 => .array .long
  | _ => .int
theorem nmX12 : ∀ a, a < 139 → ∀ b, b < 139 → a ≠ b → (TX12 a).2.1 ≠ (TX12 b).2.1 := by decide +kernel
theorem tyX12_ok : ∀ k, k < 139 → parseFieldDescriptor (TX12 k).2.2.1 = some (tyX12 k) := by decide +kernel
abbrev zcls : List vw_C := [(RX0, TX0, 13), (RX1, TX1, 15), (RX2, TX2, 7), (RX3, TX3, 14), (RX4, TX4, 16), (RX5, TX5, 5), (RX6, TX6, 2), (RX7, TX7, 17), (RX8, TX8, 17), (RX9, TX9, 4), (RX10, TX10, 14), (RX11, TX11, 16), (RX12, TX12, 139)]
def zftL : List (List Nat) := [[0, 8, 8, 8, 8, 8, 8, 8, 8, 8, 8, 9, 0],
  [0, 0, 0, 0, 0, 0, 1, 1, 2, 2, 2, 0, 0, 0, 2],
  [8, 8, 8, 0, 8, 0, 0],
  [8, 8, 8, 8, 8, 8, 8, 8, 8, 8, 8, 8, 8, 0],
  [8, 8, 8, 8, 8, 8, 9, 9, 9, 0, 0, 0, 0, 0, 0, 1],
  [8, 8, 8, 8, 0],
  [8, 8],
  [0, 0, 8, 8, 8, 8, 8, 8, 8, 8, 8, 8, 8, 8, 8, 8, 8],
  [8, 8, 8, 0, 0, 0, 0, 0, 9, 0, 8, 8, 8, 8, 0, 8, 8],
  [8, 0, 0, 9],
  [8, 8, 8, 0, 0, 2, 8, 9, 0, 0, 0, 0, 0, 0],
  [8, 8, 8, 8, 8, 8, 8, 8, 8, 8, 8, 9, 9, 0, 0, 0],
  [8, 0, 0, 0, 0, 0, 0, 0, 0, 0, 2, 0, 0, 8, 8, 8, 8, 8, 8, 8, 8, 8, 8, 8, 8, 8, 8, 8, 8, 8, 8, 8, 8, 8, 8, 8, 8, 8, 8, 8, 8, 8, 8, 8, 8, 8, 8, 0, 0, 8, 8, 8, 8, 8, 8, 8, 8, 8, 8, 8, 8, 8, 8, 8, 8, 8, 8, 0, 0, 0, 0, 0, 0, 0, 0, 8, 8, 8, 8, 8, 8, 8, 8, 8, 8, 8, 0, 0, 0, 0, 0, 8, 8, 8, 0, 8, 8, 8, 8, 8, 8, 8, 8, 8, 8, 8, 8, 0, 0, 0, 0, 0, 8, 8, 8, 8, 8, 8, 8, 8, 8, 8, 8, 8, 8, 8, 0, 0, 0, 0, 0, 0, 0, 8, 8, 8, 8, 8, 0]]
def zfty (ci k : Nat) : Nat := (zftL.getD ci []).getD k 0
def zfn (ci : Nat) : Nat := (zftL.getD ci []).length
def zwd : List Cond := lw_tbl.filter goodWord
theorem zwd_in {w : Cond} (i : Nat) (h : lw_tbl[i]? = some w) (hg : goodWord w = true) : w ∈ zwd := List.mem_filter.mpr ⟨List.mem_of_getElem? h, hg⟩
theorem zwd_tbl {w : Cond} (h : w ∈ zwd) : w ∈ lw_tbl := (List.mem_filter.mp h).1
theorem zwd_good : ∀ w ∈ zwd, (w.onTables && w.keeps) = true ∨ ∃ ty, w = .arrayClass ty := fun _ h => good_of_word (List.mem_filter.mp h).2
theorem zwd_good2 {big : List Cond} (h : ∀ w ∈ zwd, w ∈ big) : GoodIn big zwd := fun w hw => ⟨h w hw, zwd_good w hw⟩
def plX0 : List Nat := [779, 781, 783, 785, 787, 789, 791, 793, 795, 797, 799, 801, 803]
set_option maxRecDepth 100000 in
theorem pwX0 : ∀ k, k < 13 → lw_tbl[plX0.getD k 0]? = some (u_lay RX0 TX0 k) ∧ goodWord (u_lay RX0 TX0 k) = true := by decide +kernel
theorem inX0 : ∀ w ∈ u_ws RX0 TX0 13, w ∈ zwd := fun w h => by
  obtain ⟨k, hk, rfl⟩ := List.mem_map.mp h
  exact zwd_in _ (pwX0 k (List.mem_range.mp hk)).1 (pwX0 k (List.mem_range.mp hk)).2
def plX1 : List Nat := [650, 652, 654, 656, 658, 660, 662, 664, 666, 668, 670, 672, 674, 676, 678]
set_option maxRecDepth 100000 in
theorem pwX1 : ∀ k, k < 15 → lw_tbl[plX1.getD k 0]? = some (u_lay RX1 TX1 k) ∧ goodWord (u_lay RX1 TX1 k) = true := by decide +kernel
theorem inX1 : ∀ w ∈ u_ws RX1 TX1 15, w ∈ zwd := fun w h => by
  obtain ⟨k, hk, rfl⟩ := List.mem_map.mp h
  exact zwd_in _ (pwX1 k (List.mem_range.mp hk)).1 (pwX1 k (List.mem_range.mp hk)).2
def plX2 : List Nat := [267, 269, 271, 273, 275, 277, 279]
set_option maxRecDepth 100000 in
theorem pwX2 : ∀ k, k < 7 → lw_tbl[plX2.getD k 0]? = some (u_lay RX2 TX2 k) ∧ goodWord (u_lay RX2 TX2 k) = true := by decide +kernel
theorem inX2 : ∀ w ∈ u_ws RX2 TX2 7, w ∈ zwd := fun w h => by
  obtain ⟨k, hk, rfl⟩ := List.mem_map.mp h
  exact zwd_in _ (pwX2 k (List.mem_range.mp hk)).1 (pwX2 k (List.mem_range.mp hk)).2
def plX3 : List Nat := [350, 352, 354, 356, 358, 360, 362, 364, 366, 368, 370, 372, 374, 376]
set_option maxRecDepth 100000 in
theorem pwX3 : ∀ k, k < 14 → lw_tbl[plX3.getD k 0]? = some (u_lay RX3 TX3 k) ∧ goodWord (u_lay RX3 TX3 k) = true := by decide +kernel
theorem inX3 : ∀ w ∈ u_ws RX3 TX3 14, w ∈ zwd := fun w h => by
  obtain ⟨k, hk, rfl⟩ := List.mem_map.mp h
  exact zwd_in _ (pwX3 k (List.mem_range.mp hk)).1 (pwX3 k (List.mem_range.mp hk)).2
def plX4 : List Nat := [570, 572, 574, 576, 578, 580, 582, 584, 586, 588, 590, 592, 594, 596, 598, 600]
set_option maxRecDepth 100000 in
theorem pwX4 : ∀ k, k < 16 → lw_tbl[plX4.getD k 0]? = some (u_lay RX4 TX4 k) ∧ goodWord (u_lay RX4 TX4 k) = true := by decide +kernel
theorem inX4 : ∀ w ∈ u_ws RX4 TX4 16, w ∈ zwd := fun w h => by
  obtain ⟨k, hk, rfl⟩ := List.mem_map.mp h
  exact zwd_in _ (pwX4 k (List.mem_range.mp hk)).1 (pwX4 k (List.mem_range.mp hk)).2
def plX5 : List Nat := [247, 249, 251, 253, 255]
set_option maxRecDepth 100000 in
theorem pwX5 : ∀ k, k < 5 → lw_tbl[plX5.getD k 0]? = some (u_lay RX5 TX5 k) ∧ goodWord (u_lay RX5 TX5 k) = true := by decide +kernel
theorem inX5 : ∀ w ∈ u_ws RX5 TX5 5, w ∈ zwd := fun w h => by
  obtain ⟨k, hk, rfl⟩ := List.mem_map.mp h
  exact zwd_in _ (pwX5 k (List.mem_range.mp hk)).1 (pwX5 k (List.mem_range.mp hk)).2
def plX6 : List Nat := [215, 217]
set_option maxRecDepth 100000 in
theorem pwX6 : ∀ k, k < 2 → lw_tbl[plX6.getD k 0]? = some (u_lay RX6 TX6 k) ∧ goodWord (u_lay RX6 TX6 k) = true := by decide +kernel
theorem inX6 : ∀ w ∈ u_ws RX6 TX6 2, w ∈ zwd := fun w h => by
  obtain ⟨k, hk, rfl⟩ := List.mem_map.mp h
  exact zwd_in _ (pwX6 k (List.mem_range.mp hk)).1 (pwX6 k (List.mem_range.mp hk)).2
def plX7 : List Nat := [450, 452, 454, 456, 458, 460, 462, 464, 466, 468, 470, 472, 474, 476, 478, 480, 482]
set_option maxRecDepth 100000 in
theorem pwX7 : ∀ k, k < 17 → lw_tbl[plX7.getD k 0]? = some (u_lay RX7 TX7 k) ∧ goodWord (u_lay RX7 TX7 k) = true := by decide +kernel
theorem inX7 : ∀ w ∈ u_ws RX7 TX7 17, w ∈ zwd := fun w h => by
  obtain ⟨k, hk, rfl⟩ := List.mem_map.mp h
  exact zwd_in _ (pwX7 k (List.mem_range.mp hk)).1 (pwX7 k (List.mem_range.mp hk)).2
def plX8 : List Nat := [508, 510, 512, 514, 516, 518, 520, 522, 524, 526, 528, 530, 532, 534, 536, 538, 540]
set_option maxRecDepth 100000 in
theorem pwX8 : ∀ k, k < 17 → lw_tbl[plX8.getD k 0]? = some (u_lay RX8 TX8 k) ∧ goodWord (u_lay RX8 TX8 k) = true := by decide +kernel
theorem inX8 : ∀ w ∈ u_ws RX8 TX8 17, w ∈ zwd := fun w h => by
  obtain ⟨k, hk, rfl⟩ := List.mem_map.mp h
  exact zwd_in _ (pwX8 k (List.mem_range.mp hk)).1 (pwX8 k (List.mem_range.mp hk)).2
def plX9 : List Nat := [749, 751, 753, 755]
set_option maxRecDepth 100000 in
theorem pwX9 : ∀ k, k < 4 → lw_tbl[plX9.getD k 0]? = some (u_lay RX9 TX9 k) ∧ goodWord (u_lay RX9 TX9 k) = true := by decide +kernel
theorem inX9 : ∀ w ∈ u_ws RX9 TX9 4, w ∈ zwd := fun w h => by
  obtain ⟨k, hk, rfl⟩ := List.mem_map.mp h
  exact zwd_in _ (pwX9 k (List.mem_range.mp hk)).1 (pwX9 k (List.mem_range.mp hk)).2
def plX10 : List Nat := [702, 704, 706, 708, 710, 712, 714, 716, 718, 720, 722, 724, 726, 728]
set_option maxRecDepth 100000 in
theorem pwX10 : ∀ k, k < 14 → lw_tbl[plX10.getD k 0]? = some (u_lay RX10 TX10 k) ∧ goodWord (u_lay RX10 TX10 k) = true := by decide +kernel
theorem inX10 : ∀ w ∈ u_ws RX10 TX10 14, w ∈ zwd := fun w h => by
  obtain ⟨k, hk, rfl⟩ := List.mem_map.mp h
  exact zwd_in _ (pwX10 k (List.mem_range.mp hk)).1 (pwX10 k (List.mem_range.mp hk)).2
def plX11 : List Nat := [822, 824, 826, 828, 830, 832, 834, 836, 838, 840, 842, 844, 846, 848, 850, 852]
set_option maxRecDepth 100000 in
theorem pwX11 : ∀ k, k < 16 → lw_tbl[plX11.getD k 0]? = some (u_lay RX11 TX11 k) ∧ goodWord (u_lay RX11 TX11 k) = true := by decide +kernel
theorem inX11 : ∀ w ∈ u_ws RX11 TX11 16, w ∈ zwd := fun w h => by
  obtain ⟨k, hk, rfl⟩ := List.mem_map.mp h
  exact zwd_in _ (pwX11 k (List.mem_range.mp hk)).1 (pwX11 k (List.mem_range.mp hk)).2
def plX12 : List Nat := [1681, 1683, 1685, 1687, 1689, 1691, 1693, 1695, 1697, 1699, 1701, 1703, 1705, 1707, 1709, 1711, 1713, 1715, 1717, 1719, 1721, 1723, 1725, 1727, 1729, 1731, 1733, 1735, 1737, 1739, 1741, 1743, 1745, 1747, 1749, 1751, 1753, 1755, 1757, 1759, 1761, 1763, 1765, 1767, 1769, 1771, 1773, 1775, 1777, 1779, 1781, 1783, 1785, 1787, 1789, 1791, 1793, 1795, 1797, 1799, 1801, 1803, 1805, 1807, 1809, 1811, 1813, 1815, 1817, 1819, 1821, 1823, 1825, 1827, 1829, 1831, 1833, 1835, 1837, 1839, 1841, 1843, 1845, 1847, 1849, 1851, 1853, 1855, 1857, 1859, 1861, 1863, 1865, 1867, 1869, 1871, 1873, 1875, 1877, 1879, 1881, 1883, 1885, 1887, 1889, 1891, 1893, 1895, 1897, 1899, 1901, 1903, 1905, 1907, 1909, 1911, 1913, 1915, 1917, 1919, 1921, 1923, 1925, 1927, 1929, 1931, 1933, 1935, 1937, 1939, 1941, 1943, 1945, 1947, 1949, 1951, 1953, 1955, 1957]
set_option maxRecDepth 100000 in
theorem pwX12 : ∀ k, k < 139 → lw_tbl[plX12.getD k 0]? = some (u_lay RX12 TX12 k) ∧ goodWord (u_lay RX12 TX12 k) = true := by decide +kernel
theorem inX12 : ∀ w ∈ u_ws RX12 TX12 139, w ∈ zwd := fun w h => by
  obtain ⟨k, hk, rfl⟩ := List.mem_map.mp h
  exact zwd_in _ (pwX12 k (List.mem_range.mp hk)).1 (pwX12 k (List.mem_range.mp hk)).2
def zynL : List (List MethodName) := [[⟨"CallOpenerLaw", "law", "([I)Z"⟩, ⟨"CallOpener", "<init>", "()V"⟩, ⟨"CallOpener", "feed", "(IIIII)I"⟩, ⟨"CallOpener", "program", "(I)I"⟩, ⟨"CallOpener", "count", "(I)I"⟩, ⟨"CallOpener", "function", "(II)I"⟩, ⟨"CallOpener", "site", "(II)I"⟩, ⟨"CallOpener", "argument", "(II)I"⟩, ⟨"CallOpener", "run", "(II)I"⟩, ⟨"CallOpener", "counted", "(I)I"⟩, ⟨"CallOpener", "forget", "()I"⟩, ⟨"CallOpener", "set", "(II)I"⟩, ⟨"CallOpener", "tree", "(II)I"⟩, ⟨"CallOpener", "gain", "(IZ)J"⟩, ⟨"CallOpener", "node", "(III)I"⟩, ⟨"CallOpener", "worth", "(III)J"⟩],
  [⟨"CallOpener", "opened", "(II)I"⟩, ⟨"CallOpener", "result", "(II)I"⟩, ⟨"CallOpener", "line", "(III)I"⟩, ⟨"CallOpener", "after", "(II)I"⟩, ⟨"CallOpener", "saved", "(I)I"⟩, ⟨"CallOpener", "folded", "(II)I"⟩, ⟨"CallOpener", "best", "(III)J"⟩, ⟨"CallOpener", "would", "(IIII)I"⟩, ⟨"CallOpener", "left", "(III)I"⟩, ⟨"CallOpener", "swap", "(II)I"⟩, ⟨"CallOpener", "putBytes", "(I)V"⟩, ⟨"CallOpener", "isFunction", "(I)Z"⟩, ⟨"CallOpener", "isSite", "(I)Z"⟩, ⟨"CallOpener", "isSetting", "(II)Z"⟩, ⟨"CallOpener", "outdate", "()V"⟩, ⟨"CallOpener", "growTree", "(I)Z"⟩],
  [⟨"CallOpener", "writeResult", "()V"⟩, ⟨"CallOpener", "exchange", "([III)V"⟩, ⟨"CallOpener", "isVariable", "(I)Z"⟩, ⟨"CallOpener", "workOut", "(III)I"⟩, ⟨"CallOpenerModel", "<init>", "()V"⟩, ⟨"CallOpenerModel", "in", "(III)Z"⟩, ⟨"CallOpenerModel", "max", "(II)I"⟩, ⟨"CallOpenerModel", "typed4", "(I)V"⟩, ⟨"CallOpenerModel", "feed", "(IIIII)I"⟩, ⟨"CallOpenerModel", "here", "()I"⟩, ⟨"CallOpenerModel", "isSignByte", "(I)Z"⟩, ⟨"CallOpenerModel", "next", "()V"⟩, ⟨"CallOpenerModel", "wrongAt", "(II)Z"⟩, ⟨"CallOpenerModel", "wrong", "(I)Z"⟩, ⟨"CallOpenerModel", "isWord", "(J)Z"⟩, ⟨"CallOpenerModel", "isSign", "(I)Z"⟩],
  [⟨"CallOpenerModel", "isOwn", "()Z"⟩, ⟨"CallOpenerModel", "takesSign", "(I)Z"⟩, ⟨"CallOpenerModel", "isName", "()Z"⟩, ⟨"CallOpenerModel", "f", "()I"⟩, ⟨"CallOpenerModel", "variable", "(JI)I"⟩, ⟨"CallOpenerModel", "readsOperand", "()Z"⟩, ⟨"CallOpenerModel", "readsParameter", "()Z"⟩, ⟨"CallOpenerModel", "readsHead", "()Z"⟩, ⟨"CallOpenerModel", "opens", "(IZ)Z"⟩, ⟨"CallOpenerModel", "laysLine", "(III)V"⟩, ⟨"CallOpenerModel", "begins", "(I)I"⟩, ⟨"CallOpenerModel", "readsCall", "(IJI)Z"⟩, ⟨"CallOpenerModel", "signOp", "()I"⟩, ⟨"CallOpenerModel", "readsValue", "(I)Z"⟩, ⟨"CallOpenerModel", "readsLine", "()Z"⟩, ⟨"CallOpenerModel", "closes", "()Z"⟩],
  [⟨"CallOpenerModel", "reads", "()Z"⟩, ⟨"CallOpenerModel", "finds", "()Z"⟩, ⟨"CallOpenerModel", "program", "(I)I"⟩, ⟨"CallOpenerModel", "laysNumbers", "()V"⟩, ⟨"CallOpenerModel", "isFunction", "(I)Z"⟩, ⟨"CallOpenerModel", "at", "(I)I"⟩, ⟨"CallOpenerModel", "swap", "(II)I"⟩, ⟨"CallOpenerModel", "first", "(I)I"⟩, ⟨"CallOpenerModel", "manyOf", "(I)I"⟩, ⟨"CallOpenerModel", "varsOf", "(I)I"⟩, ⟨"CallOpenerModel", "paramsOf", "(I)I"⟩, ⟨"CallOpenerModel", "isGiving", "(I)Z"⟩, ⟨"CallOpenerModel", "addsOf", "(I)I"⟩, ⟨"CallOpenerModel", "enters", "(IIII)V"⟩, ⟨"CallOpenerModel", "valueOf", "(I)I"⟩, ⟨"CallOpenerModel", "leaves", "(I)V"⟩],
  [⟨"CallOpenerModel", "worked", "(III)I"⟩, ⟨"CallOpenerModel", "opensBlock", "(IIII)V"⟩, ⟨"CallOpenerModel", "goesInto", "(I)V"⟩, ⟨"CallOpenerModel", "does", "(I)V"⟩, ⟨"CallOpenerModel", "runs", "(IIII)V"⟩, ⟨"CallOpenerModel", "ran", "(I)I"⟩, ⟨"CallOpenerModel", "runsOf", "(I)V"⟩, ⟨"CallOpenerModel", "run", "(II)I"⟩, ⟨"CallOpenerModel", "counted", "(I)I"⟩, ⟨"CallOpenerModel", "allEntries", "()I"⟩, ⟨"CallOpenerModel", "allTimes", "()I"⟩, ⟨"CallOpenerModel", "forget", "()I"⟩, ⟨"CallOpenerModel", "argument", "(II)I"⟩, ⟨"CallOpenerModel", "isSetting", "(II)Z"⟩, ⟨"CallOpenerModel", "set", "(II)I"⟩, ⟨"CallOpenerModel", "ownGain", "(I)J"⟩],
  [⟨"CallOpenerModel", "worthOf", "(I)J"⟩, ⟨"CallOpenerModel", "heatOf", "(JII)J"⟩, ⟨"CallOpenerModel", "laysCalls", "(I)V"⟩, ⟨"CallOpenerModel", "isRecursive", "(I)Z"⟩, ⟨"CallOpenerModel", "isAhead", "(II)Z"⟩, ⟨"CallOpenerModel", "isWorthier", "(II)Z"⟩, ⟨"CallOpenerModel", "worthiest", "()I"⟩, ⟨"CallOpenerModel", "grows", "(I)V"⟩, ⟨"CallOpenerModel", "undoes", "()V"⟩, ⟨"CallOpenerModel", "laysTree", "(I)V"⟩, ⟨"CallOpenerModel", "deepest", "()I"⟩, ⟨"CallOpenerModel", "callsLeft", "()I"⟩, ⟨"CallOpenerModel", "treeOf", "(II)I"⟩, ⟨"CallOpenerModel", "tree", "(II)I"⟩, ⟨"CallOpenerModel", "would", "(IIII)I"⟩, ⟨"CallOpenerModel", "gain", "(IZ)J"⟩],
  [⟨"CallOpenerModel", "node", "(III)I"⟩, ⟨"CallOpenerModel", "worth", "(III)J"⟩, ⟨"CallOpenerModel", "opened", "(II)I"⟩, ⟨"CallOpenerModel", "laid", "(II)I"⟩, ⟨"CallOpenerModel", "lays", "(II)I"⟩, ⟨"CallOpenerModel", "moves", "(III)V"⟩, ⟨"CallOpenerModel", "goesIntoNode", "(III)V"⟩, ⟨"CallOpenerModel", "endsNode", "(I)V"⟩, ⟨"CallOpenerModel", "copies", "(I)V"⟩, ⟨"CallOpenerModel", "endsBlock", "()V"⟩, ⟨"CallOpenerModel", "laysResult", "(I)V"⟩, ⟨"CallOpenerModel", "resultLines", "()I"⟩, ⟨"CallOpenerModel", "result", "(II)I"⟩, ⟨"CallOpenerModel", "line", "(III)I"⟩, ⟨"CallOpenerModel", "runsResult", "(I)V"⟩, ⟨"CallOpenerModel", "after", "(II)I"⟩],
  [⟨"CallOpenerModel", "saved", "(I)I"⟩, ⟨"CallOpenerModel", "left", "(III)I"⟩, ⟨"CallOpenerModel", "sets", "(IZI)V"⟩, ⟨"CallOpenerModel", "isKnownOf", "(I)Z"⟩, ⟨"CallOpenerModel", "knownOf", "(I)I"⟩, ⟨"CallOpenerModel", "opensKnown", "(III)V"⟩, ⟨"CallOpenerModel", "forgets", "(I)V"⟩, ⟨"CallOpenerModel", "behind", "(I)I"⟩, ⟨"CallOpenerModel", "looks", "(I)V"⟩, ⟨"CallOpenerModel", "endsFirst", "(I)V"⟩, ⟨"CallOpenerModel", "endsSecond", "(I)V"⟩, ⟨"CallOpenerModel", "endsKnown", "()V"⟩, ⟨"CallOpenerModel", "laysKnown", "(I)V"⟩, ⟨"CallOpenerModel", "knownMany", "()I"⟩, ⟨"CallOpenerModel", "folded", "(II)I"⟩, ⟨"CallOpenerModel", "isTooOften", "(II)Z"⟩],
  [⟨"CallOpenerModel", "laysFound", "(I)V"⟩, ⟨"CallOpenerModel", "laysMost", "()V"⟩, ⟨"CallOpenerModel", "joins", "(II)V"⟩, ⟨"CallOpenerModel", "best", "(III)J"⟩, ⟨"CallOpenerModel", "count", "(I)I"⟩, ⟨"CallOpenerModel", "comesTo", "(I)I"⟩, ⟨"CallOpenerModel", "lettersOf", "(J)I"⟩, ⟨"CallOpenerModel", "function", "(II)I"⟩, ⟨"CallOpenerModel", "site", "(II)I"⟩, ⟨"CallOpener$Best", "<init>", "(LCallOpener$Program;)V"⟩, ⟨"CallOpener$Best", "collect", "(LCallOpener$Program;LCallOpener$Profile;[II)V"⟩, ⟨"CallOpener$Best", "addCallsOf", "(IIJLCallOpener$Profile;)V"⟩, ⟨"CallOpener$Best", "standsFrom", "(II)I"⟩, ⟨"CallOpener$Best", "greatestGain", "(I)J"⟩, ⟨"CallOpener$Best", "leastAdds", "(I)I"⟩, ⟨"CallOpener$Best", "fillTable", "()V"⟩],
  [⟨"CallOpener$Best", "fillRow", "(II)V"⟩, ⟨"CallOpener$Best", "putInOrder", "()V"⟩, ⟨"CallOpener$Call", "<init>", "()V"⟩, ⟨"CallOpener$Call", "whyLeft", "()I"⟩, ⟨"CallOpener$Known", "<init>", "()V"⟩, ⟨"CallOpener$Known", "goThrough", "(LCallOpener$Lines;II)V"⟩, ⟨"CallOpener$Known", "isOver", "(LCallOpener$Lines;)Z"⟩, ⟨"CallOpener$Known", "goThroughLine", "(LCallOpener$Lines;)V"⟩, ⟨"CallOpener$Known", "numberOf", "(I)J"⟩, ⟨"CallOpener$Known", "noteGiven", "(J)V"⟩, ⟨"CallOpener$Known", "goThroughPut", "(LCallOpener$Lines;)V"⟩, ⟨"CallOpener$Known", "goThroughIf", "(LCallOpener$Lines;)V"⟩, ⟨"CallOpener$Known", "goThroughLoop", "(LCallOpener$Lines;)V"⟩, ⟨"CallOpener$Known", "openBlock", "(II)V"⟩, ⟨"CallOpener$Known", "leaveBlock", "(LCallOpener$Lines;)V"⟩, ⟨"CallOpener$Known", "forgetTargets", "(LCallOpener$Lines;I)V"⟩],
  [⟨"CallOpener$Known", "keep", "()V"⟩, ⟨"CallOpener$Known", "exchangeWithKept", "()V"⟩, ⟨"CallOpener$Known", "mergeWithKept", "()V"⟩, ⟨"CallOpener$Lines", "<init>", "(I)V"⟩, ⟨"CallOpener$Lines", "add", "(III)I"⟩, ⟨"CallOpener$Lines", "stretchAround", "(I)V"⟩, ⟨"CallOpener$Lines", "operand", "(II)I"⟩, ⟨"CallOpener$Lines", "putOperand", "(III)V"⟩, ⟨"CallOpener$Lines", "howManyAround", "(II)I"⟩, ⟨"CallOpener$Machine", "<init>", "(LCallOpener$Program;)V"⟩, ⟨"CallOpener$Machine", "runFunction", "(LCallOpener$Program;I[II)V"⟩, ⟨"CallOpener$Machine", "runResult", "(LCallOpener$Program;LCallOpener$Result;[II)V"⟩, ⟨"CallOpener$Machine", "begin", "(LCallOpener$Program;LCallOpener$Lines;[III)V"⟩, ⟨"CallOpener$Machine", "goOn", "()V"⟩, ⟨"CallOpener$Machine", "doLine", "()V"⟩, ⟨"CallOpener$Machine", "halt", "(I)V"⟩],
  [⟨"CallOpener$Machine", "valueOf", "(I)I"⟩, ⟨"CallOpener$Machine", "putValue", "(I)V"⟩, ⟨"CallOpener$Machine", "doIf", "()V"⟩, ⟨"CallOpener$Machine", "enterBlock", "(III)V"⟩, ⟨"CallOpener$Machine", "leaveBlock", "()V"⟩, ⟨"CallOpener$Machine", "doCall", "()V"⟩, ⟨"CallOpener$Machine", "enterFunction", "(I)V"⟩, ⟨"CallOpener$Machine", "leaveFunction", "(I)V"⟩, ⟨"CallOpener$Pile", "<init>", "(I)V"⟩, ⟨"CallOpener$Pile", "isFull", "()Z"⟩, ⟨"CallOpener$Pile", "push", "(IIII)V"⟩, ⟨"CallOpener$Profile", "<init>", "()V"⟩, ⟨"CallOpener$Profile", "clear", "()V"⟩, ⟨"CallOpener$Profile", "add", "([I[I)V"⟩, ⟨"CallOpener$Profile", "allEntries", "()I"⟩, ⟨"CallOpener$Profile", "allCounts", "()I"⟩],
  [⟨"CallOpener$Profile", "sum", "([I)I"⟩, ⟨"CallOpener$Profile", "heatOf", "(JII)J"⟩, ⟨"CallOpener$Program", "<init>", "()V"⟩, ⟨"CallOpener$Program", "clear", "()V"⟩, ⟨"CallOpener$Program", "nameWith", "(II)I"⟩, ⟨"CallOpener$Program", "letter", "(II)I"⟩, ⟨"CallOpener$Program", "gives", "(I)Z"⟩, ⟨"CallOpener$Program", "functionNamed", "(I)I"⟩, ⟨"CallOpener$Program", "comesToItself", "(I)Z"⟩, ⟨"CallOpener$Program", "calledBy", "(I)I"⟩, ⟨"CallOpener$Program", "changePlaces", "(II)V"⟩, ⟨"CallOpener$Program", "exchanged", "(III)I"⟩, ⟨"CallOpener$Reader", "<init>", "(LCallOpener$Program;)V"⟩, ⟨"CallOpener$Reader", "readProgram", "([IILCallOpener$Program;)I"⟩, ⟨"CallOpener$Reader", "takeTokens", "([II)V"⟩, ⟨"CallOpener$Reader", "takeWord", "([III)I"⟩],
  [⟨"CallOpener$Reader", "sortOfWord", "([III)I"⟩, ⟨"CallOpener$Reader", "isWord", "(Ljava/lang/String;[III)Z"⟩, ⟨"CallOpener$Reader", "takeNumber", "([III)I"⟩, ⟨"CallOpener$Reader", "isLetter", "(I)Z"⟩, ⟨"CallOpener$Reader", "isDigit", "(I)Z"⟩, ⟨"CallOpener$Reader", "readFunctionHead", "()Z"⟩, ⟨"CallOpener$Reader", "beginFunction", "()I"⟩, ⟨"CallOpener$Reader", "lengthOfName", "(I)I"⟩, ⟨"CallOpener$Reader", "endFunction", "()V"⟩, ⟨"CallOpener$Reader", "readParameters", "()Z"⟩, ⟨"CallOpener$Reader", "readParameter", "()Z"⟩, ⟨"CallOpener$Reader", "readLines", "()Z"⟩, ⟨"CallOpener$Reader", "closeBlock", "()Z"⟩, ⟨"CallOpener$Reader", "openBlock", "(II)Z"⟩, ⟨"CallOpener$Reader", "readLine", "()Z"⟩, ⟨"CallOpener$Reader", "addLine", "(I)I"⟩],
  [⟨"CallOpener$Reader", "readHead", "(I)Z"⟩, ⟨"CallOpener$Reader", "readGive", "()Z"⟩, ⟨"CallOpener$Reader", "readPut", "()Z"⟩, ⟨"CallOpener$Reader", "opensBehind", "()Z"⟩, ⟨"CallOpener$Reader", "readWork", "(I)Z"⟩, ⟨"CallOpener$Reader", "kindOfSign", "(I)I"⟩, ⟨"CallOpener$Reader", "readCall", "(I)Z"⟩, ⟨"CallOpener$Reader", "beginSite", "(II)V"⟩, ⟨"CallOpener$Reader", "readOperand", "()Z"⟩, ⟨"CallOpener$Reader", "variableHere", "()I"⟩, ⟨"CallOpener$Reader", "findCalled", "()V"⟩, ⟨"CallOpener$Reader", "wrong", "(I)Z"⟩, ⟨"CallOpener$Reader", "faultOfNoName", "()I"⟩, ⟨"CallOpener$Reader", "takeSign", "(C)Z"⟩, ⟨"CallOpener$Result", "<init>", "(LCallOpener$Program;)V"⟩, ⟨"CallOpener$Result", "write", "(LCallOpener$Program;LCallOpener$Tree;)V"⟩],
  [⟨"CallOpener$Result", "writeNode", "(LCallOpener$Tree;LCallOpener$Call;III)V"⟩, ⟨"CallOpener$Result", "writeOpened", "(LCallOpener$Tree;LCallOpener$Call;IIII)V"⟩, ⟨"CallOpener$Result", "writeCopy", "(IIII)V"⟩, ⟨"CallOpener$Result", "copyLine", "(IIII)V"⟩, ⟨"CallOpener$Result", "shifted", "(II)I"⟩, ⟨"CallOpener$Tree", "<init>", "(LCallOpener$Program;)V"⟩, ⟨"CallOpener$Tree", "grow", "(LCallOpener$Program;LCallOpener$Profile;[II)V"⟩, ⟨"CallOpener$Tree", "answer", "(I)I"⟩, ⟨"CallOpener$Tree", "plantRoot", "(II)V"⟩, ⟨"CallOpener$Tree", "openAll", "(LCallOpener$Profile;)V"⟩, ⟨"CallOpener$Tree", "makeCallsOf", "(ILCallOpener$Profile;)V"⟩, ⟨"CallOpener$Tree", "makeCall", "(IIJ)V"⟩, ⟨"CallOpener$Tree", "worthOf", "(JI)J"⟩, ⟨"CallOpener$Tree", "standsAbove", "(II)I"⟩, ⟨"CallOpener$Tree", "worthiest", "()I"⟩, ⟨"CallOpener$Tree", "mayOpen", "(LCallOpener$Call;)Z"⟩],
  [⟨"CallOpener$Tree", "comesAhead", "(II)Z"⟩, ⟨"CallOpener$Tree", "isLefter", "(II)Z"⟩, ⟨"CallOpener$Tree", "behindCalls", "(LCallOpener$Call;)I"⟩, ⟨"CallOpener$Tree", "undoFrom", "(II)V"⟩, ⟨"CallOpener$Tree", "addToChain", "(LCallOpener$Call;LCallOpener$Call;)V"⟩, ⟨"CallOpener$Tree", "listFrom", "(II)V"⟩, ⟨"java/lang/Math", "max", "(II)I"⟩, ⟨"java/lang/Math", "max", "(JJ)J"⟩, ⟨"java/lang/Math", "min", "(II)I"⟩, ⟨"java/lang/String", "charAt", "(I)C"⟩, ⟨"java/lang/String", "checkIndex", "(II)V"⟩, ⟨"java/lang/String", "coder", "()B"⟩, ⟨"java/lang/String", "isLatin1", "()Z"⟩, ⟨"java/lang/String", "length", "()I"⟩, ⟨"java/lang/StringLatin1", "charAt", "([BI)C"⟩, ⟨"java/util/Arrays", "fill", "([II)V"⟩],
  [⟨"jdk/internal/util/Preconditions", "checkIndex", "(IILjava/util/function/BiFunction;)I"⟩]]
def zyn (mi : Nat) : MethodName := (zynL.getD (mi / 16) []).getD (mi % 16) ⟨"", "", ""⟩
def zbyL : List (List ByteArray) := [[code, prog_1_method_1_code, prog_1_method_2_code, prog_1_method_3_code, prog_1_method_4_code, prog_1_method_5_code, prog_1_method_6_code, prog_1_method_7_code, prog_1_method_8_code, prog_1_method_9_code, prog_1_method_10_code, prog_1_method_11_code, prog_1_method_12_code, prog_1_method_13_code, prog_1_method_14_code, prog_1_method_15_code],
  [prog_1_method_16_code, prog_1_method_17_code, prog_1_method_18_code, prog_1_method_19_code, prog_1_method_20_code, prog_1_method_21_code, prog_1_method_22_code, prog_1_method_23_code, prog_1_method_24_code, prog_1_method_25_code, prog_1_method_26_code, prog_1_method_27_code, prog_1_method_28_code, prog_1_method_29_code, prog_1_method_30_code, prog_1_method_31_code],
  [prog_1_method_32_code, prog_1_method_33_code, prog_1_method_34_code, prog_1_method_35_code, prog_14_method_1_code, prog_14_method_2_code, prog_14_method_3_code, prog_14_method_4_code, prog_14_method_5_code, prog_14_method_6_code, prog_14_method_7_code, prog_14_method_8_code, prog_14_method_9_code, prog_14_method_10_code, prog_14_method_11_code, prog_14_method_12_code],
  [prog_14_method_13_code, prog_14_method_14_code, prog_14_method_15_code, prog_14_method_16_code, prog_14_method_17_code, prog_14_method_18_code, prog_14_method_19_code, prog_14_method_20_code, prog_14_method_21_code, prog_14_method_22_code, prog_14_method_23_code, prog_14_method_24_code, prog_14_method_25_code, prog_14_method_26_code, prog_14_method_27_code, prog_14_method_28_code],
  [prog_14_method_29_code, prog_14_method_30_code, prog_14_method_31_code, prog_14_method_32_code, prog_14_method_33_code, prog_14_method_34_code, prog_14_method_35_code, prog_14_method_36_code, prog_14_method_37_code, prog_14_method_38_code, prog_14_method_39_code, prog_14_method_40_code, prog_14_method_41_code, prog_14_method_42_code, prog_14_method_43_code, prog_14_method_44_code],
  [prog_14_method_45_code, prog_14_method_46_code, prog_14_method_47_code, prog_14_method_48_code, prog_14_method_49_code, prog_14_method_50_code, prog_14_method_51_code, prog_14_method_52_code, prog_14_method_53_code, prog_14_method_54_code, prog_14_method_55_code, prog_14_method_56_code, prog_14_method_57_code, prog_14_method_58_code, prog_14_method_59_code, prog_14_method_60_code],
  [prog_14_method_61_code, prog_14_method_62_code, prog_14_method_63_code, prog_14_method_64_code, prog_14_method_65_code, prog_14_method_66_code, prog_14_method_67_code, prog_14_method_68_code, prog_14_method_69_code, prog_14_method_70_code, prog_14_method_71_code, prog_14_method_72_code, prog_14_method_73_code, prog_14_method_74_code, prog_14_method_75_code, prog_14_method_76_code],
  [prog_14_method_77_code, prog_14_method_78_code, prog_14_method_79_code, prog_14_method_80_code, prog_14_method_81_code, prog_14_method_82_code, prog_14_method_83_code, prog_14_method_84_code, prog_14_method_85_code, prog_14_method_86_code, prog_14_method_87_code, prog_14_method_88_code, prog_14_method_89_code, prog_14_method_90_code, prog_14_method_91_code, prog_14_method_92_code],
  [prog_14_method_93_code, prog_14_method_94_code, prog_14_method_95_code, prog_14_method_96_code, prog_14_method_97_code, prog_14_method_98_code, prog_14_method_99_code, prog_14_method_100_code, prog_14_method_101_code, prog_14_method_102_code, prog_14_method_103_code, prog_14_method_104_code, prog_14_method_105_code, prog_14_method_106_code, prog_14_method_107_code, prog_14_method_108_code],
  [prog_14_method_109_code, prog_14_method_110_code, prog_14_method_111_code, prog_14_method_112_code, prog_14_method_113_code, prog_14_method_114_code, prog_14_method_115_code, prog_14_method_116_code, prog_14_method_117_code, prog_2_method_1_code, prog_2_method_2_code, prog_2_method_3_code, prog_2_method_4_code, prog_2_method_5_code, prog_2_method_6_code, prog_2_method_7_code],
  [prog_2_method_8_code, prog_2_method_9_code, prog_3_method_1_code, prog_3_method_2_code, prog_4_method_1_code, prog_4_method_2_code, prog_4_method_3_code, prog_4_method_4_code, prog_4_method_5_code, prog_4_method_6_code, prog_4_method_7_code, prog_4_method_8_code, prog_4_method_9_code, prog_4_method_10_code, prog_4_method_11_code, prog_4_method_12_code],
  [prog_4_method_13_code, prog_4_method_14_code, prog_4_method_15_code, prog_5_method_1_code, prog_5_method_2_code, prog_5_method_3_code, prog_5_method_4_code, prog_5_method_5_code, prog_5_method_6_code, prog_6_method_1_code, prog_6_method_2_code, prog_6_method_3_code, prog_6_method_4_code, prog_6_method_5_code, prog_6_method_6_code, prog_6_method_7_code],
  [prog_6_method_8_code, prog_6_method_9_code, prog_6_method_10_code, prog_6_method_11_code, prog_6_method_12_code, prog_6_method_13_code, prog_6_method_14_code, prog_6_method_15_code, prog_7_method_1_code, prog_7_method_2_code, prog_7_method_3_code, prog_8_method_1_code, prog_8_method_2_code, prog_8_method_3_code, prog_8_method_4_code, prog_8_method_5_code],
  [prog_8_method_6_code, prog_8_method_7_code, prog_9_method_1_code, prog_9_method_2_code, prog_9_method_3_code, prog_9_method_4_code, prog_9_method_5_code, prog_9_method_6_code, prog_9_method_7_code, prog_9_method_8_code, prog_9_method_9_code, prog_9_method_10_code, prog_10_method_1_code, prog_10_method_2_code, prog_10_method_3_code, prog_10_method_4_code],
  [prog_10_method_5_code, prog_10_method_6_code, prog_10_method_7_code, prog_10_method_8_code, prog_10_method_9_code, prog_10_method_10_code, prog_10_method_11_code, prog_10_method_12_code, prog_10_method_13_code, prog_10_method_14_code, prog_10_method_15_code, prog_10_method_16_code, prog_10_method_17_code, prog_10_method_18_code, prog_10_method_19_code, prog_10_method_20_code],
  [prog_10_method_21_code, prog_10_method_22_code, prog_10_method_23_code, prog_10_method_24_code, prog_10_method_25_code, prog_10_method_26_code, prog_10_method_27_code, prog_10_method_28_code, prog_10_method_29_code, prog_10_method_30_code, prog_10_method_31_code, prog_10_method_32_code, prog_10_method_33_code, prog_10_method_34_code, prog_11_method_1_code, prog_11_method_2_code],
  [prog_11_method_3_code, prog_11_method_4_code, prog_11_method_5_code, prog_11_method_6_code, prog_11_method_7_code, prog_12_method_1_code, prog_12_method_2_code, prog_12_method_3_code, prog_12_method_4_code, prog_12_method_5_code, prog_12_method_6_code, prog_12_method_7_code, prog_12_method_8_code, prog_12_method_9_code, prog_12_method_10_code, prog_12_method_11_code],
  [prog_12_method_12_code, prog_12_method_13_code, prog_12_method_14_code, prog_12_method_15_code, prog_12_method_16_code, prog_12_method_17_code, prog_16_method_65_code, prog_16_method_66_code, prog_16_method_69_code, prog_17_method_56_code, prog_17_method_155_code, prog_17_method_152_code, prog_17_method_154_code, prog_17_method_54_code, prog_18_method_2_code, prog_21_method_103_code],
  [prog_22_method_11_code]]
def zby (mi : Nat) : ByteArray := (zbyL.getD (mi / 16) []).getD (mi % 16) ⟨#[]⟩
def zrtL : List (List (Option FieldType)) := [[some .boolean, none, some .int, some .int, some .int, some .int, some .int, some .int, some .int, some .int, some .int, some .int, some .int, some .long, some .int, some .long],
  [some .int, some .int, some .int, some .int, some .int, some .int, some .long, some .int, some .int, some .int, none, some .boolean, some .boolean, some .boolean, none, some .boolean],
  [none, none, some .boolean, some .int, none, some .boolean, some .int, none, some .int, some .int, some .boolean, none, some .boolean, some .boolean, some .boolean, some .boolean],
  [some .boolean, some .boolean, some .boolean, some .int, some .int, some .boolean, some .boolean, some .boolean, some .boolean, none, some .int, some .boolean, some .int, some .boolean, some .boolean, some .boolean],
  [some .boolean, some .boolean, some .int, none, some .boolean, some .int, some .int, some .int, some .int, some .int, some .int, some .boolean, some .int, none, some .int, none],
  [some .int, none, none, none, none, some .int, none, some .int, some .int, some .int, some .int, some .int, some .int, some .boolean, some .int, some .long],
  [some .long, some .long, none, some .boolean, some .boolean, some .boolean, some .int, none, none, none, some .int, some .int, some .int, some .int, some .int, some .long],
  [some .int, some .long, some .int, some .int, some .int, none, none, none, none, none, none, some .int, some .int, some .int, none, some .int],
  [some .int, some .int, none, some .boolean, some .int, none, none, some .int, none, none, none, none, none, some .int, some .int, some .boolean],
  [none, none, none, some .long, some .int, some .int, some .int, some .int, some .int, none, none, none, some .int, some .long, some .int, none],
  [none, none, none, some .int, none, none, some .boolean, none, some .long, none, none, none, none, none, none, none],
  [none, none, none, none, some .int, none, some .int, none, some .int, none, none, none, none, none, none, none],
  [some .int, none, none, none, none, none, none, none, none, some .boolean, none, none, none, none, some .int, some .int],
  [some .int, some .long, none, none, some .int, some .int, some .boolean, some .int, some .boolean, some .int, none, some .int, none, some .int, none, some .int],
  [some .int, some .boolean, some .int, some .boolean, some .boolean, some .boolean, some .int, some .int, none, some .boolean, some .boolean, some .boolean, some .boolean, some .boolean, some .boolean, some .int],
  [some .boolean, some .boolean, some .boolean, some .boolean, some .boolean, some .int, some .boolean, none, some .boolean, some .int, none, some .boolean, some .int, some .boolean, none, none],
  [none, none, none, none, some .int, none, none, some .int, none, none, none, none, some .long, some .int, some .int, some .boolean],
  [some .boolean, some .boolean, some .int, none, none, none, some .int, some .long, some .int, some .char, none, some .byte, some .boolean, some .int, some .char, none],
  [some .int]]
def zrt (mi : Nat) : (Option FieldType) := (zrtL.getD (mi / 16) []).getD (mi % 16) none
def zwm (mi : Nat) : List Cond := Cond.code (zyn mi) (zby mi) (zmx mi) (zrt mi) :: zwd
