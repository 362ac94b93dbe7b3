abbrev cn_House : String := "BundleHouse"
def fT_House : u_T := fun k => match k with
  | 0 => ("BundleHouse", "tape", "LBundleHouse$Strip;", true)
  | 1 => ("BundleHouse", "tapePolicy", "LBundleHouse$Policy;", true)
  | 2 => ("BundleHouse", "theCode", "LBundleHouse$Strip;", true)
  | 3 => ("BundleHouse", "codePolicy", "LBundleHouse$Policy;", true)
  | 4 => ("BundleHouse", "codeReader", "LBundleHouse$Reader;", true)
  | 5 => ("BundleHouse", "draft", "LBundleHouse$Program;", true)
  | 6 => ("BundleHouse", "builder", "LBundleHouse$Builder;", true)
  | 7 => ("BundleHouse", "program", "LBundleHouse$Program;", true)
  | 8 => ("BundleHouse", "first", "LBundleHouse$Machine;", true)
  | 9 => ("BundleHouse", "runMachine", "LBundleHouse$Machine;", true)
  | 10 => ("BundleHouse", "walkMachine", "LBundleHouse$Machine;", true)
  | 11 => ("BundleHouse", "runner", "LBundleHouse$Runner;", true)
  | 12 => ("BundleHouse", "walker", "LBundleHouse$Walker;", true)
  | 13 => ("BundleHouse", "hasProgram", "Z", false)
  | 14 => ("BundleHouse", "latestFault", "I", false)
  | _ => ("BundleHouse", "latestPlace", "I", false)
def ty_House : Nat → FieldType := fun k => match k with
  | 0 => (.object "BundleHouse$Strip")
  | 1 => (.object "BundleHouse$Policy")
  | 2 => (.object "BundleHouse$Strip")
  | 3 => (.object "BundleHouse$Policy")
  | 4 => (.object "BundleHouse$Reader")
  | 5 => (.object "BundleHouse$Program")
  | 6 => (.object "BundleHouse$Builder")
  | 7 => (.object "BundleHouse$Program")
  | 8 => (.object "BundleHouse$Machine")
  | 9 => (.object "BundleHouse$Machine")
  | 10 => (.object "BundleHouse$Machine")
  | 11 => (.object "BundleHouse$Runner")
  | 12 => (.object "BundleHouse$Walker")
  | 13 => .boolean
  | 14 => .int
  | _ => .int
theorem nm_House : ∀ a, a < 16 → ∀ b, b < 16 → a ≠ b → (fT_House a).2.1 ≠ (fT_House b).2.1 := by decide +kernel
theorem ty_House_ok : ∀ k, k < 16 → parseFieldDescriptor (fT_House k).2.2.1 = some (ty_House k) := by decide +kernel
abbrev cn_Strip : String := "BundleHouse$Strip"
def fT_Strip : u_T := fun k => match k with
  | 0 => ("BundleHouse$Strip", "row", "[I", true)
  | 1 => ("BundleHouse$Strip", "marks", "[I", true)
  | _ => ("BundleHouse$Strip", "count", "I", false)
def ty_Strip : Nat → FieldType := fun k => match k with
  | 0 => (.array .int)
  | 1 => (.array .int)
  | _ => .int
theorem nm_Strip : ∀ a, a < 3 → ∀ b, b < 3 → a ≠ b → (fT_Strip a).2.1 ≠ (fT_Strip b).2.1 := by decide +kernel
theorem ty_Strip_ok : ∀ k, k < 3 → parseFieldDescriptor (fT_Strip k).2.2.1 = some (ty_Strip k) := by decide +kernel
abbrev cn_Policy : String := "BundleHouse$Policy"
def fT_Policy : u_T := fun k => match k with
  | 0 => ("BundleHouse$Policy", "faultPlace", "I", false)
  | 1 => ("BundleHouse$Policy", "strip", "LBundleHouse$Strip;", true)
  | _ => ("BundleHouse$Policy", "reader", "LBundleHouse$Reader;", true)
def ty_Policy : Nat → FieldType := fun k => match k with
  | 0 => .int
  | 1 => (.object "BundleHouse$Strip")
  | _ => (.object "BundleHouse$Reader")
theorem nm_Policy : ∀ a, a < 3 → ∀ b, b < 3 → a ≠ b → (fT_Policy a).2.1 ≠ (fT_Policy b).2.1 := by decide +kernel
theorem ty_Policy_ok : ∀ k, k < 3 → parseFieldDescriptor (fT_Policy k).2.2.1 = some (ty_Policy k) := by decide +kernel
abbrev cn_Reader : String := "BundleHouse$Reader"
def fT_Reader : u_T := fun k => match k with
  | 0 => ("BundleHouse$Reader", "found", "LBundleHouse$Instruction;", true)
  | 1 => ("BundleHouse$Reader", "source", "LBundleHouse$Strip;", true)
  | 2 => ("BundleHouse$Reader", "next", "I", false)
  | 3 => ("BundleHouse$Reader", "good", "Z", false)
  | 4 => ("BundleHouse$Reader", "operandSort", "I", false)
  | 5 => ("BundleHouse$Reader", "valueSize", "I", false)
  | 6 => ("BundleHouse$Reader", "distanceSize", "I", false)
  | 7 => ("BundleHouse$Reader", "inRegister", "Z", false)
  | 8 => ("BundleHouse$Reader", "middle", "I", false)
  | _ => ("BundleHouse$Reader", "low", "I", false)
def ty_Reader : Nat → FieldType := fun k => match k with
  | 0 => (.object "BundleHouse$Instruction")
  | 1 => (.object "BundleHouse$Strip")
  | 2 => .int
  | 3 => .boolean
  | 4 => .int
  | 5 => .int
  | 6 => .int
  | 7 => .boolean
  | 8 => .int
  | _ => .int
theorem nm_Reader : ∀ a, a < 10 → ∀ b, b < 10 → a ≠ b → (fT_Reader a).2.1 ≠ (fT_Reader b).2.1 := by decide +kernel
theorem ty_Reader_ok : ∀ k, k < 10 → parseFieldDescriptor (fT_Reader k).2.2.1 = some (ty_Reader k) := by decide +kernel
abbrev cn_Instruction : String := "BundleHouse$Instruction"
def fT_Instruction : u_T := fun k => match k with
  | 0 => ("BundleHouse$Instruction", "op", "I", false)
  | 1 => ("BundleHouse$Instruction", "form", "I", false)
  | 2 => ("BundleHouse$Instruction", "\x72", "I", false)
  | 3 => ("BundleHouse$Instruction", "x", "I", false)
  | 4 => ("BundleHouse$Instruction", "d", "I", false)
  | 5 => ("BundleHouse$Instruction", "i", "I", false)
  | _ => ("BundleHouse$Instruction", "length", "I", false)
def ty_Instruction : Nat → FieldType := fun k => match k with
  | 0 => .int
  | 1 => .int
  | 2 => .int
  | 3 => .int
  | 4 => .int
  | 5 => .int
  | _ => .int
theorem nm_Instruction : ∀ a, a < 7 → ∀ b, b < 7 → a ≠ b → (fT_Instruction a).2.1 ≠ (fT_Instruction b).2.1 := by decide +kernel
theorem ty_Instruction_ok : ∀ k, k < 7 → parseFieldDescriptor (fT_Instruction k).2.2.1 = some (ty_Instruction k) := by decide +kernel
abbrev cn_Program : String := "BundleHouse$Program"
def fT_Program : u_T := fun k => match k with
  | 0 => ("BundleHouse$Program", "sort", "[I", true)
  | 1 => ("BundleHouse$Program", "a", "[I", true)
  | 2 => ("BundleHouse$Program", "b", "[I", true)
  | 3 => ("BundleHouse$Program", "placeRow", "[I", true)
  | 4 => ("BundleHouse$Program", "count", "I", false)
  | 5 => ("BundleHouse$Program", "tail", "I", false)
  | 6 => ("BundleHouse$Program", "op", "[I", true)
  | 7 => ("BundleHouse$Program", "form", "[I", true)
  | 8 => ("BundleHouse$Program", "\x72", "[I", true)
  | 9 => ("BundleHouse$Program", "x", "[I", true)
  | 10 => ("BundleHouse$Program", "d", "[I", true)
  | 11 => ("BundleHouse$Program", "i", "[I", true)
  | 12 => ("BundleHouse$Program", "labelRow", "[I", true)
  | _ => ("BundleHouse$Program", "landingRow", "[I", true)
def ty_Program : Nat → FieldType := fun k => match k with
  | 0 => (.array .int)
  | 1 => (.array .int)
  | 2 => (.array .int)
  | 3 => (.array .int)
  | 4 => .int
  | 5 => .int
  | 6 => (.array .int)
  | 7 => (.array .int)
  | 8 => (.array .int)
  | 9 => (.array .int)
  | 10 => (.array .int)
  | 11 => (.array .int)
  | 12 => (.array .int)
  | _ => (.array .int)
theorem nm_Program : ∀ a, a < 14 → ∀ b, b < 14 → a ≠ b → (fT_Program a).2.1 ≠ (fT_Program b).2.1 := by decide +kernel
theorem ty_Program_ok : ∀ k, k < 14 → parseFieldDescriptor (fT_Program k).2.2.1 = some (ty_Program k) := by decide +kernel
abbrev cn_Builder : String := "BundleHouse$Builder"
def fT_Builder : u_T := fun k => match k with
  | 0 => ("BundleHouse$Builder", "faultItem", "I", false)
  | 1 => ("BundleHouse$Builder", "draft", "LBundleHouse$Program;", true)
  | 2 => ("BundleHouse$Builder", "target", "LBundleHouse$Strip;", true)
  | 3 => ("BundleHouse$Builder", "piece", "LBundleHouse$Piece;", true)
  | 4 => ("BundleHouse$Builder", "item", "LBundleHouse$Instruction;", true)
  | 5 => ("BundleHouse$Builder", "length", "[I", true)
  | _ => ("BundleHouse$Builder", "next", "I", false)
def ty_Builder : Nat → FieldType := fun k => match k with
  | 0 => .int
  | 1 => (.object "BundleHouse$Program")
  | 2 => (.object "BundleHouse$Strip")
  | 3 => (.object "BundleHouse$Piece")
  | 4 => (.object "BundleHouse$Instruction")
  | 5 => (.array .int)
  | _ => .int
theorem nm_Builder : ∀ a, a < 7 → ∀ b, b < 7 → a ≠ b → (fT_Builder a).2.1 ≠ (fT_Builder b).2.1 := by decide +kernel
theorem ty_Builder_ok : ∀ k, k < 7 → parseFieldDescriptor (fT_Builder k).2.2.1 = some (ty_Builder k) := by decide +kernel
abbrev cn_Piece : String := "BundleHouse$Piece"
def fT_Piece : u_T := fun k => match k with
  | 0 => ("BundleHouse$Piece", "row", "[I", true)
  | _ => ("BundleHouse$Piece", "count", "I", false)
def ty_Piece : Nat → FieldType := fun k => match k with
  | 0 => (.array .int)
  | _ => .int
theorem nm_Piece : ∀ a, a < 2 → ∀ b, b < 2 → a ≠ b → (fT_Piece a).2.1 ≠ (fT_Piece b).2.1 := by decide +kernel
theorem ty_Piece_ok : ∀ k, k < 2 → parseFieldDescriptor (fT_Piece k).2.2.1 = some (ty_Piece k) := by decide +kernel
abbrev cn_Machine : String := "BundleHouse$Machine"
def fT_Machine : u_T := fun k => match k with
  | 0 => ("BundleHouse$Machine", "flags", "LBundleHouse$Flags;", true)
  | 1 => ("BundleHouse$Machine", "address", "I", false)
  | 2 => ("BundleHouse$Machine", "steps", "I", false)
  | 3 => ("BundleHouse$Machine", "stop", "I", false)
  | 4 => ("BundleHouse$Machine", "strays", "I", false)
  | 5 => ("BundleHouse$Machine", "isHidden", "Z", false)
  | 6 => ("BundleHouse$Machine", "hasRun", "Z", false)
  | 7 => ("BundleHouse$Machine", "register", "[I", true)
  | 8 => ("BundleHouse$Machine", "bytes", "[I", true)
  | 9 => ("BundleHouse$Machine", "inputRow", "[I", true)
  | 10 => ("BundleHouse$Machine", "inputCount", "I", false)
  | 11 => ("BundleHouse$Machine", "inputNext", "I", false)
  | 12 => ("BundleHouse$Machine", "outputRow", "[I", true)
  | _ => ("BundleHouse$Machine", "outputCount", "I", false)
def ty_Machine : Nat → FieldType := fun k => match k with
  | 0 => (.object "BundleHouse$Flags")
  | 1 => .int
  | 2 => .int
  | 3 => .int
  | 4 => .int
  | 5 => .boolean
  | 6 => .boolean
  | 7 => (.array .int)
  | 8 => (.array .int)
  | 9 => (.array .int)
  | 10 => .int
  | 11 => .int
  | 12 => (.array .int)
  | _ => .int
theorem nm_Machine : ∀ a, a < 14 → ∀ b, b < 14 → a ≠ b → (fT_Machine a).2.1 ≠ (fT_Machine b).2.1 := by decide +kernel
theorem ty_Machine_ok : ∀ k, k < 14 → parseFieldDescriptor (fT_Machine k).2.2.1 = some (ty_Machine k) := by decide +kernel
abbrev cn_Flags : String := "BundleHouse$Flags"
def fT_Flags : u_T := fun k => match k with
  | 0 => ("BundleHouse$Flags", "carry", "I", false)
  | 1 => ("BundleHouse$Flags", "zero", "I", false)
  | 2 => ("BundleHouse$Flags", "sign", "I", false)
  | _ => ("BundleHouse$Flags", "overflow", "I", false)
def ty_Flags : Nat → FieldType := fun k => match k with
  | 0 => .int
  | 1 => .int
  | 2 => .int
  | _ => .int
theorem nm_Flags : ∀ a, a < 4 → ∀ b, b < 4 → a ≠ b → (fT_Flags a).2.1 ≠ (fT_Flags b).2.1 := by decide +kernel
theorem ty_Flags_ok : ∀ k, k < 4 → parseFieldDescriptor (fT_Flags k).2.2.1 = some (ty_Flags k) := by decide +kernel
abbrev cn_Runner : String := "BundleHouse$Runner"
def fT_Runner : u_T := fun k => match k with
  | 0 => ("BundleHouse$Runner", "strip", "LBundleHouse$Strip;", true)
  | 1 => ("BundleHouse$Runner", "reader", "LBundleHouse$Reader;", true)
  | _ => ("BundleHouse$Runner", "machine", "LBundleHouse$Machine;", true)
def ty_Runner : Nat → FieldType := fun k => match k with
  | 0 => (.object "BundleHouse$Strip")
  | 1 => (.object "BundleHouse$Reader")
  | _ => (.object "BundleHouse$Machine")
theorem nm_Runner : ∀ a, a < 3 → ∀ b, b < 3 → a ≠ b → (fT_Runner a).2.1 ≠ (fT_Runner b).2.1 := by decide +kernel
theorem ty_Runner_ok : ∀ k, k < 3 → parseFieldDescriptor (fT_Runner k).2.2.1 = some (ty_Runner k) := by decide +kernel
abbrev cn_Walker : String := "BundleHouse$Walker"
def fT_Walker : u_T := fun k => match k with
  | 0 => ("BundleHouse$Walker", "program", "LBundleHouse$Program;", true)
  | 1 => ("BundleHouse$Walker", "machine", "LBundleHouse$Machine;", true)
  | 2 => ("BundleHouse$Walker", "item", "LBundleHouse$Instruction;", true)
  | _ => ("BundleHouse$Walker", "at", "I", false)
def ty_Walker : Nat → FieldType := fun k => match k with
  | 0 => (.object "BundleHouse$Program")
  | 1 => (.object "BundleHouse$Machine")
  | 2 => (.object "BundleHouse$Instruction")
  | _ => .int
theorem nm_Walker : ∀ a, a < 4 → ∀ b, b < 4 → a ≠ b → (fT_Walker a).2.1 ≠ (fT_Walker b).2.1 := by decide +kernel
theorem ty_Walker_ok : ∀ k, k < 4 → parseFieldDescriptor (fT_Walker k).2.2.1 = some (ty_Walker k) := by decide +kernel
abbrev cn_Mo : String := "BundleHouseModel"
def fT_Mo : u_T := fun k => match k with
  | 0 => ("BundleHouseModel", "thrown", "I", false)
  | 1 => ("BundleHouseModel", "tape", "[I", true)
  | 2 => ("BundleHouseModel", "taped", "I", false)
  | 3 => ("BundleHouseModel", "fault", "I", false)
  | 4 => ("BundleHouseModel", "faultAt", "I", false)
  | 5 => ("BundleHouseModel", "code", "[I", true)
  | 6 => ("BundleHouseModel", "size", "I", false)
  | 7 => ("BundleHouseModel", "starts", "[I", true)
  | 8 => ("BundleHouseModel", "drafted", "I", false)
  | 9 => ("BundleHouseModel", "many", "I", false)
  | 10 => ("BundleHouseModel", "isProgram", "Z", false)
  | 11 => ("BundleHouseModel", "sort", "[I", true)
  | 12 => ("BundleHouseModel", "op", "[I", true)
  | 13 => ("BundleHouseModel", "form", "[I", true)
  | 14 => ("BundleHouseModel", "itemR", "[I", true)
  | 15 => ("BundleHouseModel", "itemX", "[I", true)
  | 16 => ("BundleHouseModel", "itemD", "[I", true)
  | 17 => ("BundleHouseModel", "itemI", "[I", true)
  | 18 => ("BundleHouseModel", "placeOf", "[I", true)
  | 19 => ("BundleHouseModel", "labelPlace", "[I", true)
  | 20 => ("BundleHouseModel", "labelItem", "[I", true)
  | 21 => ("BundleHouseModel", "isLong", "[Z", true)
  | 22 => ("BundleHouseModel", "laid", "I", false)
  | 23 => ("BundleHouseModel", "built", "[I", true)
  | 24 => ("BundleHouseModel", "bytes", "[I", true)
  | 25 => ("BundleHouseModel", "byteMany", "I", false)
  | 26 => ("BundleHouseModel", "firstRegister", "[I", true)
  | 27 => ("BundleHouseModel", "firstData", "[I", true)
  | 28 => ("BundleHouseModel", "input", "[I", true)
  | 29 => ("BundleHouseModel", "inputs", "I", false)
  | 30 => ("BundleHouseModel", "ran", "[Z", true)
  | 31 => ("BundleHouseModel", "register", "[I", true)
  | 32 => ("BundleHouseModel", "flag", "[I", true)
  | 33 => ("BundleHouseModel", "memory", "[I", true)
  | 34 => ("BundleHouseModel", "output", "[I", true)
  | 35 => ("BundleHouseModel", "outputs", "[I", true)
  | 36 => ("BundleHouseModel", "address", "[I", true)
  | 37 => ("BundleHouseModel", "steps", "[I", true)
  | 38 => ("BundleHouseModel", "stop", "[I", true)
  | 39 => ("BundleHouseModel", "strange", "I", false)
  | 40 => ("BundleHouseModel", "oneUnknown", "Z", false)
  | 41 => ("BundleHouseModel", "inputTaken", "I", false)
  | 42 => ("BundleHouseModel", "which", "I", false)
  | 43 => ("BundleHouseModel", "from", "[I", false)
  | 44 => ("BundleHouseModel", "limit", "I", false)
  | 45 => ("BundleHouseModel", "at", "I", false)
  | 46 => ("BundleHouseModel", "dOp", "I", false)
  | 47 => ("BundleHouseModel", "dForm", "I", false)
  | 48 => ("BundleHouseModel", "dR", "I", false)
  | 49 => ("BundleHouseModel", "dX", "I", false)
  | 50 => ("BundleHouseModel", "dD", "I", false)
  | 51 => ("BundleHouseModel", "dI", "I", false)
  | 52 => ("BundleHouseModel", "kOf", "I", false)
  | 53 => ("BundleHouseModel", "isMemory", "Z", false)
  | 54 => ("BundleHouseModel", "tried", "[I", true)
  | 55 => ("BundleHouseModel", "endPlace", "I", false)
  | 56 => ("BundleHouseModel", "nOp", "I", false)
  | 57 => ("BundleHouseModel", "nForm", "I", false)
  | 58 => ("BundleHouseModel", "nR", "I", false)
  | 59 => ("BundleHouseModel", "nX", "I", false)
  | 60 => ("BundleHouseModel", "nD", "I", false)
  | 61 => ("BundleHouseModel", "nI", "I", false)
  | _ => ("BundleHouseModel", "walker", "I", false)
def ty_Mo : Nat → FieldType := fun k => match k with
  | 0 => .int
  | 1 => (.array .int)
  | 2 => .int
  | 3 => .int
  | 4 => .int
  | 5 => (.array .int)
  | 6 => .int
  | 7 => (.array .int)
  | 8 => .int
  | 9 => .int
  | 10 => .boolean
  | 11 => (.array .int)
  | 12 => (.array .int)
  | 13 => (.array .int)
  | 14 => (.array .int)
  | 15 => (.array .int)
  | 16 => (.array .int)
  | 17 => (.array .int)
  | 18 => (.array .int)
  | 19 => (.array .int)
  | 20 => (.array .int)
  | 21 => (.array .boolean)
  | 22 => .int
  | 23 => (.array .int)
  | 24 => (.array .int)
  | 25 => .int
  | 26 => (.array .int)
  | 27 => (.array .int)
  | 28 => (.array .int)
  | 29 => .int
  | 30 => (.array .boolean)
  | 31 => (.array .int)
  | 32 => (.array .int)
  | 33 => (.array .int)
  | 34 => (.array .int)
  | 35 => (.array .int)
  | 36 => (.array .int)
  | 37 => (.array .int)
  | 38 => (.array .int)
  | 39 => .int
  | 40 => .boolean
  | 41 => .int
  | 42 => .int
  | 43 => (.array .int)
  | 44 => .int
  | 45 => .int
  | 46 => .int
  | 47 => .int
  | 48 => .int
  | 49 => .int
  | 50 => .int
  | 51 => .int
  | 52 => .int
  | 53 => .boolean
  | 54 => (.array .int)
  | 55 => .int
  | 56 => .int
  | 57 => .int
  | 58 => .int
  | 59 => .int
  | 60 => .int
  | 61 => .int
  | _ => .int
theorem nm_Mo : ∀ a, a < 63 → ∀ b, b < 63 → a ≠ b → (fT_Mo a).2.1 ≠ (fT_Mo b).2.1 := by decide +kernel
theorem ty_Mo_ok : ∀ k, k < 63 → parseFieldDescriptor (fT_Mo k).2.2.1 = some (ty_Mo k) := by decide +kernel
abbrev classes : List vw_C := [(cn_House, fT_House, 16), (cn_Strip, fT_Strip, 3), (cn_Policy, fT_Policy, 3), (cn_Reader, fT_Reader, 10), (cn_Instruction, fT_Instruction, 7), (cn_Program, fT_Program, 14), (cn_Builder, fT_Builder, 7), (cn_Piece, fT_Piece, 2), (cn_Machine, fT_Machine, 14), (cn_Flags, fT_Flags, 4), (cn_Runner, fT_Runner, 3), (cn_Walker, fT_Walker, 4), (cn_Mo, fT_Mo, 63)]
def kdT : List Nat := [0, 1, 900, 900, 2, 3, 4, 1, 900, 900, 2, 3, 4, 3, 4, 5, 900, 900, 900, 900, 900, 900, 900, 900, 900, 900, 900, 900, 6, 7, 900, 4, 900, 5, 900, 900, 900, 900, 900, 900, 900, 900, 900, 900, 900, 900, 8, 9, 900, 900, 900, 900, 8, 9, 900, 900, 900, 900, 8, 9, 900, 900, 900, 900, 10, 11, 4, 12, 900, 900, 900, 900, 900, 900, 900, 900, 900, 900, 900, 900, 900, 902, 900, 900, 900, 900, 900, 902, 900, 900, 900, 900, 900, 900, 900, 900, 900, 901]
def alT : List Nat := [0, 0, 1100, 1100, 0, 0, 0, 0, 1100, 1100, 0, 0, 0, 0, 0, 0, 120, 120, 120, 120, 120, 120, 120, 120, 120, 120, 40, 64, 0, 0, 16, 0, 120, 0, 120, 120, 120, 120, 120, 120, 120, 120, 120, 120, 40, 64, 0, 0, 8, 1024, 50, 100, 0, 0, 8, 1024, 50, 100, 0, 0, 8, 1024, 50, 100, 0, 0, 0, 0, 1100, 1024, 1024, 240, 240, 240, 240, 240, 240, 240, 240, 80, 80, 120, 6000, 16, 8, 1024, 50, 2, 16, 8, 2048, 200, 2, 2, 2, 2, 1024, 1]
def chT : List (List Nat) := [[1, 4, 7, 10, 13, 15, 28, 33, 46, 52, 58, 64, 65, 0, 0, 0], [2, 3, 0], [], [], [0, 1, 5], [6, 1, 0, 0, 0, 0, 0, 0, 0, 0], [0, 0, 0, 0, 0, 0, 0], [8, 9, 0], [], [], [0, 7, 11], [12, 7, 0, 0, 0, 0, 0, 0, 0, 0], [0, 0, 0, 0, 0, 0, 0], [14, 7, 0, 0, 0, 0, 0, 0, 0, 0], [0, 0, 0, 0, 0, 0, 0], [16, 17, 18, 19, 0, 0, 20, 21, 22, 23, 24, 25, 26, 27], [], [], [], [], [], [], [], [], [], [], [], [], [0, 15, 7, 29, 31, 32, 0], [30, 0], [], [0, 0, 0, 0, 0, 0, 0], [], [34, 35, 36, 37, 0, 0, 38, 39, 40, 41, 42, 43, 44, 45], [], [], [], [], [], [], [], [], [], [], [], [], [47, 0, 0, 0, 0, 0, 0, 48, 49, 50, 0, 0, 51, 0], [0, 0, 0, 0], [], [], [], [], [53, 0, 0, 0, 0, 0, 0, 54, 55, 56, 0, 0, 57, 0], [0, 0, 0, 0], [], [], [], [], [59, 0, 0, 0, 0, 0, 0, 60, 61, 62, 0, 0, 63, 0], [0, 0, 0, 0], [], [], [], [], [7, 13, 52], [33, 58, 66, 0], [0, 0, 0, 0, 0, 0, 0], [0, 68, 0, 0, 0, 69, 0, 70, 0, 0, 0, 71, 72, 73, 74, 75, 76, 77, 78, 79, 80, 81, 0, 82, 83, 0, 84, 85, 86, 0, 87, 88, 89, 90, 91, 92, 93, 94, 95, 0, 0, 0, 0, 0, 0, 0, 0, 0, 0, 0, 0, 0, 0, 0, 96, 0, 0, 0, 0, 0, 0, 0, 0], [], [], [], [], [], [], [], [], [], [], [], [], [], [], [], [], [], [], [], [], [], [], [], [], [], [], [], [], [], []]
def NC : Nat := 98
theorem kdT_len : kdT.length = NC := rfl
def kd (o : Nat) : Nat := kdT.getD o 999
def al (o : Nat) : Nat := alT.getD o 0
def ch (o j : Nat) : Nat := (chT.getD o []).getD j 0
def nfT : List Nat := [16, 3, 3, 10, 7, 14, 7, 2, 14, 4, 3, 4, 63]
def nf (K : Nat) : Nat := nfT.getD K 0
def rfT : List (List Nat) := [[1, 1, 1, 1, 1, 1, 1, 1, 1, 1, 1, 1, 1, 0, 0, 0], [1, 1, 0], [0, 1, 1], [1, 1, 0, 0, 0, 0, 0, 0, 0, 0], [0, 0, 0, 0, 0, 0, 0], [1, 1, 1, 1, 0, 0, 1, 1, 1, 1, 1, 1, 1, 1], [0, 1, 1, 1, 1, 1, 0], [1, 0], [1, 0, 0, 0, 0, 0, 0, 1, 1, 1, 0, 0, 1, 0], [0, 0, 0, 0], [1, 1, 1], [1, 1, 1, 0], [0, 1, 0, 0, 0, 1, 0, 1, 0, 0, 0, 1, 1, 1, 1, 1, 1, 1, 1, 1, 1, 1, 0, 1, 1, 0, 1, 1, 1, 0, 1, 1, 1, 1, 1, 1, 1, 1, 1, 0, 0, 0, 0, 2, 0, 0, 0, 0, 0, 0, 0, 0, 0, 0, 1, 0, 0, 0, 0, 0, 0, 0, 0]]
def rf (K j : Nat) : Nat := (rfT.getD K []).getD j 0
theorem kd_lt {o : Nat} (h : kd o ≠ 999) : o < NC := by
  rcases Nat.lt_or_ge o NC with q | q
  · exact q
  · exact absurd (by unfold kd; rw [List.getD_eq_getElem?_getD, List.getElem?_eq_none (by rw [kdT_len]; exact q)]; rfl) h
theorem kall (o : Nat) {P : Nat → Prop} {K : Nat} (h : ∀ i, i < NC → P i) (hK : K ≠ 999) (hk : kd o = K) : P o := h o (kd_lt (by rw [hk]; exact hK))
theorem kc_House_0 : ∀ o, kd o = 0 → kd (ch o 0) = 1 := fun o h => kall o (P := fun o => kd o = 0 → kd (ch o 0) = 1) (by decide +kernel) (by decide) h h
theorem kc_House_1 : ∀ o, kd o = 0 → kd (ch o 1) = 2 := fun o h => kall o (P := fun o => kd o = 0 → kd (ch o 1) = 2) (by decide +kernel) (by decide) h h
theorem kc_House_2 : ∀ o, kd o = 0 → kd (ch o 2) = 1 := fun o h => kall o (P := fun o => kd o = 0 → kd (ch o 2) = 1) (by decide +kernel) (by decide) h h
theorem kc_House_3 : ∀ o, kd o = 0 → kd (ch o 3) = 2 := fun o h => kall o (P := fun o => kd o = 0 → kd (ch o 3) = 2) (by decide +kernel) (by decide) h h
theorem kc_House_4 : ∀ o, kd o = 0 → kd (ch o 4) = 3 := fun o h => kall o (P := fun o => kd o = 0 → kd (ch o 4) = 3) (by decide +kernel) (by decide) h h
theorem kc_House_5 : ∀ o, kd o = 0 → kd (ch o 5) = 5 := fun o h => kall o (P := fun o => kd o = 0 → kd (ch o 5) = 5) (by decide +kernel) (by decide) h h
theorem kc_House_6 : ∀ o, kd o = 0 → kd (ch o 6) = 6 := fun o h => kall o (P := fun o => kd o = 0 → kd (ch o 6) = 6) (by decide +kernel) (by decide) h h
theorem kc_House_7 : ∀ o, kd o = 0 → kd (ch o 7) = 5 := fun o h => kall o (P := fun o => kd o = 0 → kd (ch o 7) = 5) (by decide +kernel) (by decide) h h
theorem kc_House_8 : ∀ o, kd o = 0 → kd (ch o 8) = 8 := fun o h => kall o (P := fun o => kd o = 0 → kd (ch o 8) = 8) (by decide +kernel) (by decide) h h
theorem kc_House_9 : ∀ o, kd o = 0 → kd (ch o 9) = 8 := fun o h => kall o (P := fun o => kd o = 0 → kd (ch o 9) = 8) (by decide +kernel) (by decide) h h
theorem kc_House_10 : ∀ o, kd o = 0 → kd (ch o 10) = 8 := fun o h => kall o (P := fun o => kd o = 0 → kd (ch o 10) = 8) (by decide +kernel) (by decide) h h
theorem kc_House_11 : ∀ o, kd o = 0 → kd (ch o 11) = 10 := fun o h => kall o (P := fun o => kd o = 0 → kd (ch o 11) = 10) (by decide +kernel) (by decide) h h
theorem kc_House_12 : ∀ o, kd o = 0 → kd (ch o 12) = 11 := fun o h => kall o (P := fun o => kd o = 0 → kd (ch o 12) = 11) (by decide +kernel) (by decide) h h
theorem kc_Strip_0 : ∀ o, kd o = 1 → kd (ch o 0) = 900 ∧ al (ch o 0) = 1100 := fun o h => kall o (P := fun o => kd o = 1 → kd (ch o 0) = 900 ∧ al (ch o 0) = 1100) (by decide +kernel) (by decide) h h
theorem kc_Strip_1 : ∀ o, kd o = 1 → kd (ch o 1) = 900 ∧ al (ch o 1) = 1100 := fun o h => kall o (P := fun o => kd o = 1 → kd (ch o 1) = 900 ∧ al (ch o 1) = 1100) (by decide +kernel) (by decide) h h
theorem kc_Policy_1 : ∀ o, kd o = 2 → kd (ch o 1) = 1 := fun o h => kall o (P := fun o => kd o = 2 → kd (ch o 1) = 1) (by decide +kernel) (by decide) h h
theorem kc_Policy_2 : ∀ o, kd o = 2 → kd (ch o 2) = 3 := fun o h => kall o (P := fun o => kd o = 2 → kd (ch o 2) = 3) (by decide +kernel) (by decide) h h
theorem kc_Reader_0 : ∀ o, kd o = 3 → kd (ch o 0) = 4 := fun o h => kall o (P := fun o => kd o = 3 → kd (ch o 0) = 4) (by decide +kernel) (by decide) h h
theorem kc_Reader_1 : ∀ o, kd o = 3 → kd (ch o 1) = 1 := fun o h => kall o (P := fun o => kd o = 3 → kd (ch o 1) = 1) (by decide +kernel) (by decide) h h
theorem kc_Program_0 : ∀ o, kd o = 5 → kd (ch o 0) = 900 ∧ al (ch o 0) = 120 := fun o h => kall o (P := fun o => kd o = 5 → kd (ch o 0) = 900 ∧ al (ch o 0) = 120) (by decide +kernel) (by decide) h h
theorem kc_Program_1 : ∀ o, kd o = 5 → kd (ch o 1) = 900 ∧ al (ch o 1) = 120 := fun o h => kall o (P := fun o => kd o = 5 → kd (ch o 1) = 900 ∧ al (ch o 1) = 120) (by decide +kernel) (by decide) h h
theorem kc_Program_2 : ∀ o, kd o = 5 → kd (ch o 2) = 900 ∧ al (ch o 2) = 120 := fun o h => kall o (P := fun o => kd o = 5 → kd (ch o 2) = 900 ∧ al (ch o 2) = 120) (by decide +kernel) (by decide) h h
theorem kc_Program_3 : ∀ o, kd o = 5 → kd (ch o 3) = 900 ∧ al (ch o 3) = 120 := fun o h => kall o (P := fun o => kd o = 5 → kd (ch o 3) = 900 ∧ al (ch o 3) = 120) (by decide +kernel) (by decide) h h
theorem kc_Program_6 : ∀ o, kd o = 5 → kd (ch o 6) = 900 ∧ al (ch o 6) = 120 := fun o h => kall o (P := fun o => kd o = 5 → kd (ch o 6) = 900 ∧ al (ch o 6) = 120) (by decide +kernel) (by decide) h h
theorem kc_Program_7 : ∀ o, kd o = 5 → kd (ch o 7) = 900 ∧ al (ch o 7) = 120 := fun o h => kall o (P := fun o => kd o = 5 → kd (ch o 7) = 900 ∧ al (ch o 7) = 120) (by decide +kernel) (by decide) h h
theorem kc_Program_8 : ∀ o, kd o = 5 → kd (ch o 8) = 900 ∧ al (ch o 8) = 120 := fun o h => kall o (P := fun o => kd o = 5 → kd (ch o 8) = 900 ∧ al (ch o 8) = 120) (by decide +kernel) (by decide) h h
theorem kc_Program_9 : ∀ o, kd o = 5 → kd (ch o 9) = 900 ∧ al (ch o 9) = 120 := fun o h => kall o (P := fun o => kd o = 5 → kd (ch o 9) = 900 ∧ al (ch o 9) = 120) (by decide +kernel) (by decide) h h
theorem kc_Program_10 : ∀ o, kd o = 5 → kd (ch o 10) = 900 ∧ al (ch o 10) = 120 := fun o h => kall o (P := fun o => kd o = 5 → kd (ch o 10) = 900 ∧ al (ch o 10) = 120) (by decide +kernel) (by decide) h h
theorem kc_Program_11 : ∀ o, kd o = 5 → kd (ch o 11) = 900 ∧ al (ch o 11) = 120 := fun o h => kall o (P := fun o => kd o = 5 → kd (ch o 11) = 900 ∧ al (ch o 11) = 120) (by decide +kernel) (by decide) h h
theorem kc_Program_12 : ∀ o, kd o = 5 → kd (ch o 12) = 900 ∧ al (ch o 12) = 40 := fun o h => kall o (P := fun o => kd o = 5 → kd (ch o 12) = 900 ∧ al (ch o 12) = 40) (by decide +kernel) (by decide) h h
theorem kc_Program_13 : ∀ o, kd o = 5 → kd (ch o 13) = 900 ∧ al (ch o 13) = 64 := fun o h => kall o (P := fun o => kd o = 5 → kd (ch o 13) = 900 ∧ al (ch o 13) = 64) (by decide +kernel) (by decide) h h
theorem kc_Builder_1 : ∀ o, kd o = 6 → kd (ch o 1) = 5 := fun o h => kall o (P := fun o => kd o = 6 → kd (ch o 1) = 5) (by decide +kernel) (by decide) h h
theorem kc_Builder_2 : ∀ o, kd o = 6 → kd (ch o 2) = 1 := fun o h => kall o (P := fun o => kd o = 6 → kd (ch o 2) = 1) (by decide +kernel) (by decide) h h
theorem kc_Builder_3 : ∀ o, kd o = 6 → kd (ch o 3) = 7 := fun o h => kall o (P := fun o => kd o = 6 → kd (ch o 3) = 7) (by decide +kernel) (by decide) h h
theorem kc_Builder_4 : ∀ o, kd o = 6 → kd (ch o 4) = 4 := fun o h => kall o (P := fun o => kd o = 6 → kd (ch o 4) = 4) (by decide +kernel) (by decide) h h
theorem kc_Builder_5 : ∀ o, kd o = 6 → kd (ch o 5) = 900 ∧ al (ch o 5) = 120 := fun o h => kall o (P := fun o => kd o = 6 → kd (ch o 5) = 900 ∧ al (ch o 5) = 120) (by decide +kernel) (by decide) h h
theorem kc_Piece_0 : ∀ o, kd o = 7 → kd (ch o 0) = 900 ∧ al (ch o 0) = 16 := fun o h => kall o (P := fun o => kd o = 7 → kd (ch o 0) = 900 ∧ al (ch o 0) = 16) (by decide +kernel) (by decide) h h
theorem kc_Machine_0 : ∀ o, kd o = 8 → kd (ch o 0) = 9 := fun o h => kall o (P := fun o => kd o = 8 → kd (ch o 0) = 9) (by decide +kernel) (by decide) h h
theorem kc_Machine_7 : ∀ o, kd o = 8 → kd (ch o 7) = 900 ∧ al (ch o 7) = 8 := fun o h => kall o (P := fun o => kd o = 8 → kd (ch o 7) = 900 ∧ al (ch o 7) = 8) (by decide +kernel) (by decide) h h
theorem kc_Machine_8 : ∀ o, kd o = 8 → kd (ch o 8) = 900 ∧ al (ch o 8) = 1024 := fun o h => kall o (P := fun o => kd o = 8 → kd (ch o 8) = 900 ∧ al (ch o 8) = 1024) (by decide +kernel) (by decide) h h
theorem kc_Machine_9 : ∀ o, kd o = 8 → kd (ch o 9) = 900 ∧ al (ch o 9) = 50 := fun o h => kall o (P := fun o => kd o = 8 → kd (ch o 9) = 900 ∧ al (ch o 9) = 50) (by decide +kernel) (by decide) h h
theorem kc_Machine_12 : ∀ o, kd o = 8 → kd (ch o 12) = 900 ∧ al (ch o 12) = 100 := fun o h => kall o (P := fun o => kd o = 8 → kd (ch o 12) = 900 ∧ al (ch o 12) = 100) (by decide +kernel) (by decide) h h
theorem kc_Runner_0 : ∀ o, kd o = 10 → kd (ch o 0) = 1 := fun o h => kall o (P := fun o => kd o = 10 → kd (ch o 0) = 1) (by decide +kernel) (by decide) h h
theorem kc_Runner_1 : ∀ o, kd o = 10 → kd (ch o 1) = 3 := fun o h => kall o (P := fun o => kd o = 10 → kd (ch o 1) = 3) (by decide +kernel) (by decide) h h
theorem kc_Runner_2 : ∀ o, kd o = 10 → kd (ch o 2) = 8 := fun o h => kall o (P := fun o => kd o = 10 → kd (ch o 2) = 8) (by decide +kernel) (by decide) h h
theorem kc_Walker_0 : ∀ o, kd o = 11 → kd (ch o 0) = 5 := fun o h => kall o (P := fun o => kd o = 11 → kd (ch o 0) = 5) (by decide +kernel) (by decide) h h
theorem kc_Walker_1 : ∀ o, kd o = 11 → kd (ch o 1) = 8 := fun o h => kall o (P := fun o => kd o = 11 → kd (ch o 1) = 8) (by decide +kernel) (by decide) h h
theorem kc_Walker_2 : ∀ o, kd o = 11 → kd (ch o 2) = 4 := fun o h => kall o (P := fun o => kd o = 11 → kd (ch o 2) = 4) (by decide +kernel) (by decide) h h
theorem kc_Mo_1 : ∀ o, kd o = 12 → kd (ch o 1) = 900 ∧ al (ch o 1) = 1100 := fun o h => kall o (P := fun o => kd o = 12 → kd (ch o 1) = 900 ∧ al (ch o 1) = 1100) (by decide +kernel) (by decide) h h
theorem kc_Mo_5 : ∀ o, kd o = 12 → kd (ch o 5) = 900 ∧ al (ch o 5) = 1024 := fun o h => kall o (P := fun o => kd o = 12 → kd (ch o 5) = 900 ∧ al (ch o 5) = 1024) (by decide +kernel) (by decide) h h
theorem kc_Mo_7 : ∀ o, kd o = 12 → kd (ch o 7) = 900 ∧ al (ch o 7) = 1024 := fun o h => kall o (P := fun o => kd o = 12 → kd (ch o 7) = 900 ∧ al (ch o 7) = 1024) (by decide +kernel) (by decide) h h
theorem kc_Mo_11 : ∀ o, kd o = 12 → kd (ch o 11) = 900 ∧ al (ch o 11) = 240 := fun o h => kall o (P := fun o => kd o = 12 → kd (ch o 11) = 900 ∧ al (ch o 11) = 240) (by decide +kernel) (by decide) h h
theorem kc_Mo_12 : ∀ o, kd o = 12 → kd (ch o 12) = 900 ∧ al (ch o 12) = 240 := fun o h => kall o (P := fun o => kd o = 12 → kd (ch o 12) = 900 ∧ al (ch o 12) = 240) (by decide +kernel) (by decide) h h
theorem kc_Mo_13 : ∀ o, kd o = 12 → kd (ch o 13) = 900 ∧ al (ch o 13) = 240 := fun o h => kall o (P := fun o => kd o = 12 → kd (ch o 13) = 900 ∧ al (ch o 13) = 240) (by decide +kernel) (by decide) h h
theorem kc_Mo_14 : ∀ o, kd o = 12 → kd (ch o 14) = 900 ∧ al (ch o 14) = 240 := fun o h => kall o (P := fun o => kd o = 12 → kd (ch o 14) = 900 ∧ al (ch o 14) = 240) (by decide +kernel) (by decide) h h
theorem kc_Mo_15 : ∀ o, kd o = 12 → kd (ch o 15) = 900 ∧ al (ch o 15) = 240 := fun o h => kall o (P := fun o => kd o = 12 → kd (ch o 15) = 900 ∧ al (ch o 15) = 240) (by decide +kernel) (by decide) h h
theorem kc_Mo_16 : ∀ o, kd o = 12 → kd (ch o 16) = 900 ∧ al (ch o 16) = 240 := fun o h => kall o (P := fun o => kd o = 12 → kd (ch o 16) = 900 ∧ al (ch o 16) = 240) (by decide +kernel) (by decide) h h
theorem kc_Mo_17 : ∀ o, kd o = 12 → kd (ch o 17) = 900 ∧ al (ch o 17) = 240 := fun o h => kall o (P := fun o => kd o = 12 → kd (ch o 17) = 900 ∧ al (ch o 17) = 240) (by decide +kernel) (by decide) h h
theorem kc_Mo_18 : ∀ o, kd o = 12 → kd (ch o 18) = 900 ∧ al (ch o 18) = 240 := fun o h => kall o (P := fun o => kd o = 12 → kd (ch o 18) = 900 ∧ al (ch o 18) = 240) (by decide +kernel) (by decide) h h
theorem kc_Mo_19 : ∀ o, kd o = 12 → kd (ch o 19) = 900 ∧ al (ch o 19) = 80 := fun o h => kall o (P := fun o => kd o = 12 → kd (ch o 19) = 900 ∧ al (ch o 19) = 80) (by decide +kernel) (by decide) h h
theorem kc_Mo_20 : ∀ o, kd o = 12 → kd (ch o 20) = 900 ∧ al (ch o 20) = 80 := fun o h => kall o (P := fun o => kd o = 12 → kd (ch o 20) = 900 ∧ al (ch o 20) = 80) (by decide +kernel) (by decide) h h
theorem kc_Mo_21 : ∀ o, kd o = 12 → kd (ch o 21) = 902 ∧ al (ch o 21) = 120 := fun o h => kall o (P := fun o => kd o = 12 → kd (ch o 21) = 902 ∧ al (ch o 21) = 120) (by decide +kernel) (by decide) h h
theorem kc_Mo_23 : ∀ o, kd o = 12 → kd (ch o 23) = 900 ∧ al (ch o 23) = 6000 := fun o h => kall o (P := fun o => kd o = 12 → kd (ch o 23) = 900 ∧ al (ch o 23) = 6000) (by decide +kernel) (by decide) h h
theorem kc_Mo_24 : ∀ o, kd o = 12 → kd (ch o 24) = 900 ∧ al (ch o 24) = 16 := fun o h => kall o (P := fun o => kd o = 12 → kd (ch o 24) = 900 ∧ al (ch o 24) = 16) (by decide +kernel) (by decide) h h
theorem kc_Mo_26 : ∀ o, kd o = 12 → kd (ch o 26) = 900 ∧ al (ch o 26) = 8 := fun o h => kall o (P := fun o => kd o = 12 → kd (ch o 26) = 900 ∧ al (ch o 26) = 8) (by decide +kernel) (by decide) h h
theorem kc_Mo_27 : ∀ o, kd o = 12 → kd (ch o 27) = 900 ∧ al (ch o 27) = 1024 := fun o h => kall o (P := fun o => kd o = 12 → kd (ch o 27) = 900 ∧ al (ch o 27) = 1024) (by decide +kernel) (by decide) h h
theorem kc_Mo_28 : ∀ o, kd o = 12 → kd (ch o 28) = 900 ∧ al (ch o 28) = 50 := fun o h => kall o (P := fun o => kd o = 12 → kd (ch o 28) = 900 ∧ al (ch o 28) = 50) (by decide +kernel) (by decide) h h
theorem kc_Mo_30 : ∀ o, kd o = 12 → kd (ch o 30) = 902 ∧ al (ch o 30) = 2 := fun o h => kall o (P := fun o => kd o = 12 → kd (ch o 30) = 902 ∧ al (ch o 30) = 2) (by decide +kernel) (by decide) h h
theorem kc_Mo_31 : ∀ o, kd o = 12 → kd (ch o 31) = 900 ∧ al (ch o 31) = 16 := fun o h => kall o (P := fun o => kd o = 12 → kd (ch o 31) = 900 ∧ al (ch o 31) = 16) (by decide +kernel) (by decide) h h
theorem kc_Mo_32 : ∀ o, kd o = 12 → kd (ch o 32) = 900 ∧ al (ch o 32) = 8 := fun o h => kall o (P := fun o => kd o = 12 → kd (ch o 32) = 900 ∧ al (ch o 32) = 8) (by decide +kernel) (by decide) h h
theorem kc_Mo_33 : ∀ o, kd o = 12 → kd (ch o 33) = 900 ∧ al (ch o 33) = 2048 := fun o h => kall o (P := fun o => kd o = 12 → kd (ch o 33) = 900 ∧ al (ch o 33) = 2048) (by decide +kernel) (by decide) h h
theorem kc_Mo_34 : ∀ o, kd o = 12 → kd (ch o 34) = 900 ∧ al (ch o 34) = 200 := fun o h => kall o (P := fun o => kd o = 12 → kd (ch o 34) = 900 ∧ al (ch o 34) = 200) (by decide +kernel) (by decide) h h
theorem kc_Mo_35 : ∀ o, kd o = 12 → kd (ch o 35) = 900 ∧ al (ch o 35) = 2 := fun o h => kall o (P := fun o => kd o = 12 → kd (ch o 35) = 900 ∧ al (ch o 35) = 2) (by decide +kernel) (by decide) h h
theorem kc_Mo_36 : ∀ o, kd o = 12 → kd (ch o 36) = 900 ∧ al (ch o 36) = 2 := fun o h => kall o (P := fun o => kd o = 12 → kd (ch o 36) = 900 ∧ al (ch o 36) = 2) (by decide +kernel) (by decide) h h
theorem kc_Mo_37 : ∀ o, kd o = 12 → kd (ch o 37) = 900 ∧ al (ch o 37) = 2 := fun o h => kall o (P := fun o => kd o = 12 → kd (ch o 37) = 900 ∧ al (ch o 37) = 2) (by decide +kernel) (by decide) h h
theorem kc_Mo_38 : ∀ o, kd o = 12 → kd (ch o 38) = 900 ∧ al (ch o 38) = 2 := fun o h => kall o (P := fun o => kd o = 12 → kd (ch o 38) = 900 ∧ al (ch o 38) = 2) (by decide +kernel) (by decide) h h
theorem kc_Mo_54 : ∀ o, kd o = 12 → kd (ch o 54) = 900 ∧ al (ch o 54) = 1024 := fun o h => kall o (P := fun o => kd o = 12 → kd (ch o 54) = 900 ∧ al (ch o 54) = 1024) (by decide +kernel) (by decide) h h
def FORMS : Nat → Int32 := fun i => ([124, 124, 124, 124, 124, 124, 124, 124, 124, 20, 8, 12, 130, 130, 96, 96, 96, 2, 2, 258, 2, 1, 1] : List Int32).getD i 0
def FORMN : Nat := 23
def NW : List Cond := [(Jvm.Cond.methodLinkNest "BundleHouse" (11 : Nat) ({ cls := "BundleHouse$Strip", name := "<init>", desc := "()V" } : Jvm.MethodName) "BundleHouse"), (Jvm.Cond.methodLinkNest "BundleHouse$Reader" (11 : Nat) ({ cls := "BundleHouse$Instruction", name := "<init>", desc := "()V" } : Jvm.MethodName) "BundleHouse"), (Jvm.Cond.methodLinkNest "BundleHouse" (40 : Nat) ({ cls := "BundleHouse$Program", name := "<init>", desc := "()V" } : Jvm.MethodName) "BundleHouse"), (Jvm.Cond.methodLinkNest "BundleHouse$Builder" (17 : Nat) ({ cls := "BundleHouse$Piece", name := "<init>", desc := "()V" } : Jvm.MethodName) "BundleHouse"), (Jvm.Cond.methodLinkNest "BundleHouse$Builder" (24 : Nat) ({ cls := "BundleHouse$Instruction", name := "<init>", desc := "()V" } : Jvm.MethodName) "BundleHouse"), (Jvm.Cond.methodLinkNest "BundleHouse" (59 : Nat) ({ cls := "BundleHouse$Machine", name := "<init>", desc := "()V" } : Jvm.MethodName) "BundleHouse"), (Jvm.Cond.methodLinkNest "BundleHouse$Machine" (11 : Nat) ({ cls := "BundleHouse$Flags", name := "<init>", desc := "()V" } : Jvm.MethodName) "BundleHouse"), (Jvm.Cond.methodLinkNest "BundleHouse$Walker" (11 : Nat) ({ cls := "BundleHouse$Instruction", name := "<init>", desc := "()V" } : Jvm.MethodName) "BundleHouse"), (Jvm.Cond.methodLinkNest "BundleHouse$Reader" (91 : Nat) ({ cls := "BundleHouse", name := "isCondition", desc := "(I)Z" } : Jvm.MethodName) "BundleHouse"), (Jvm.Cond.methodLinkNest "BundleHouse$Policy" (89 : Nat) ({ cls := "BundleHouse", name := "isService", desc := "(I)Z" } : Jvm.MethodName) "BundleHouse"), (Jvm.Cond.methodLinkNest "BundleHouse$Program" (75 : Nat) ({ cls := "BundleHouse", name := "isLabel", desc := "(I)Z" } : Jvm.MethodName) "BundleHouse"), (Jvm.Cond.methodLinkNest "BundleHouse$Piece" (57 : Nat) ({ cls := "BundleHouse", name := "isSmall", desc := "(I)Z" } : Jvm.MethodName) "BundleHouse"), (Jvm.Cond.methodLinkNest "BundleHouse$Piece" (71 : Nat) ({ cls := "BundleHouse", name := "isMemoryForm", desc := "(I)Z" } : Jvm.MethodName) "BundleHouse"), (Jvm.Cond.methodLinkNest "BundleHouse$Piece" (87 : Nat) ({ cls := "BundleHouse", name := "isShift", desc := "(I)Z" } : Jvm.MethodName) "BundleHouse"), (Jvm.Cond.methodLinkNest "BundleHouse$Builder" (119 : Nat) ({ cls := "BundleHouse", name := "isSmall", desc := "(I)Z" } : Jvm.MethodName) "BundleHouse"), (Jvm.Cond.methodLinkNest "BundleHouse$Machine" (90 : Nat) ({ cls := "BundleHouse", name := "isRegister", desc := "(I)Z" } : Jvm.MethodName) "BundleHouse"), (Jvm.Cond.methodLinkNest "BundleHouse$Machine" (93 : Nat) ({ cls := "BundleHouse", name := "isWord", desc := "(I)Z" } : Jvm.MethodName) "BundleHouse"), (Jvm.Cond.methodLinkNest "BundleHouse$Runner" (29 : Nat) ({ cls := "BundleHouse", name := "isService", desc := "(I)Z" } : Jvm.MethodName) "BundleHouse"), (Jvm.Cond.methodLinkNest "BundleHouse$Machine" (112 : Nat) ({ cls := "BundleHouse", name := "isMemoryForm", desc := "(I)Z" } : Jvm.MethodName) "BundleHouse"), (Jvm.Cond.methodLinkNest "BundleHouse$Program" (92 : Nat) ({ cls := "BundleHouse", name := "isService", desc := "(I)Z" } : Jvm.MethodName) "BundleHouse")]
theorem NW_all : ∀ w ∈ NW, ∃ (a : String) (i : Nat) (x : MethodName) (b : String), w = .methodLinkNest a i x b := by
  intro w hw
  unfold NW at hw
  repeat (rcases List.mem_cons.mp hw with h | hw; exact ⟨_, _, _, _, h⟩)
  cases hw
def DCL : List MethodName := [({ cls := "java/lang/RuntimeException", name := "<init>", desc := "()V" } : Jvm.MethodName), ({ cls := "java/lang/RuntimeException", name := "<init>", desc := "(Ljava/lang/String;)V" } : Jvm.MethodName), ({ cls := "java/lang/Exception", name := "<init>", desc := "()V" } : Jvm.MethodName), ({ cls := "java/lang/Exception", name := "<init>", desc := "(Ljava/lang/String;)V" } : Jvm.MethodName), ({ cls := "java/lang/Throwable", name := "<init>", desc := "()V" } : Jvm.MethodName), ({ cls := "java/lang/Throwable", name := "<init>", desc := "(Ljava/lang/String;)V" } : Jvm.MethodName)]
def STR : List (Nat × String) := [(156, "no such what"), (165, "no INSTRUCTION there"), (206, "there is no CODE"), (211, "fuel is not 1 .. 5000"), (221, "there is no PROGRAM"), (227, "no such RUN, WALK or what"), (234, "no such number")]
theorem nw_0 : (Jvm.Cond.methodLinkNest "BundleHouse" (11 : Nat) ({ cls := "BundleHouse$Strip", name := "<init>", desc := "()V" } : Jvm.MethodName) "BundleHouse") ∈ NW := List.mem_of_getElem? (i := 0) rfl
theorem nw_1 : (Jvm.Cond.methodLinkNest "BundleHouse$Reader" (11 : Nat) ({ cls := "BundleHouse$Instruction", name := "<init>", desc := "()V" } : Jvm.MethodName) "BundleHouse") ∈ NW := List.mem_of_getElem? (i := 1) rfl
theorem nw_2 : (Jvm.Cond.methodLinkNest "BundleHouse" (40 : Nat) ({ cls := "BundleHouse$Program", name := "<init>", desc := "()V" } : Jvm.MethodName) "BundleHouse") ∈ NW := List.mem_of_getElem? (i := 2) rfl
theorem nw_3 : (Jvm.Cond.methodLinkNest "BundleHouse$Builder" (17 : Nat) ({ cls := "BundleHouse$Piece", name := "<init>", desc := "()V" } : Jvm.MethodName) "BundleHouse") ∈ NW := List.mem_of_getElem? (i := 3) rfl
theorem nw_4 : (Jvm.Cond.methodLinkNest "BundleHouse$Builder" (24 : Nat) ({ cls := "BundleHouse$Instruction", name := "<init>", desc := "()V" } : Jvm.MethodName) "BundleHouse") ∈ NW := List.mem_of_getElem? (i := 4) rfl
theorem nw_5 : (Jvm.Cond.methodLinkNest "BundleHouse" (59 : Nat) ({ cls := "BundleHouse$Machine", name := "<init>", desc := "()V" } : Jvm.MethodName) "BundleHouse") ∈ NW := List.mem_of_getElem? (i := 5) rfl
theorem nw_6 : (Jvm.Cond.methodLinkNest "BundleHouse$Machine" (11 : Nat) ({ cls := "BundleHouse$Flags", name := "<init>", desc := "()V" } : Jvm.MethodName) "BundleHouse") ∈ NW := List.mem_of_getElem? (i := 6) rfl
theorem nw_7 : (Jvm.Cond.methodLinkNest "BundleHouse$Walker" (11 : Nat) ({ cls := "BundleHouse$Instruction", name := "<init>", desc := "()V" } : Jvm.MethodName) "BundleHouse") ∈ NW := List.mem_of_getElem? (i := 7) rfl
theorem nw_8 : (Jvm.Cond.methodLinkNest "BundleHouse$Reader" (91 : Nat) ({ cls := "BundleHouse", name := "isCondition", desc := "(I)Z" } : Jvm.MethodName) "BundleHouse") ∈ NW := List.mem_of_getElem? (i := 8) rfl
theorem nw_9 : (Jvm.Cond.methodLinkNest "BundleHouse$Policy" (89 : Nat) ({ cls := "BundleHouse", name := "isService", desc := "(I)Z" } : Jvm.MethodName) "BundleHouse") ∈ NW := List.mem_of_getElem? (i := 9) rfl
theorem nw_10 : (Jvm.Cond.methodLinkNest "BundleHouse$Program" (75 : Nat) ({ cls := "BundleHouse", name := "isLabel", desc := "(I)Z" } : Jvm.MethodName) "BundleHouse") ∈ NW := List.mem_of_getElem? (i := 10) rfl
theorem nw_11 : (Jvm.Cond.methodLinkNest "BundleHouse$Piece" (57 : Nat) ({ cls := "BundleHouse", name := "isSmall", desc := "(I)Z" } : Jvm.MethodName) "BundleHouse") ∈ NW := List.mem_of_getElem? (i := 11) rfl
theorem nw_12 : (Jvm.Cond.methodLinkNest "BundleHouse$Piece" (71 : Nat) ({ cls := "BundleHouse", name := "isMemoryForm", desc := "(I)Z" } : Jvm.MethodName) "BundleHouse") ∈ NW := List.mem_of_getElem? (i := 12) rfl
theorem nw_13 : (Jvm.Cond.methodLinkNest "BundleHouse$Piece" (87 : Nat) ({ cls := "BundleHouse", name := "isShift", desc := "(I)Z" } : Jvm.MethodName) "BundleHouse") ∈ NW := List.mem_of_getElem? (i := 13) rfl
theorem nw_14 : (Jvm.Cond.methodLinkNest "BundleHouse$Builder" (119 : Nat) ({ cls := "BundleHouse", name := "isSmall", desc := "(I)Z" } : Jvm.MethodName) "BundleHouse") ∈ NW := List.mem_of_getElem? (i := 14) rfl
theorem nw_15 : (Jvm.Cond.methodLinkNest "BundleHouse$Machine" (90 : Nat) ({ cls := "BundleHouse", name := "isRegister", desc := "(I)Z" } : Jvm.MethodName) "BundleHouse") ∈ NW := List.mem_of_getElem? (i := 15) rfl
theorem nw_16 : (Jvm.Cond.methodLinkNest "BundleHouse$Machine" (93 : Nat) ({ cls := "BundleHouse", name := "isWord", desc := "(I)Z" } : Jvm.MethodName) "BundleHouse") ∈ NW := List.mem_of_getElem? (i := 16) rfl
theorem nw_17 : (Jvm.Cond.methodLinkNest "BundleHouse$Runner" (29 : Nat) ({ cls := "BundleHouse", name := "isService", desc := "(I)Z" } : Jvm.MethodName) "BundleHouse") ∈ NW := List.mem_of_getElem? (i := 17) rfl
theorem nw_18 : (Jvm.Cond.methodLinkNest "BundleHouse$Machine" (112 : Nat) ({ cls := "BundleHouse", name := "isMemoryForm", desc := "(I)Z" } : Jvm.MethodName) "BundleHouse") ∈ NW := List.mem_of_getElem? (i := 18) rfl
theorem nw_19 : (Jvm.Cond.methodLinkNest "BundleHouse$Program" (92 : Nat) ({ cls := "BundleHouse", name := "isService", desc := "(I)Z" } : Jvm.MethodName) "BundleHouse") ∈ NW := List.mem_of_getElem? (i := 19) rfl
