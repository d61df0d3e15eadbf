def RX0 : String := "RandomWalks$Costs"
def TX0 : u_T := fun k => match k with
  | 0 => ("RandomWalks$Costs", "stack", "[I", true)
  | _ => ("RandomWalks$Costs", "table", "[I", true)
def tyX0 : Nat → FieldType := fun k => match k with
  | 0 => .array .int
  | _ => .array .int
abbrev wsX00 : List Cond := u_ws RX0 TX0 2
theorem nmX0 : ∀ a, a < 2 → ∀ b, b < 2 → a ≠ b → (TX0 a).2.1 ≠ (TX0 b).2.1 := by decide +kernel
theorem tyX0_ok : ∀ k, k < 2 → parseFieldDescriptor (TX0 k).2.2.1 = some (tyX0 k) := by decide +kernel
abbrev cX0_init : ByteArray := prog_2_method_1_code
def yX0_init : MethodName := ⟨RX0, "<init>", "()V"⟩
abbrev cX0_costOfStep : ByteArray := prog_2_method_2_code
def yX0_costOfStep : MethodName := ⟨RX0, "costOfStep", "(LRandomWalks$Graph;II)I"⟩
abbrev cX0_fillTable : ByteArray := prog_2_method_3_code
def yX0_fillTable : MethodName := ⟨RX0, "fillTable", "(LRandomWalks$Graph;)V"⟩
abbrev cX0_tabled : ByteArray := prog_2_method_4_code
def yX0_tabled : MethodName := ⟨RX0, "tabled", "(II)I"⟩
abbrev cX0_evaluate : ByteArray := prog_2_method_5_code
def yX0_evaluate : MethodName := ⟨RX0, "evaluate", "([IIII)I"⟩
abbrev cX0_operand : ByteArray := prog_2_method_6_code
def yX0_operand : MethodName := ⟨RX0, "operand", "(IIII)I"⟩
abbrev cX0_operate : ByteArray := prog_2_method_7_code
def yX0_operate : MethodName := ⟨RX0, "operate", "(IJJ)I"⟩
def RX1 : String := "RandomWalks$Equations"
def TX1 : u_T := fun k => match k with
  | 0 => ("RandomWalks$Equations", "cells", "[J", true)
  | 1 => ("RandomWalks$Equations", "unknown", "[I", true)
  | 2 => ("RandomWalks$Equations", "noGains", "[J", true)
  | _ => ("RandomWalks$Equations", "count", "I", false)
def tyX1 : Nat → FieldType := fun k => match k with
  | 0 => .array .long
  | 1 => .array .int
  | 2 => .array .long
  | _ => .int
abbrev wsX10 : List Cond := u_ws RX1 TX1 4
theorem nmX1 : ∀ a, a < 4 → ∀ b, b < 4 → a ≠ b → (TX1 a).2.1 ≠ (TX1 b).2.1 := by decide +kernel
theorem tyX1_ok : ∀ k, k < 4 → parseFieldDescriptor (TX1 k).2.2.1 = some (tyX1 k) := by decide +kernel
abbrev cX1_init : ByteArray := prog_3_method_1_code
def yX1_init : MethodName := ⟨RX1, "<init>", "()V"⟩
abbrev cX1_meanUntil : ByteArray := prog_3_method_2_code
def yX1_meanUntil : MethodName := ⟨RX1, "meanUntil", "(LRandomWalks$Graph;II[JLRandomWalks$Fraction;)V"⟩
abbrev cX1_solve : ByteArray := prog_3_method_3_code
def yX1_solve : MethodName := ⟨RX1, "solve", "(LRandomWalks$Graph;II[JLRandomWalks$Fraction;)V"⟩
abbrev cX1_treesOf : ByteArray := prog_3_method_4_code
def yX1_treesOf : MethodName := ⟨RX1, "treesOf", "(LRandomWalks$Graph;)J"⟩
abbrev cX1_build : ByteArray := prog_3_method_5_code
def yX1_build : MethodName := ⟨RX1, "build", "(LRandomWalks$Graph;II[J)V"⟩
abbrev cX1_eliminate : ByteArray := prog_3_method_6_code
def yX1_eliminate : MethodName := ⟨RX1, "eliminate", "()Z"⟩
abbrev cX1_cell : ByteArray := prog_3_method_7_code
def yX1_cell : MethodName := ⟨RX1, "cell", "(II)J"⟩
abbrev cX1_putCell : ByteArray := prog_3_method_8_code
def yX1_putCell : MethodName := ⟨RX1, "putCell", "(IIJ)V"⟩
def RX2 : String := "RandomWalks$Fraction"
def TX2 : u_T := fun k => match k with
  | 0 => ("RandomWalks$Fraction", "above", "J", false)
  | _ => ("RandomWalks$Fraction", "below", "J", false)
def tyX2 : Nat → FieldType := fun k => match k with
  | 0 => .long
  | _ => .long
abbrev wsX20 : List Cond := u_ws RX2 TX2 2
theorem nmX2 : ∀ a, a < 2 → ∀ b, b < 2 → a ≠ b → (TX2 a).2.1 ≠ (TX2 b).2.1 := by decide +kernel
theorem tyX2_ok : ∀ k, k < 2 → parseFieldDescriptor (TX2 k).2.2.1 = some (tyX2 k) := by decide +kernel
abbrev cX2_init : ByteArray := prog_4_method_1_code
def yX2_init : MethodName := ⟨RX2, "<init>", "()V"⟩
abbrev cX2_put : ByteArray := prog_4_method_2_code
def yX2_put : MethodName := ⟨RX2, "put", "(JJ)V"⟩
abbrev cX2_part : ByteArray := prog_4_method_5_code
def yX2_part : MethodName := ⟨RX2, "part", "(Z)J"⟩
abbrev cX2_commonDivisor : ByteArray := prog_4_method_6_code
def yX2_commonDivisor : MethodName := ⟨RX2, "commonDivisor", "(JJ)J"⟩
def RX3 : String := "RandomWalks$Graph"
def TX3 : u_T := fun k => match k with
  | 0 => ("RandomWalks$Graph", "vertices", "I", false)
  | 1 => ("RandomWalks$Graph", "edges", "I", false)
  | 2 => ("RandomWalks$Graph", "absorbing", "I", false)
  | 3 => ("RandomWalks$Graph", "blocks", "I", false)
  | 4 => ("RandomWalks$Graph", "low", "[I", true)
  | 5 => ("RandomWalks$Graph", "high", "[I", true)
  | 6 => ("RandomWalks$Graph", "weights", "[I", true)
  | 7 => ("RandomWalks$Graph", "block", "[I", true)
  | 8 => ("RandomWalks$Graph", "oldBlock", "[I", true)
  | _ => ("RandomWalks$Graph", "formula", "[I", false)
def tyX3 : Nat → FieldType := fun k => match k with
  | 0 => .int
  | 1 => .int
  | 2 => .int
  | 3 => .int
  | 4 => .array .int
  | 5 => .array .int
  | 6 => .array .int
  | 7 => .array .int
  | 8 => .array .int
  | _ => .array .int
abbrev wsX30 : List Cond := u_ws RX3 TX3 10
theorem nmX3 : ∀ a, a < 10 → ∀ b, b < 10 → a ≠ b → (TX3 a).2.1 ≠ (TX3 b).2.1 := by decide +kernel
theorem tyX3_ok : ∀ k, k < 10 → parseFieldDescriptor (TX3 k).2.2.1 = some (tyX3 k) := by decide +kernel
abbrev cX3_init : ByteArray := prog_5_method_1_code
def yX3_init : MethodName := ⟨RX3, "<init>", "()V"⟩
abbrev cX3_copyFrom : ByteArray := prog_5_method_2_code
def yX3_copyFrom : MethodName := ⟨RX3, "copyFrom", "(LRandomWalks$Graph;)V"⟩
abbrev cX3_clear : ByteArray := prog_5_method_3_code
def yX3_clear : MethodName := ⟨RX3, "clear", "(I)V"⟩
abbrev cX3_weightBetween : ByteArray := prog_5_method_4_code
def yX3_weightBetween : MethodName := ⟨RX3, "weightBetween", "(II)I"⟩
abbrev cX3_putWeight : ByteArray := prog_5_method_5_code
def yX3_putWeight : MethodName := ⟨RX3, "putWeight", "(III)V"⟩
abbrev cX3_putEdge : ByteArray := prog_5_method_6_code
def yX3_putEdge : MethodName := ⟨RX3, "putEdge", "(III)V"⟩
abbrev cX3_isAbsorbing : ByteArray := prog_5_method_8_code
def yX3_isAbsorbing : MethodName := ⟨RX3, "isAbsorbing", "(I)Z"⟩
abbrev cX3_sumOfWeights : ByteArray := prog_5_method_9_code
def yX3_sumOfWeights : MethodName := ⟨RX3, "sumOfWeights", "(I)I"⟩
abbrev cX3_component : ByteArray := prog_5_method_10_code
def yX3_component : MethodName := ⟨RX3, "component", "(I)I"⟩
abbrev cX3_hasWay : ByteArray := prog_5_method_11_code
def yX3_hasWay : MethodName := ⟨RX3, "hasWay", "(II)Z"⟩
abbrev cX3_stepChance : ByteArray := prog_5_method_12_code
def yX3_stepChance : MethodName := ⟨RX3, "stepChance", "(IILRandomWalks$Fraction;)V"⟩
abbrev cX3_uniteBlocks : ByteArray := prog_5_method_13_code
def yX3_uniteBlocks : MethodName := ⟨RX3, "uniteBlocks", "(II)V"⟩
abbrev cX3_numberBlocks : ByteArray := prog_5_method_15_code
def yX3_numberBlocks : MethodName := ⟨RX3, "numberBlocks", "()V"⟩
abbrev cX3_neighbours : ByteArray := prog_5_method_16_code
def yX3_neighbours : MethodName := ⟨RX3, "neighbours", "(I)I"⟩
def RX4 : String := "RandomWalks$History"
def TX4 : u_T := fun k => match k with
  | 0 => ("RandomWalks$History", "kept", "[LRandomWalks$Graph;", true)
  | 1 => ("RandomWalks$History", "next", "I", false)
  | _ => ("RandomWalks$History", "count", "I", false)
def tyX4 : Nat → FieldType := fun k => match k with
  | 0 => .array (.object "RandomWalks$Graph")
  | 1 => .int
  | _ => .int
abbrev wsX40 : List Cond := u_ws RX4 TX4 3
theorem nmX4 : ∀ a, a < 3 → ∀ b, b < 3 → a ≠ b → (TX4 a).2.1 ≠ (TX4 b).2.1 := by decide +kernel
theorem tyX4_ok : ∀ k, k < 3 → parseFieldDescriptor (TX4 k).2.2.1 = some (tyX4 k) := by decide +kernel
abbrev cX4_init : ByteArray := prog_6_method_1_code
def yX4_init : MethodName := ⟨RX4, "<init>", "()V"⟩
abbrev cX4_keep : ByteArray := prog_6_method_2_code
def yX4_keep : MethodName := ⟨RX4, "keep", "(LRandomWalks$Graph;)V"⟩
def RX5 : String := "RandomWalks$Partition"
def TX5 : u_T := fun k => match k with
  | 0 => ("RandomWalks$Partition", "lump", "LRandomWalks$Graph;", true)
  | 1 => ("RandomWalks$Partition", "lumpGains", "[J", true)
  | _ => ("RandomWalks$Partition", "finer", "[I", true)
def tyX5 : Nat → FieldType := fun k => match k with
  | 0 => .object "RandomWalks$Graph"
  | 1 => .array .long
  | _ => .array .int
abbrev wsX50 : List Cond := u_ws RX5 TX5 3
theorem nmX5 : ∀ a, a < 3 → ∀ b, b < 3 → a ≠ b → (TX5 a).2.1 ≠ (TX5 b).2.1 := by decide +kernel
theorem tyX5_ok : ∀ k, k < 3 → parseFieldDescriptor (TX5 k).2.2.1 = some (tyX5 k) := by decide +kernel
abbrev cX5_init : ByteArray := prog_7_method_1_code
def yX5_init : MethodName := ⟨RX5, "<init>", "()V"⟩
def RX6 : String := "RandomWalks$Reader"
def TX6 : u_T := fun k => match k with
  | 0 => ("RandomWalks$Reader", "tokens", "LRandomWalks$Tokens;", true)
  | 1 => ("RandomWalks$Reader", "draft", "LRandomWalks$Graph;", true)
  | 2 => ("RandomWalks$Reader", "error", "I", false)
  | 3 => ("RandomWalks$Reader", "errorAt", "I", false)
  | 4 => ("RandomWalks$Reader", "next", "I", false)
  | 5 => ("RandomWalks$Reader", "kind", "I", false)
  | 6 => ("RandomWalks$Reader", "start", "I", false)
  | 7 => ("RandomWalks$Reader", "value", "I", false)
  | 8 => ("RandomWalks$Reader", "hasCost", "Z", false)
  | 9 => ("RandomWalks$Reader", "code", "[I", true)
  | 10 => ("RandomWalks$Reader", "codeLength", "I", false)
  | 11 => ("RandomWalks$Reader", "waiting", "[I", true)
  | _ => ("RandomWalks$Reader", "waitingCount", "I", false)
def tyX6 : Nat → FieldType := fun k => match k with
  | 0 => .object "RandomWalks$Tokens"
  | 1 => .object "RandomWalks$Graph"
  | 2 => .int
  | 3 => .int
  | 4 => .int
  | 5 => .int
  | 6 => .int
  | 7 => .int
  | 8 => .boolean
  | 9 => .array .int
  | 10 => .int
  | 11 => .array .int
  | _ => .int
abbrev wsX60 : List Cond := u_ws RX6 TX6 13
theorem nmX6 : ∀ a, a < 13 → ∀ b, b < 13 → a ≠ b → (TX6 a).2.1 ≠ (TX6 b).2.1 := by decide +kernel
theorem tyX6_ok : ∀ k, k < 13 → parseFieldDescriptor (TX6 k).2.2.1 = some (tyX6 k) := by decide +kernel
abbrev cX6_init : ByteArray := prog_8_method_1_code
def yX6_init : MethodName := ⟨RX6, "<init>", "()V"⟩
abbrev cX6_readSetup : ByteArray := prog_8_method_2_code
def yX6_readSetup : MethodName := ⟨RX6, "readSetup", "()Z"⟩
abbrev cX6_readStatement : ByteArray := prog_8_method_3_code
def yX6_readStatement : MethodName := ⟨RX6, "readStatement", "()Z"⟩
abbrev cX6_readEdge : ByteArray := prog_8_method_4_code
def yX6_readEdge : MethodName := ⟨RX6, "readEdge", "()Z"⟩
abbrev cX6_readAbsorb : ByteArray := prog_8_method_5_code
def yX6_readAbsorb : MethodName := ⟨RX6, "readAbsorb", "()Z"⟩
abbrev cX6_readJoin : ByteArray := prog_8_method_6_code
def yX6_readJoin : MethodName := ⟨RX6, "readJoin", "()Z"⟩
abbrev cX6_readCost : ByteArray := prog_8_method_7_code
def yX6_readCost : MethodName := ⟨RX6, "readCost", "()Z"⟩
abbrev cX6_readFactor : ByteArray := prog_8_method_8_code
def yX6_readFactor : MethodName := ⟨RX6, "readFactor", "()Z"⟩
abbrev cX6_emit : ByteArray := prog_8_method_9_code
def yX6_emit : MethodName := ⟨RX6, "emit", "(I)V"⟩
abbrev cX6_postpone : ByteArray := prog_8_method_10_code
def yX6_postpone : MethodName := ⟨RX6, "postpone", "(I)V"⟩
abbrev cX6_release : ByteArray := prog_8_method_11_code
def yX6_release : MethodName := ⟨RX6, "release", "(I)V"⟩
abbrev cX6_strength : ByteArray := prog_8_method_12_code
def yX6_strength : MethodName := ⟨RX6, "strength", "(I)I"⟩
abbrev cX6_operation : ByteArray := prog_8_method_13_code
def yX6_operation : MethodName := ⟨RX6, "operation", "(I)I"⟩
abbrev cX6_readVertex : ByteArray := prog_8_method_14_code
def yX6_readVertex : MethodName := ⟨RX6, "readVertex", "()Z"⟩
abbrev cX6_readNumber : ByteArray := prog_8_method_15_code
def yX6_readNumber : MethodName := ⟨RX6, "readNumber", "(II)Z"⟩
abbrev cX6_readSemicolon : ByteArray := prog_8_method_16_code
def yX6_readSemicolon : MethodName := ⟨RX6, "readSemicolon", "()Z"⟩
abbrev cX6_takeToken : ByteArray := prog_8_method_17_code
def yX6_takeToken : MethodName := ⟨RX6, "takeToken", "()V"⟩
abbrev cX6_fail : ByteArray := prog_8_method_18_code
def yX6_fail : MethodName := ⟨RX6, "fail", "(I)Z"⟩
def RX7 : String := "RandomWalks$Spread"
def TX7 : u_T := fun k => match k with
  | 0 => ("RandomWalks$Spread", "chances", "[F", true)
  | 1 => ("RandomWalks$Spread", "now", "[F", true)
  | 2 => ("RandomWalks$Spread", "next", "[F", true)
  | _ => ("RandomWalks$Spread", "chance", "LRandomWalks$Fraction;", true)
def tyX7 : Nat → FieldType := fun k => match k with
  | 0 => .array .float
  | 1 => .array .float
  | 2 => .array .float
  | _ => .object "RandomWalks$Fraction"
abbrev wsX70 : List Cond := u_ws RX7 TX7 4
theorem nmX7 : ∀ a, a < 4 → ∀ b, b < 4 → a ≠ b → (TX7 a).2.1 ≠ (TX7 b).2.1 := by decide +kernel
theorem tyX7_ok : ∀ k, k < 4 → parseFieldDescriptor (TX7 k).2.2.1 = some (tyX7 k) := by decide +kernel
abbrev cX7_init : ByteArray := prog_9_method_1_code
def yX7_init : MethodName := ⟨RX7, "<init>", "()V"⟩
abbrev cX7_chanceAfter : ByteArray := prog_9_method_2_code
def yX7_chanceAfter : MethodName := ⟨RX7, "chanceAfter", "(LRandomWalks$Graph;III)F"⟩
abbrev cX7_fillChances : ByteArray := prog_9_method_3_code
def yX7_fillChances : MethodName := ⟨RX7, "fillChances", "(LRandomWalks$Graph;)V"⟩
abbrev cX7_chanceAt : ByteArray := prog_9_method_4_code
def yX7_chanceAt : MethodName := ⟨RX7, "chanceAt", "(LRandomWalks$Graph;I)F"⟩
def RX8 : String := "RandomWalks$Stroll"
def TX8 : u_T := fun k => match k with
  | 0 => ("RandomWalks$Stroll", "drawing", "J", false)
  | 1 => ("RandomWalks$Stroll", "place", "I", false)
  | 2 => ("RandomWalks$Stroll", "seen", "I", false)
  | 3 => ("RandomWalks$Stroll", "cost", "I", false)
  | _ => ("RandomWalks$Stroll", "stepsUntilAbsorbing", "I", false)
def tyX8 : Nat → FieldType := fun k => match k with
  | 0 => .long
  | 1 => .int
  | 2 => .int
  | 3 => .int
  | _ => .int
abbrev wsX80 : List Cond := u_ws RX8 TX8 5
theorem nmX8 : ∀ a, a < 5 → ∀ b, b < 5 → a ≠ b → (TX8 a).2.1 ≠ (TX8 b).2.1 := by decide +kernel
theorem tyX8_ok : ∀ k, k < 5 → parseFieldDescriptor (TX8 k).2.2.1 = some (tyX8 k) := by decide +kernel
abbrev cX8_init : ByteArray := prog_10_method_1_code
def yX8_init : MethodName := ⟨RX8, "<init>", "()V"⟩
abbrev cX8_go : ByteArray := prog_10_method_2_code
def yX8_go : MethodName := ⟨RX8, "go", "(LRandomWalks$Graph;LRandomWalks$Costs;III)V"⟩
abbrev cX8_told : ByteArray := prog_10_method_3_code
def yX8_told : MethodName := ⟨RX8, "told", "(I)I"⟩
abbrev cX8_drawStep : ByteArray := prog_10_method_4_code
def yX8_drawStep : MethodName := ⟨RX8, "drawStep", "(LRandomWalks$Graph;)I"⟩
def RX9 : String := "RandomWalks$Tokens"
def TX9 : u_T := fun k => match k with
  | 0 => ("RandomWalks$Tokens", "text", "[B", true)
  | 1 => ("RandomWalks$Tokens", "held", "I", false)
  | 2 => ("RandomWalks$Tokens", "kinds", "[I", true)
  | 3 => ("RandomWalks$Tokens", "starts", "[I", true)
  | 4 => ("RandomWalks$Tokens", "values", "[I", true)
  | _ => ("RandomWalks$Tokens", "count", "I", false)
def tyX9 : Nat → FieldType := fun k => match k with
  | 0 => .array .byte
  | 1 => .int
  | 2 => .array .int
  | 3 => .array .int
  | 4 => .array .int
  | _ => .int
abbrev wsX90 : List Cond := u_ws RX9 TX9 6
theorem nmX9 : ∀ a, a < 6 → ∀ b, b < 6 → a ≠ b → (TX9 a).2.1 ≠ (TX9 b).2.1 := by decide +kernel
theorem tyX9_ok : ∀ k, k < 6 → parseFieldDescriptor (TX9 k).2.2.1 = some (tyX9 k) := by decide +kernel
abbrev cX9_init : ByteArray := prog_11_method_1_code
def yX9_init : MethodName := ⟨RX9, "<init>", "()V"⟩
abbrev cX9_hold : ByteArray := prog_11_method_2_code
def yX9_hold : MethodName := ⟨RX9, "hold", "(I)V"⟩
abbrev cX9_scan : ByteArray := prog_11_method_3_code
def yX9_scan : MethodName := ⟨RX9, "scan", "(I)V"⟩
abbrev cX9_scanToken : ByteArray := prog_11_method_4_code
def yX9_scanToken : MethodName := ⟨RX9, "scanToken", "(II)I"⟩
abbrev cX9_scanNumber : ByteArray := prog_11_method_5_code
def yX9_scanNumber : MethodName := ⟨RX9, "scanNumber", "(II)I"⟩
abbrev cX9_scanWord : ByteArray := prog_11_method_6_code
def yX9_scanWord : MethodName := ⟨RX9, "scanWord", "(II)I"⟩
abbrev cX9_kindOfWord : ByteArray := prog_11_method_7_code
def yX9_kindOfWord : MethodName := ⟨RX9, "kindOfWord", "(II)I"⟩
abbrev cX9_isWord : ByteArray := prog_11_method_8_code
def yX9_isWord : MethodName := ⟨RX9, "isWord", "(Ljava/lang/String;II)Z"⟩
abbrev cX9_put : ByteArray := prog_11_method_9_code
def yX9_put : MethodName := ⟨RX9, "put", "(III)V"⟩
abbrev cX9_isDigit : ByteArray := prog_11_method_10_code
def yX9_isDigit : MethodName := ⟨RX9, "isDigit", "(I)Z"⟩
abbrev cX9_isLetter : ByteArray := prog_11_method_11_code
def yX9_isLetter : MethodName := ⟨RX9, "isLetter", "(I)Z"⟩
def RX10 : String := "RandomWalks"
def TX10 : u_T := fun k => match k with
  | 0 => ("RandomWalks", "errorAt", "I", false)
  | 1 => ("RandomWalks", "graph", "LRandomWalks$Graph;", true)
  | 2 => ("RandomWalks", "history", "LRandomWalks$History;", true)
  | 3 => ("RandomWalks", "reader", "LRandomWalks$Reader;", true)
  | 4 => ("RandomWalks", "costs", "LRandomWalks$Costs;", true)
  | 5 => ("RandomWalks", "partition", "LRandomWalks$Partition;", true)
  | 6 => ("RandomWalks", "equations", "LRandomWalks$Equations;", true)
  | 7 => ("RandomWalks", "answer", "LRandomWalks$Fraction;", true)
  | 8 => ("RandomWalks", "wayBack", "LRandomWalks$Fraction;", true)
  | 9 => ("RandomWalks", "gains", "[J", true)
  | 10 => ("RandomWalks", "stroll", "LRandomWalks$Stroll;", true)
  | _ => ("RandomWalks", "spread", "LRandomWalks$Spread;", true)
def tyX10 : Nat → FieldType := fun k => match k with
  | 0 => .int
  | 1 => .object "RandomWalks$Graph"
  | 2 => .object "RandomWalks$History"
  | 3 => .object "RandomWalks$Reader"
  | 4 => .object "RandomWalks$Costs"
  | 5 => .object "RandomWalks$Partition"
  | 6 => .object "RandomWalks$Equations"
  | 7 => .object "RandomWalks$Fraction"
  | 8 => .object "RandomWalks$Fraction"
  | 9 => .array .long
  | 10 => .object "RandomWalks$Stroll"
  | _ => .object "RandomWalks$Spread"
abbrev wsX100 : List Cond := u_ws RX10 TX10 12
theorem nmX10 : ∀ a, a < 12 → ∀ b, b < 12 → a ≠ b → (TX10 a).2.1 ≠ (TX10 b).2.1 := by decide +kernel
theorem tyX10_ok : ∀ k, k < 12 → parseFieldDescriptor (TX10 k).2.2.1 = some (tyX10 k) := by decide +kernel
abbrev cX10_init : ByteArray := prog_1_method_1_code
def yX10_init : MethodName := ⟨RX10, "<init>", "()V"⟩
abbrev cX10_append : ByteArray := prog_1_method_2_code
def yX10_append : MethodName := ⟨RX10, "append", "(IIIII)I"⟩
abbrev cX10_load : ByteArray := prog_1_method_3_code
def yX10_load : MethodName := ⟨RX10, "load", "(I)I"⟩
abbrev cX10_degree : ByteArray := prog_1_method_8_code
def yX10_degree : MethodName := ⟨RX10, "degree", "(I)I"⟩
abbrev cX10_hittingTime : ByteArray := prog_1_method_11_code
def yX10_hittingTime : MethodName := ⟨RX10, "hittingTime", "(IIZ)J"⟩
abbrev cX10_hittingCost : ByteArray := prog_1_method_12_code
def yX10_hittingCost : MethodName := ⟨RX10, "hittingCost", "(IIZ)J"⟩
abbrev cX10_trees : ByteArray := prog_1_method_15_code
def yX10_trees : MethodName := ⟨RX10, "trees", "()J"⟩
abbrev cX10_absorbing : ByteArray := prog_1_method_16_code
def yX10_absorbing : MethodName := ⟨RX10, "absorbing", "()I"⟩
abbrev cX10_absorption : ByteArray := prog_1_method_17_code
def yX10_absorption : MethodName := ⟨RX10, "absorption", "(IIZ)J"⟩
abbrev cX10_after : ByteArray := prog_1_method_25_code
def yX10_after : MethodName := ⟨RX10, "after", "(III)F"⟩
abbrev cX10_walk : ByteArray := prog_1_method_26_code
def yX10_walk : MethodName := ⟨RX10, "walk", "(IIII)I"⟩
abbrev cX10_requireVertex : ByteArray := prog_1_method_36_code
def yX10_requireVertex : MethodName := ⟨RX10, "requireVertex", "(I)V"⟩
abbrev cX10_requireWay : ByteArray := prog_1_method_40_code
def yX10_requireWay : MethodName := ⟨RX10, "requireWay", "(II)V"⟩
abbrev cX10_requireAbsorbingWay : ByteArray := prog_1_method_41_code
def yX10_requireAbsorbingWay : MethodName := ⟨RX10, "requireAbsorbingWay", "(I)V"⟩
abbrev cX10_gainSteps : ByteArray := prog_1_method_43_code
def yX10_gainSteps : MethodName := ⟨RX10, "gainSteps", "()V"⟩
abbrev cX10_gainCosts : ByteArray := prog_1_method_44_code
def yX10_gainCosts : MethodName := ⟨RX10, "gainCosts", "()V"⟩
abbrev cX10_findAbsorption : ByteArray := prog_1_method_46_code
def yX10_findAbsorption : MethodName := ⟨RX10, "findAbsorption", "(II)V"⟩
abbrev cX10_countTrees : ByteArray := prog_1_method_48_code
def yX10_countTrees : MethodName := ⟨RX10, "countTrees", "()J"⟩
def RX11 : String := "RandomWalksModel"
def TX11 : u_T := fun k => match k with
  | _ => ("", "", "", false)
def tyX11 : Nat → FieldType := fun k => match k with
  | _ => .int
abbrev wsX110 : List Cond := u_ws RX11 TX11 0
theorem nmX11 : ∀ a, a < 0 → ∀ b, b < 0 → a ≠ b → (TX11 a).2.1 ≠ (TX11 b).2.1 := by decide +kernel
theorem tyX11_ok : ∀ k, k < 0 → parseFieldDescriptor (TX11 k).2.2.1 = some (tyX11 k) := by decide +kernel
def RJx145de : String := "java/io/Serializable"
def TJx145de : u_T := fun k => match k with
  | _ => ("", "", "", false)
def tyJx145de : Nat → FieldType := fun k => match k with
  | _ => .int
abbrev wsJx145de0 : List Cond := u_ws RJx145de TJx145de 0
theorem nmJx145de : ∀ a, a < 0 → ∀ b, b < 0 → a ≠ b → (TJx145de a).2.1 ≠ (TJx145de b).2.1 := by decide +kernel
theorem tyJx145de_ok : ∀ k, k < 0 → parseFieldDescriptor (TJx145de k).2.2.1 = some (tyJx145de k) := by decide +kernel
def RJ5 : String := "java/lang/AbstractStringBuilder"
def TJ5 : u_T := fun k => match k with
  | _ => ("", "", "", false)
def tyJ5 : Nat → FieldType := fun k => match k with
  | _ => .int
abbrev wsJ50 : List Cond := u_ws RJ5 TJ5 0
theorem nmJ5 : ∀ a, a < 0 → ∀ b, b < 0 → a ≠ b → (TJ5 a).2.1 ≠ (TJ5 b).2.1 := by decide +kernel
theorem tyJ5_ok : ∀ k, k < 0 → parseFieldDescriptor (TJ5 k).2.2.1 = some (tyJ5 k) := by decide +kernel
abbrev cJ5_init_d00df : ByteArray := prog_14_method_2_code
def yJ5_init_d00df : MethodName := ⟨RJ5, "<init>", "(I)V"⟩
abbrev cJ5_init_a7421 : ByteArray := prog_14_method_3_code
def yJ5_init_a7421 : MethodName := ⟨RJ5, "<init>", "(Ljava/lang/String;)V"⟩
abbrev cJ5_length_8abf5 : ByteArray := prog_14_method_6_code
def yJ5_length_8abf5 : MethodName := ⟨RJ5, "length", "()I"⟩
abbrev cJ5_ensureCapacityInternal_d00df : ByteArray := prog_14_method_9_code
def yJ5_ensureCapacityInternal_d00df : MethodName := ⟨RJ5, "ensureCapacityInternal", "(I)V"⟩
abbrev cJ5_newCapacity_0f7a4 : ByteArray := prog_14_method_10_code
def yJ5_newCapacity_0f7a4 : MethodName := ⟨RJ5, "newCapacity", "(I)I"⟩
abbrev cJ5_inflate_da8c8 : ByteArray := prog_14_method_11_code
def yJ5_inflate_da8c8 : MethodName := ⟨RJ5, "inflate", "()V"⟩
abbrev cJ5_append_cf1ce : ByteArray := prog_14_method_22_code
def yJ5_append_cf1ce : MethodName := ⟨RJ5, "append", "(Ljava/lang/String;)Ljava/lang/AbstractStringBuilder;"⟩
abbrev cJ5_appendNull_278bc : ByteArray := prog_14_method_26_code
def yJ5_appendNull_278bc : MethodName := ⟨RJ5, "appendNull", "()Ljava/lang/AbstractStringBuilder;"⟩
abbrev cJ5_append_3fe6f : ByteArray := prog_14_method_31_code
def yJ5_append_3fe6f : MethodName := ⟨RJ5, "append", "(C)Ljava/lang/AbstractStringBuilder;"⟩
abbrev cJ5_append_c97b9 : ByteArray := prog_14_method_32_code
def yJ5_append_c97b9 : MethodName := ⟨RJ5, "append", "(I)Ljava/lang/AbstractStringBuilder;"⟩
abbrev cJ5_getValue_6d5f1 : ByteArray := prog_14_method_64_code
def yJ5_getValue_6d5f1 : MethodName := ⟨RJ5, "getValue", "()[B"⟩
abbrev cJ5_isLatin1_aae02 : ByteArray := prog_14_method_68_code
def yJ5_isLatin1_aae02 : MethodName := ⟨RJ5, "isLatin1", "()Z"⟩
abbrev cJ5_inflateIfNeededFor_a7421 : ByteArray := prog_14_method_71_code
def yJ5_inflateIfNeededFor_a7421 : MethodName := ⟨RJ5, "inflateIfNeededFor", "(Ljava/lang/String;)V"⟩
abbrev cJ5_putStringAt_47b60 : ByteArray := prog_14_method_73_code
def yJ5_putStringAt_47b60 : MethodName := ⟨RJ5, "putStringAt", "(ILjava/lang/String;)V"⟩
def RJx2cfe8 : String := "java/lang/Appendable"
def TJx2cfe8 : u_T := fun k => match k with
  | _ => ("", "", "", false)
def tyJx2cfe8 : Nat → FieldType := fun k => match k with
  | _ => .int
abbrev wsJx2cfe80 : List Cond := u_ws RJx2cfe8 TJx2cfe8 0
theorem nmJx2cfe8 : ∀ a, a < 0 → ∀ b, b < 0 → a ≠ b → (TJx2cfe8 a).2.1 ≠ (TJx2cfe8 b).2.1 := by decide +kernel
theorem tyJx2cfe8_ok : ∀ k, k < 0 → parseFieldDescriptor (TJx2cfe8 k).2.2.1 = some (tyJx2cfe8 k) := by decide +kernel
def RJx9f9b0 : String := "java/lang/CharSequence"
def TJx9f9b0 : u_T := fun k => match k with
  | _ => ("", "", "", false)
def tyJx9f9b0 : Nat → FieldType := fun k => match k with
  | _ => .int
abbrev wsJx9f9b00 : List Cond := u_ws RJx9f9b0 TJx9f9b0 0
theorem nmJx9f9b0 : ∀ a, a < 0 → ∀ b, b < 0 → a ≠ b → (TJx9f9b0 a).2.1 ≠ (TJx9f9b0 b).2.1 := by decide +kernel
theorem tyJx9f9b0_ok : ∀ k, k < 0 → parseFieldDescriptor (TJx9f9b0 k).2.2.1 = some (tyJx9f9b0 k) := by decide +kernel
def RJx8e188 : String := "java/lang/Cloneable"
def TJx8e188 : u_T := fun k => match k with
  | _ => ("", "", "", false)
def tyJx8e188 : Nat → FieldType := fun k => match k with
  | _ => .int
abbrev wsJx8e1880 : List Cond := u_ws RJx8e188 TJx8e188 0
theorem nmJx8e188 : ∀ a, a < 0 → ∀ b, b < 0 → a ≠ b → (TJx8e188 a).2.1 ≠ (TJx8e188 b).2.1 := by decide +kernel
theorem tyJx8e188_ok : ∀ k, k < 0 → parseFieldDescriptor (TJx8e188 k).2.2.1 = some (tyJx8e188 k) := by decide +kernel
def RJxb160c : String := "java/lang/Comparable"
def TJxb160c : u_T := fun k => match k with
  | _ => ("", "", "", false)
def tyJxb160c : Nat → FieldType := fun k => match k with
  | _ => .int
abbrev wsJxb160c0 : List Cond := u_ws RJxb160c TJxb160c 0
theorem nmJxb160c : ∀ a, a < 0 → ∀ b, b < 0 → a ≠ b → (TJxb160c a).2.1 ≠ (TJxb160c b).2.1 := by decide +kernel
theorem tyJxb160c_ok : ∀ k, k < 0 → parseFieldDescriptor (TJxb160c k).2.2.1 = some (tyJxb160c k) := by decide +kernel
def RJ6 : String := "java/lang/Integer"
def TJ6 : u_T := fun k => match k with
  | _ => ("", "", "", false)
def tyJ6 : Nat → FieldType := fun k => match k with
  | _ => .int
abbrev wsJ60 : List Cond := u_ws RJ6 TJ6 0
theorem nmJ6 : ∀ a, a < 0 → ∀ b, b < 0 → a ≠ b → (TJ6 a).2.1 ≠ (TJ6 b).2.1 := by decide +kernel
theorem tyJ6_ok : ∀ k, k < 0 → parseFieldDescriptor (TJ6 k).2.2.1 = some (tyJ6 k) := by decide +kernel
abbrev cJ6_getChars_ba4f3 : ByteArray := prog_20_method_12_code
def yJ6_getChars_ba4f3 : MethodName := ⟨RJ6, "getChars", "(II[B)I"⟩
abbrev cJ6_stringSize_0f7a4 : ByteArray := prog_20_method_13_code
def yJ6_stringSize_0f7a4 : MethodName := ⟨RJ6, "stringSize", "(I)I"⟩
def RJ9 : String := "java/lang/Math"
def TJ9 : u_T := fun k => match k with
  | _ => ("", "", "", false)
def tyJ9 : Nat → FieldType := fun k => match k with
  | _ => .int
abbrev wsJ90 : List Cond := u_ws RJ9 TJ9 0
theorem nmJ9 : ∀ a, a < 0 → ∀ b, b < 0 → a ≠ b → (TJ9 a).2.1 ≠ (TJ9 b).2.1 := by decide +kernel
theorem tyJ9_ok : ∀ k, k < 0 → parseFieldDescriptor (TJ9 k).2.2.1 = some (tyJ9 k) := by decide +kernel
abbrev cJ9_abs_0f7a4 : ByteArray := prog_21_method_59_code
def yJ9_abs_0f7a4 : MethodName := ⟨RJ9, "abs", "(I)I"⟩
abbrev cJ9_abs_067f4 : ByteArray := prog_21_method_61_code
def yJ9_abs_067f4 : MethodName := ⟨RJ9, "abs", "(J)J"⟩
abbrev cJ9_max_7cf53 : ByteArray := prog_21_method_65_code
def yJ9_max_7cf53 : MethodName := ⟨RJ9, "max", "(II)I"⟩
abbrev cJ9_max_f86c9 : ByteArray := prog_21_method_66_code
def yJ9_max_f86c9 : MethodName := ⟨RJ9, "max", "(JJ)J"⟩
abbrev cJ9_min_7cf53 : ByteArray := prog_21_method_69_code
def yJ9_min_7cf53 : MethodName := ⟨RJ9, "min", "(II)I"⟩
abbrev cJ9_min_f86c9 : ByteArray := prog_21_method_70_code
def yJ9_min_f86c9 : MethodName := ⟨RJ9, "min", "(JJ)J"⟩
def RJxd2413 : String := "java/lang/Number"
def TJxd2413 : u_T := fun k => match k with
  | _ => ("", "", "", false)
def tyJxd2413 : Nat → FieldType := fun k => match k with
  | _ => .int
abbrev wsJxd24130 : List Cond := u_ws RJxd2413 TJxd2413 0
theorem nmJxd2413 : ∀ a, a < 0 → ∀ b, b < 0 → a ≠ b → (TJxd2413 a).2.1 ≠ (TJxd2413 b).2.1 := by decide +kernel
theorem tyJxd2413_ok : ∀ k, k < 0 → parseFieldDescriptor (TJxd2413 k).2.2.1 = some (tyJxd2413 k) := by decide +kernel
def RJ0 : String := "java/lang/String"
def TJ0 : u_T := fun k => match k with
  | 0 => ("java/lang/String", "value", "[B", true)
  | 1 => ("java/lang/String", "coder", "B", true)
  | 2 => ("java/lang/String", "hash", "I", false)
  | _ => ("java/lang/String", "hashIsZero", "Z", false)
def tyJ0 : Nat → FieldType := fun k => match k with
  | 0 => .array .byte
  | 1 => .byte
  | 2 => .int
  | _ => .boolean
abbrev wsJ00 : List Cond := u_ws RJ0 TJ0 4
theorem nmJ0 : ∀ a, a < 4 → ∀ b, b < 4 → a ≠ b → (TJ0 a).2.1 ≠ (TJ0 b).2.1 := by decide +kernel
theorem tyJ0_ok : ∀ k, k < 4 → parseFieldDescriptor (TJ0 k).2.2.1 = some (tyJ0 k) := by decide +kernel
abbrev cJ0_init_81219 : ByteArray := prog_24_method_53_code
def yJ0_init_81219 : MethodName := ⟨RJ0, "<init>", "(Ljava/lang/StringBuilder;)V"⟩
abbrev cJ0_length_8abf5 : ByteArray := prog_24_method_54_code
def yJ0_length_8abf5 : MethodName := ⟨RJ0, "length", "()I"⟩
abbrev cJ0_charAt_5068e : ByteArray := prog_24_method_56_code
def yJ0_charAt_5068e : MethodName := ⟨RJ0, "charAt", "(I)C"⟩
abbrev cJ0_getBytes_840e7 : ByteArray := prog_24_method_147_code
def yJ0_getBytes_840e7 : MethodName := ⟨RJ0, "getBytes", "([BIB)V"⟩
abbrev cJ0_init_db425 : ByteArray := prog_24_method_150_code
def yJ0_init_db425 : MethodName := ⟨RJ0, "<init>", "(Ljava/lang/AbstractStringBuilder;Ljava/lang/Void;)V"⟩
abbrev cJ0_coder_7d493 : ByteArray := prog_24_method_152_code
def yJ0_coder_7d493 : MethodName := ⟨RJ0, "coder", "()B"⟩
abbrev cJ0_isLatin1_aae02 : ByteArray := prog_24_method_154_code
def yJ0_isLatin1_aae02 : MethodName := ⟨RJ0, "isLatin1", "()Z"⟩
abbrev cJ0_checkIndex_df160 : ByteArray := prog_24_method_155_code
def yJ0_checkIndex_df160 : MethodName := ⟨RJ0, "checkIndex", "(II)V"⟩
abbrev cJ0_checkBoundsOffCount_cabcc : ByteArray := prog_24_method_157_code
def yJ0_checkBoundsOffCount_cabcc : MethodName := ⟨RJ0, "checkBoundsOffCount", "(III)I"⟩
abbrev cJ0_checkBoundsBeginEnd_23922 : ByteArray := prog_24_method_158_code
def yJ0_checkBoundsBeginEnd_23922 : MethodName := ⟨RJ0, "checkBoundsBeginEnd", "(III)V"⟩
def RJ4 : String := "java/lang/StringBuilder"
def TJ4 : u_T := fun k => match k with
  | 0 => ("java/lang/AbstractStringBuilder", "value", "[B", false)
  | 1 => ("java/lang/AbstractStringBuilder", "coder", "B", false)
  | 2 => ("java/lang/AbstractStringBuilder", "maybeLatin1", "Z", false)
  | _ => ("java/lang/AbstractStringBuilder", "count", "I", false)
def tyJ4 : Nat → FieldType := fun k => match k with
  | 0 => .array .byte
  | 1 => .byte
  | 2 => .boolean
  | _ => .int
abbrev wsJ40 : List Cond := u_ws RJ4 TJ4 4
theorem nmJ4 : ∀ a, a < 4 → ∀ b, b < 4 → a ≠ b → (TJ4 a).2.1 ≠ (TJ4 b).2.1 := by decide +kernel
theorem tyJ4_ok : ∀ k, k < 4 → parseFieldDescriptor (TJ4 k).2.2.1 = some (tyJ4 k) := by decide +kernel
abbrev cJ4_init_da8c8 : ByteArray := prog_25_method_1_code
def yJ4_init_da8c8 : MethodName := ⟨RJ4, "<init>", "()V"⟩
abbrev cJ4_init_a7421 : ByteArray := prog_25_method_3_code
def yJ4_init_a7421 : MethodName := ⟨RJ4, "<init>", "(Ljava/lang/String;)V"⟩
abbrev cJ4_append_15ec4 : ByteArray := prog_25_method_7_code
def yJ4_append_15ec4 : MethodName := ⟨RJ4, "append", "(Ljava/lang/String;)Ljava/lang/StringBuilder;"⟩
abbrev cJ4_append_cf468 : ByteArray := prog_25_method_14_code
def yJ4_append_cf468 : MethodName := ⟨RJ4, "append", "(C)Ljava/lang/StringBuilder;"⟩
abbrev cJ4_append_bf812 : ByteArray := prog_25_method_15_code
def yJ4_append_bf812 : MethodName := ⟨RJ4, "append", "(I)Ljava/lang/StringBuilder;"⟩
abbrev cJ4_toString_0e30d : ByteArray := prog_25_method_42_code
def yJ4_toString_0e30d : MethodName := ⟨RJ4, "toString", "()Ljava/lang/String;"⟩
abbrev cJ4_append_cf1ce : ByteArray := prog_25_method_80_code
def yJ4_append_cf1ce : MethodName := ⟨RJ4, "append", "(Ljava/lang/String;)Ljava/lang/AbstractStringBuilder;"⟩
abbrev cJ4_length_8abf5 : ByteArray := prog_25_method_93_code
def yJ4_length_8abf5 : MethodName := ⟨RJ4, "length", "()I"⟩
def RJ1 : String := "java/lang/StringLatin1"
def TJ1 : u_T := fun k => match k with
  | _ => ("", "", "", false)
def tyJ1 : Nat → FieldType := fun k => match k with
  | _ => .int
abbrev wsJ10 : List Cond := u_ws RJ1 TJ1 0
theorem nmJ1 : ∀ a, a < 0 → ∀ b, b < 0 → a ≠ b → (TJ1 a).2.1 ≠ (TJ1 b).2.1 := by decide +kernel
theorem tyJ1_ok : ∀ k, k < 0 → parseFieldDescriptor (TJ1 k).2.2.1 = some (tyJ1 k) := by decide +kernel
abbrev cJ1_charAt_3b067 : ByteArray := prog_26_method_2_code
def yJ1_charAt_3b067 : MethodName := ⟨RJ1, "charAt", "([BI)C"⟩
abbrev cJ1_canEncode_fc78d : ByteArray := prog_26_method_3_code
def yJ1_canEncode_fc78d : MethodName := ⟨RJ1, "canEncode", "(C)Z"⟩
abbrev cJ1_inflate_0e8fd : ByteArray := prog_26_method_50_code
def yJ1_inflate_0e8fd : MethodName := ⟨RJ1, "inflate", "([BI[BII)V"⟩
def RJ2 : String := "java/lang/StringUTF16"
def TJ2 : u_T := fun k => match k with
  | _ => ("", "", "", false)
def tyJ2 : Nat → FieldType := fun k => match k with
  | _ => .int
abbrev wsJ20 : List Cond := u_ws RJ2 TJ2 0
theorem nmJ2 : ∀ a, a < 0 → ∀ b, b < 0 → a ≠ b → (TJ2 a).2.1 ≠ (TJ2 b).2.1 := by decide +kernel
theorem tyJ2_ok : ∀ k, k < 0 → parseFieldDescriptor (TJ2 k).2.2.1 = some (tyJ2 k) := by decide +kernel
abbrev cJ2_newBytesFor_77867 : ByteArray := prog_27_method_2_code
def yJ2_newBytesFor_77867 : MethodName := ⟨RJ2, "newBytesFor", "(I)[B"⟩
abbrev cJ2_newBytesLength_0f7a4 : ByteArray := prog_27_method_3_code
def yJ2_newBytesLength_0f7a4 : MethodName := ⟨RJ2, "newBytesLength", "(I)I"⟩
abbrev cJ2_putChar_b72d1 : ByteArray := prog_27_method_4_code
def yJ2_putChar_b72d1 : MethodName := ⟨RJ2, "putChar", "([BII)V"⟩
abbrev cJ2_getChar_3b067 : ByteArray := prog_27_method_5_code
def yJ2_getChar_3b067 : MethodName := ⟨RJ2, "getChar", "([BI)C"⟩
abbrev cJ2_length_9d52b : ByteArray := prog_27_method_6_code
def yJ2_length_9d52b : MethodName := ⟨RJ2, "length", "([B)I"⟩
abbrev cJ2_coderFromArrayLen_85cad : ByteArray := prog_27_method_15_code
def yJ2_coderFromArrayLen_85cad : MethodName := ⟨RJ2, "coderFromArrayLen", "([BI)B"⟩
abbrev cJ2_compress_39247 : ByteArray := prog_27_method_17_code
def yJ2_compress_39247 : MethodName := ⟨RJ2, "compress", "([BII)[B"⟩
abbrev cJ2_compress_5af95 : ByteArray := prog_27_method_22_code
def yJ2_compress_5af95 : MethodName := ⟨RJ2, "compress", "([BI[BII)I"⟩
abbrev cJ2_putCharSB_b72d1 : ByteArray := prog_27_method_71_code
def yJ2_putCharSB_b72d1 : MethodName := ⟨RJ2, "putCharSB", "([BII)V"⟩
abbrev cJ2_getChars_46870 : ByteArray := prog_27_method_77_code
def yJ2_getChars_46870 : MethodName := ⟨RJ2, "getChars", "(III[B)I"⟩
abbrev cJ2_putCharsAt_cd4e5 : ByteArray := prog_27_method_81_code
def yJ2_putCharsAt_cd4e5 : MethodName := ⟨RJ2, "putCharsAt", "([BICCCC)I"⟩
abbrev cJ2_charAt_3b067 : ByteArray := prog_27_method_83_code
def yJ2_charAt_3b067 : MethodName := ⟨RJ2, "charAt", "([BI)C"⟩
abbrev cJ2_inflate_0e8fd : ByteArray := prog_27_method_86_code
def yJ2_inflate_0e8fd : MethodName := ⟨RJ2, "inflate", "([BI[BII)V"⟩
abbrev cJ2_getChars_ba4f3 : ByteArray := prog_27_method_89_code
def yJ2_getChars_ba4f3 : MethodName := ⟨RJ2, "getChars", "(II[B)I"⟩
abbrev cJ2_checkIndex_2214a : ByteArray := prog_27_method_91_code
def yJ2_checkIndex_2214a : MethodName := ⟨RJ2, "checkIndex", "(I[B)V"⟩
abbrev cJ2_checkBoundsBeginEnd_d044e : ByteArray := prog_27_method_93_code
def yJ2_checkBoundsBeginEnd_d044e : MethodName := ⟨RJ2, "checkBoundsBeginEnd", "(II[B)V"⟩
abbrev cJ2_checkBoundsOffCount_d044e : ByteArray := prog_27_method_94_code
def yJ2_checkBoundsOffCount_d044e : MethodName := ⟨RJ2, "checkBoundsOffCount", "(II[B)V"⟩
def RJ10 : String := "java/lang/System"
def TJ10 : u_T := fun k => match k with
  | _ => ("", "", "", false)
def tyJ10 : Nat → FieldType := fun k => match k with
  | _ => .int
abbrev wsJ100 : List Cond := u_ws RJ10 TJ10 0
theorem nmJ10 : ∀ a, a < 0 → ∀ b, b < 0 → a ≠ b → (TJ10 a).2.1 ≠ (TJ10 b).2.1 := by decide +kernel
theorem tyJ10_ok : ∀ k, k < 0 → parseFieldDescriptor (TJ10 k).2.2.1 = some (tyJ10 k) := by decide +kernel
def RJxfd54e : String := "java/lang/constant/Constable"
def TJxfd54e : u_T := fun k => match k with
  | _ => ("", "", "", false)
def tyJxfd54e : Nat → FieldType := fun k => match k with
  | _ => .int
abbrev wsJxfd54e0 : List Cond := u_ws RJxfd54e TJxfd54e 0
theorem nmJxfd54e : ∀ a, a < 0 → ∀ b, b < 0 → a ≠ b → (TJxfd54e a).2.1 ≠ (TJxfd54e b).2.1 := by decide +kernel
theorem tyJxfd54e_ok : ∀ k, k < 0 → parseFieldDescriptor (TJxfd54e k).2.2.1 = some (tyJxfd54e k) := by decide +kernel
def RJx3cf43 : String := "java/lang/constant/ConstantDesc"
def TJx3cf43 : u_T := fun k => match k with
  | _ => ("", "", "", false)
def tyJx3cf43 : Nat → FieldType := fun k => match k with
  | _ => .int
abbrev wsJx3cf430 : List Cond := u_ws RJx3cf43 TJx3cf43 0
theorem nmJx3cf43 : ∀ a, a < 0 → ∀ b, b < 0 → a ≠ b → (TJx3cf43 a).2.1 ≠ (TJx3cf43 b).2.1 := by decide +kernel
theorem tyJx3cf43_ok : ∀ k, k < 0 → parseFieldDescriptor (TJx3cf43 k).2.2.1 = some (tyJx3cf43 k) := by decide +kernel
def RJ7 : String := "java/util/Arrays"
def TJ7 : u_T := fun k => match k with
  | _ => ("", "", "", false)
def tyJ7 : Nat → FieldType := fun k => match k with
  | _ => .int
abbrev wsJ70 : List Cond := u_ws RJ7 TJ7 0
theorem nmJ7 : ∀ a, a < 0 → ∀ b, b < 0 → a ≠ b → (TJ7 a).2.1 ≠ (TJ7 b).2.1 := by decide +kernel
theorem tyJ7_ok : ∀ k, k < 0 → parseFieldDescriptor (TJ7 k).2.2.1 = some (tyJ7 k) := by decide +kernel
abbrev cJ7_fill_53178 : ByteArray := prog_30_method_103_code
def yJ7_fill_53178 : MethodName := ⟨RJ7, "fill", "([II)V"⟩
abbrev cJ7_copyOf_9075b : ByteArray := prog_30_method_121_code
def yJ7_copyOf_9075b : MethodName := ⟨RJ7, "copyOf", "([BI)[B"⟩
abbrev cJ7_copyOf_59c91 : ByteArray := prog_30_method_123_code
def yJ7_copyOf_59c91 : MethodName := ⟨RJ7, "copyOf", "([II)[I"⟩
abbrev cJ7_checkLength_df160 : ByteArray := prog_30_method_131_code
def yJ7_checkLength_df160 : MethodName := ⟨RJ7, "checkLength", "(II)V"⟩
abbrev cJ7_copyOfRange_39247 : ByteArray := prog_30_method_132_code
def yJ7_copyOfRange_39247 : MethodName := ⟨RJ7, "copyOfRange", "([BII)[B"⟩
abbrev cJ7_copyOfRangeByte_39247 : ByteArray := prog_30_method_133_code
def yJ7_copyOfRangeByte_39247 : MethodName := ⟨RJ7, "copyOfRangeByte", "([BII)[B"⟩
def RJ8 : String := "jdk/internal/util/ArraysSupport"
def TJ8 : u_T := fun k => match k with
  | _ => ("", "", "", false)
def tyJ8 : Nat → FieldType := fun k => match k with
  | _ => .int
abbrev wsJ80 : List Cond := u_ws RJ8 TJ8 0
theorem nmJ8 : ∀ a, a < 0 → ∀ b, b < 0 → a ≠ b → (TJ8 a).2.1 ≠ (TJ8 b).2.1 := by decide +kernel
theorem tyJ8_ok : ∀ k, k < 0 → parseFieldDescriptor (TJ8 k).2.2.1 = some (tyJ8 k) := by decide +kernel
abbrev cJ8_newLength_cabcc : ByteArray := prog_31_method_27_code
def yJ8_newLength_cabcc : MethodName := ⟨RJ8, "newLength", "(III)I"⟩
abbrev cJ8_hugeLength_7cf53 : ByteArray := prog_31_method_28_code
def yJ8_hugeLength_7cf53 : MethodName := ⟨RJ8, "hugeLength", "(II)I"⟩
def RJ3 : String := "jdk/internal/util/Preconditions"
def TJ3 : u_T := fun k => match k with
  | _ => ("", "", "", false)
def tyJ3 : Nat → FieldType := fun k => match k with
  | _ => .int
abbrev wsJ30 : List Cond := u_ws RJ3 TJ3 0
theorem nmJ3 : ∀ a, a < 0 → ∀ b, b < 0 → a ≠ b → (TJ3 a).2.1 ≠ (TJ3 b).2.1 := by decide +kernel
theorem tyJ3_ok : ∀ k, k < 0 → parseFieldDescriptor (TJ3 k).2.2.1 = some (tyJ3 k) := by decide +kernel
abbrev cJ3_checkIndex_8e157 : ByteArray := prog_32_method_11_code
def yJ3_checkIndex_8e157 : MethodName := ⟨RJ3, "checkIndex", "(IILjava/util/function/BiFunction;)I"⟩
abbrev cJ3_checkFromToIndex_8c36e : ByteArray := prog_32_method_12_code
def yJ3_checkFromToIndex_8c36e : MethodName := ⟨RJ3, "checkFromToIndex", "(IIILjava/util/function/BiFunction;)I"⟩
abbrev cJ3_checkFromIndexSize_8c36e : ByteArray := prog_32_method_13_code
def yJ3_checkFromIndexSize_8c36e : MethodName := ⟨RJ3, "checkFromIndexSize", "(IIILjava/util/function/BiFunction;)I"⟩
def RL : String := "RandomWalksLaw"
def TL : u_T := fun k => match k with
  | 0 => ("RandomWalksLaw", "n", "I", false)
  | 1 => ("RandomWalksLaw", "edges", "I", false)
  | 2 => ("RandomWalksLaw", "absorbing", "I", false)
  | 3 => ("RandomWalksLaw", "weights", "[[I", true)
  | 4 => ("RandomWalksLaw", "costs", "[[I", true)
  | 5 => ("RandomWalksLaw", "degrees", "[I", true)
  | 6 => ("RandomWalksLaw", "ends", "[I", true)
  | _ => ("RandomWalksLaw", "theirs", "[I", true)
def tyL : Nat → FieldType := fun k => match k with
  | 0 => .int
  | 1 => .int
  | 2 => .int
  | 3 => .array (.array .int)
  | 4 => .array (.array .int)
  | 5 => .array .int
  | 6 => .array .int
  | _ => .array .int
theorem nmL : ∀ a, a < 8 → ∀ b, b < 8 → a ≠ b → (TL a).2.1 ≠ (TL b).2.1 := by decide +kernel
theorem tyL_ok : ∀ k, k < 8 → parseFieldDescriptor (TL k).2.2.1 = some (tyL k) := by decide +kernel
abbrev cL_init : ByteArray := method_1_code
def yL_init : MethodName := ⟨RL, "<init>", "()V"⟩
abbrev cL_cell : ByteArray := method_2_code
def yL_cell : MethodName := ⟨RL, "cell", "([II)I"⟩
abbrev cL_bound : ByteArray := method_3_code
def yL_bound : MethodName := ⟨RL, "bound", "(II)I"⟩
abbrev cL_read : ByteArray := method_4_code
def yL_read : MethodName := ⟨RL, "read", "(LRandomWalks;Ljava/lang/String;)I"⟩
abbrev cL_divisor : ByteArray := method_5_code
def yL_divisor : MethodName := ⟨RL, "divisor", "(JJ)J"⟩
abbrev cL_reached : ByteArray := method_6_code
def yL_reached : MethodName := ⟨RL, "reached", "(I)[Z"⟩
abbrev cL_isMean : ByteArray := method_7_code
def yL_isMean : MethodName := ⟨RL, "isMean", "([J[J[Z[ZI)Z"⟩
abbrev cL_areHits : ByteArray := method_8_code
def yL_areHits : MethodName := ⟨RL, "areHits", "(LRandomWalks;IZ)Z"⟩
abbrev cL_isAbsorbing : ByteArray := method_9_code
def yL_isAbsorbing : MethodName := ⟨RL, "isAbsorbing", "(I)Z"⟩
abbrev cL_areAbsorptions : ByteArray := method_10_code
def yL_areAbsorptions : MethodName := ⟨RL, "areAbsorptions", "(LRandomWalks;I)Z"⟩
abbrev cL_treesOf : ByteArray := method_11_code
def yL_treesOf : MethodName := ⟨RL, "treesOf", "(II[I)J"⟩
abbrev cL_areWalks : ByteArray := method_12_code
def yL_areWalks : MethodName := ⟨RL, "areWalks", "(LRandomWalks;III)Z"⟩
abbrev cL_law : ByteArray := code
def yL_law : MethodName := ⟨RL, "law", "([I)Z"⟩
abbrev vwCl : List vw_C := [(RX0, TX0, 2), (RX1, TX1, 4), (RX2, TX2, 2), (RX3, TX3, 10), (RX4, TX4, 3), (RX5, TX5, 3), (RX6, TX6, 13), (RX7, TX7, 4), (RX8, TX8, 5), (RX9, TX9, 6), (RX10, TX10, 12), (RJ0, TJ0, 4), (RJ4, TJ4, 4), (RL, TL, 8)]
