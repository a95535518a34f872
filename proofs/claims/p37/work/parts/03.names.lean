def RX0 : String := "StableFoundry$Differences"
def TX0 : u_T := fun k => match k with
  | _ => ("StableFoundry$Differences", "greatest", "[I", true)
def tyX0 : Nat → FieldType := fun k => match k with
  | _ => .array .int
abbrev wsX00 : List Cond := u_ws RX0 TX0 1
theorem nmX0 : ∀ a, a < 1 → ∀ b, b < 1 → a ≠ b → (TX0 a).2.1 ≠ (TX0 b).2.1 := by decide +kernel
theorem tyX0_ok : ∀ k, k < 1 → parseFieldDescriptor (TX0 k).2.2.1 = some (tyX0 k) := by decide +kernel
abbrev cX0_init : ByteArray := prog_2_method_1_code
def yX0_init : MethodName := ⟨RX0, "<init>", "()V"⟩
abbrev cX0_greatestOf : ByteArray := prog_2_method_2_code
def yX0_greatestOf : MethodName := ⟨RX0, "greatestOf", "(I)I"⟩
abbrev cX0_canHold : ByteArray := prog_2_method_3_code
def yX0_canHold : MethodName := ⟨RX0, "canHold", "(LStableFoundry$Program;J)Z"⟩
abbrev cX0_lower : ByteArray := prog_2_method_4_code
def yX0_lower : MethodName := ⟨RX0, "lower", "(LStableFoundry$Head;)Z"⟩
def RX1 : String := "StableFoundry$Entries"
def TX1 : u_T := fun k => match k with
  | 0 => ("StableFoundry$Entries", "codes", "[I", true)
  | 1 => ("StableFoundry$Entries", "limit", "I", true)
  | _ => ("StableFoundry$Entries", "count", "I", false)
def tyX1 : Nat → FieldType := fun k => match k with
  | 0 => .array .int
  | 1 => .int
  | _ => .int
abbrev wsX10 : List Cond := u_ws RX1 TX1 3
theorem nmX1 : ∀ a, a < 3 → ∀ b, b < 3 → a ≠ b → (TX1 a).2.1 ≠ (TX1 b).2.1 := by decide +kernel
theorem tyX1_ok : ∀ k, k < 3 → parseFieldDescriptor (TX1 k).2.2.1 = some (tyX1 k) := by decide +kernel
abbrev cX1_init : ByteArray := prog_3_method_1_code
def yX1_init : MethodName := ⟨RX1, "<init>", "(I)V"⟩
abbrev cX1_isFull : ByteArray := prog_3_method_2_code
def yX1_isFull : MethodName := ⟨RX1, "isFull", "()Z"⟩
abbrev cX1_add : ByteArray := prog_3_method_3_code
def yX1_add : MethodName := ⟨RX1, "add", "(III)V"⟩
abbrev cX1_clear : ByteArray := prog_3_method_4_code
def yX1_clear : MethodName := ⟨RX1, "clear", "()V"⟩
abbrev cX1_codeAt : ByteArray := prog_3_method_5_code
def yX1_codeAt : MethodName := ⟨RX1, "codeAt", "(I)I"⟩
abbrev cX1_groundCode : ByteArray := prog_3_method_6_code
def yX1_groundCode : MethodName := ⟨RX1, "groundCode", "(III)I"⟩
abbrev cX1_groundCodeOf : ByteArray := prog_3_method_7_code
def yX1_groundCodeOf : MethodName := ⟨RX1, "groundCodeOf", "(I[II)I"⟩
abbrev cX1_numberIn : ByteArray := prog_3_method_8_code
def yX1_numberIn : MethodName := ⟨RX1, "numberIn", "(I)I"⟩
abbrev cX1_firstIn : ByteArray := prog_3_method_9_code
def yX1_firstIn : MethodName := ⟨RX1, "firstIn", "(I)I"⟩
abbrev cX1_secondIn : ByteArray := prog_3_method_10_code
def yX1_secondIn : MethodName := ⟨RX1, "secondIn", "(I)I"⟩
abbrev cX1_hasZ : ByteArray := prog_3_method_11_code
def yX1_hasZ : MethodName := ⟨RX1, "hasZ", "(I)Z"⟩
abbrev cX1_variableIn : ByteArray := prog_3_method_12_code
def yX1_variableIn : MethodName := ⟨RX1, "variableIn", "(I)I"⟩
abbrev cX1_constantOf : ByteArray := prog_3_method_13_code
def yX1_constantOf : MethodName := ⟨RX1, "constantOf", "(I[II)I"⟩
abbrev cX1_lastVariableOf : ByteArray := prog_3_method_14_code
def yX1_lastVariableOf : MethodName := ⟨RX1, "lastVariableOf", "(I)I"⟩
abbrev cX1_isTrue : ByteArray := prog_3_method_15_code
def yX1_isTrue : MethodName := ⟨RX1, "isTrue", "(I[I)Z"⟩
abbrev cX1_variables : ByteArray := prog_3_method_16_code
def yX1_variables : MethodName := ⟨RX1, "variables", "(Z)I"⟩
abbrev cX1_variableBit : ByteArray := prog_3_method_17_code
def yX1_variableBit : MethodName := ⟨RX1, "variableBit", "(IZ)I"⟩
def RX2 : String := "StableFoundry$Externals"
def TX2 : u_T := fun k => match k with
  | 0 => ("StableFoundry$Externals", "all", "I", false)
  | 1 => ("StableFoundry$Externals", "areTrue", "I", false)
  | _ => ("StableFoundry$Externals", "areFree", "I", false)
def tyX2 : Nat → FieldType := fun k => match k with
  | 0 => .int
  | 1 => .int
  | _ => .int
abbrev wsX20 : List Cond := u_ws RX2 TX2 3
theorem nmX2 : ∀ a, a < 3 → ∀ b, b < 3 → a ≠ b → (TX2 a).2.1 ≠ (TX2 b).2.1 := by decide +kernel
theorem tyX2_ok : ∀ k, k < 3 → parseFieldDescriptor (TX2 k).2.2.1 = some (tyX2 k) := by decide +kernel
abbrev cX2_init : ByteArray := prog_4_method_1_code
def yX2_init : MethodName := ⟨RX2, "<init>", "()V"⟩
abbrev cX2_has : ByteArray := prog_4_method_2_code
def yX2_has : MethodName := ⟨RX2, "has", "(I)Z"⟩
abbrev cX2_add : ByteArray := prog_4_method_3_code
def yX2_add : MethodName := ⟨RX2, "add", "(I)V"⟩
abbrev cX2_stateOf : ByteArray := prog_4_method_4_code
def yX2_stateOf : MethodName := ⟨RX2, "stateOf", "(I)I"⟩
abbrev cX2_let : ByteArray := prog_4_method_5_code
def yX2_let : MethodName := ⟨RX2, "let", "(II)V"⟩
abbrev cX2_neededBy : ByteArray := prog_4_method_6_code
def yX2_neededBy : MethodName := ⟨RX2, "neededBy", "(I)I"⟩
def RX3 : String := "StableFoundry$Found"
def TX3 : u_T := fun k => match k with
  | 0 => ("StableFoundry$Found", "rows", "[J", true)
  | 1 => ("StableFoundry$Found", "seen", "[J", true)
  | _ => ("StableFoundry$Found", "count", "I", false)
def tyX3 : Nat → FieldType := fun k => match k with
  | 0 => .array .long
  | 1 => .array .long
  | _ => .int
abbrev wsX30 : List Cond := u_ws RX3 TX3 3
theorem nmX3 : ∀ a, a < 3 → ∀ b, b < 3 → a ≠ b → (TX3 a).2.1 ≠ (TX3 b).2.1 := by decide +kernel
theorem tyX3_ok : ∀ k, k < 3 → parseFieldDescriptor (TX3 k).2.2.1 = some (tyX3 k) := by decide +kernel
abbrev cX3_init : ByteArray := prog_5_method_1_code
def yX3_init : MethodName := ⟨RX3, "<init>", "()V"⟩
abbrev cX3_clear : ByteArray := prog_5_method_2_code
def yX3_clear : MethodName := ⟨RX3, "clear", "()V"⟩
abbrev cX3_has : ByteArray := prog_5_method_3_code
def yX3_has : MethodName := ⟨RX3, "has", "(I)Z"⟩
abbrev cX3_add : ByteArray := prog_5_method_4_code
def yX3_add : MethodName := ⟨RX3, "add", "(I)V"⟩
abbrev cX3_setAt : ByteArray := prog_5_method_5_code
def yX3_setAt : MethodName := ⟨RX3, "setAt", "(I)I"⟩
abbrev cX3_countSeenThrough : ByteArray := prog_5_method_6_code
def yX3_countSeenThrough : MethodName := ⟨RX3, "countSeenThrough", "(I)I"⟩
def RX4 : String := "StableFoundry$Grounding"
def TX4 : u_T := fun k => match k with
  | 0 => ("StableFoundry$Grounding", "atoms", "[I", true)
  | 1 => ("StableFoundry$Grounding", "atomCount", "I", false)
  | 2 => ("StableFoundry$Grounding", "instances", "[I", true)
  | 3 => ("StableFoundry$Grounding", "instanceCount", "I", false)
  | 4 => ("StableFoundry$Grounding", "constants", "[I", true)
  | _ => ("StableFoundry$Grounding", "isOverfull", "Z", false)
def tyX4 : Nat → FieldType := fun k => match k with
  | 0 => .array .int
  | 1 => .int
  | 2 => .array .int
  | 3 => .int
  | 4 => .array .int
  | _ => .boolean
abbrev wsX40 : List Cond := u_ws RX4 TX4 6
theorem nmX4 : ∀ a, a < 6 → ∀ b, b < 6 → a ≠ b → (TX4 a).2.1 ≠ (TX4 b).2.1 := by decide +kernel
theorem tyX4_ok : ∀ k, k < 6 → parseFieldDescriptor (TX4 k).2.2.1 = some (tyX4 k) := by decide +kernel
abbrev cX4_init : ByteArray := prog_6_method_1_code
def yX4_init : MethodName := ⟨RX4, "<init>", "()V"⟩
abbrev cX4_size : ByteArray := prog_6_method_2_code
def yX4_size : MethodName := ⟨RX4, "size", "()I"⟩
abbrev cX4_cutTo : ByteArray := prog_6_method_3_code
def yX4_cutTo : MethodName := ⟨RX4, "cutTo", "(II)V"⟩
abbrev cX4_atomAt : ByteArray := prog_6_method_4_code
def yX4_atomAt : MethodName := ⟨RX4, "atomAt", "(I)I"⟩
abbrev cX4_instanceAt : ByteArray := prog_6_method_5_code
def yX4_instanceAt : MethodName := ⟨RX4, "instanceAt", "(I)I"⟩
abbrev cX4_numberOf : ByteArray := prog_6_method_6_code
def yX4_numberOf : MethodName := ⟨RX4, "numberOf", "(I)I"⟩
abbrev cX4_admit : ByteArray := prog_6_method_7_code
def yX4_admit : MethodName := ⟨RX4, "\x61dmit", "(I)Z"⟩
abbrev cX4_settle : ByteArray := prog_6_method_8_code
def yX4_settle : MethodName := ⟨RX4, "settle", "([LStableFoundry$Rule;I)Z"⟩
abbrev cX4_bind : ByteArray := prog_6_method_9_code
def yX4_bind : MethodName := ⟨RX4, "bind", "(LStableFoundry$Rule;II)V"⟩
abbrev cX4_canBe : ByteArray := prog_6_method_10_code
def yX4_canBe : MethodName := ⟨RX4, "canBe", "(LStableFoundry$Rule;I)Z"⟩
abbrev cX4_addInstance : ByteArray := prog_6_method_11_code
def yX4_addInstance : MethodName := ⟨RX4, "addInstance", "(LStableFoundry$Rule;I)V"⟩
abbrev cX4_isKnown : ByteArray := prog_6_method_12_code
def yX4_isKnown : MethodName := ⟨RX4, "isKnown", "(I)Z"⟩
def RX5 : String := "StableFoundry$Head"
def TX5 : u_T := fun k => match k with
  | 0 => ("StableFoundry$Head", "kind", "I", false)
  | 1 => ("StableFoundry$Head", "atoms", "LStableFoundry$Entries;", true)
  | 2 => ("StableFoundry$Head", "least", "I", false)
  | 3 => ("StableFoundry$Head", "greatest", "I", false)
  | 4 => ("StableFoundry$Head", "weight", "I", false)
  | 5 => ("StableFoundry$Head", "level", "I", false)
  | 6 => ("StableFoundry$Head", "x", "I", false)
  | 7 => ("StableFoundry$Head", "y", "I", false)
  | _ => ("StableFoundry$Head", "bound", "I", false)
def tyX5 : Nat → FieldType := fun k => match k with
  | 0 => .int
  | 1 => .object "StableFoundry$Entries"
  | 2 => .int
  | 3 => .int
  | 4 => .int
  | 5 => .int
  | 6 => .int
  | 7 => .int
  | _ => .int
abbrev wsX50 : List Cond := u_ws RX5 TX5 9
theorem nmX5 : ∀ a, a < 9 → ∀ b, b < 9 → a ≠ b → (TX5 a).2.1 ≠ (TX5 b).2.1 := by decide +kernel
theorem tyX5_ok : ∀ k, k < 9 → parseFieldDescriptor (TX5 k).2.2.1 = some (tyX5 k) := by decide +kernel
abbrev cX5_init : ByteArray := prog_7_method_1_code
def yX5_init : MethodName := ⟨RX5, "<init>", "()V"⟩
abbrev cX5_clear : ByteArray := prog_7_method_2_code
def yX5_clear : MethodName := ⟨RX5, "clear", "()V"⟩
def RX6 : String := "StableFoundry$Preferences"
def TX6 : u_T := fun k => match k with
  | 0 => ("StableFoundry$Preferences", "firsts", "[I", true)
  | 1 => ("StableFoundry$Preferences", "seconds", "[I", true)
  | _ => ("StableFoundry$Preferences", "count", "I", false)
def tyX6 : Nat → FieldType := fun k => match k with
  | 0 => .array .int
  | 1 => .array .int
  | _ => .int
abbrev wsX60 : List Cond := u_ws RX6 TX6 3
theorem nmX6 : ∀ a, a < 3 → ∀ b, b < 3 → a ≠ b → (TX6 a).2.1 ≠ (TX6 b).2.1 := by decide +kernel
theorem tyX6_ok : ∀ k, k < 3 → parseFieldDescriptor (TX6 k).2.2.1 = some (tyX6 k) := by decide +kernel
abbrev cX6_init : ByteArray := prog_8_method_1_code
def yX6_init : MethodName := ⟨RX6, "<init>", "()V"⟩
abbrev cX6_isFull : ByteArray := prog_8_method_2_code
def yX6_isFull : MethodName := ⟨RX6, "isFull", "()Z"⟩
abbrev cX6_add : ByteArray := prog_8_method_3_code
def yX6_add : MethodName := ⟨RX6, "add", "(II)V"⟩
abbrev cX6_prefers : ByteArray := prog_8_method_4_code
def yX6_prefers : MethodName := ⟨RX6, "prefers", "(II)Z"⟩
abbrev cX6_speaksFor : ByteArray := prog_8_method_5_code
def yX6_speaksFor : MethodName := ⟨RX6, "speaksFor", "(II)Z"⟩
def RX7 : String := "StableFoundry$Program"
def TX7 : u_T := fun k => match k with
  | 0 => ("StableFoundry$Program", "ruleOf", "[LStableFoundry$Rule;", true)
  | 1 => ("StableFoundry$Program", "heads", "[I", true)
  | 2 => ("StableFoundry$Program", "needs", "[I", true)
  | 3 => ("StableFoundry$Program", "bans", "[I", true)
  | 4 => ("StableFoundry$Program", "weights", "[J", true)
  | 5 => ("StableFoundry$Program", "holding", "[J", true)
  | 6 => ("StableFoundry$Program", "lowHeads", "[J", true)
  | 7 => ("StableFoundry$Program", "highHeads", "[J", true)
  | 8 => ("StableFoundry$Program", "lowBars", "[J", true)
  | 9 => ("StableFoundry$Program", "highBars", "[J", true)
  | 10 => ("StableFoundry$Program", "constants", "[I", true)
  | 11 => ("StableFoundry$Program", "atoms", "I", false)
  | 12 => ("StableFoundry$Program", "count", "I", false)
  | 13 => ("StableFoundry$Program", "plain", "J", false)
  | 14 => ("StableFoundry$Program", "choices", "J", false)
  | 15 => ("StableFoundry$Program", "sums", "J", false)
  | 16 => ("StableFoundry$Program", "weaks", "J", false)
  | _ => ("StableFoundry$Program", "differences", "J", false)
def tyX7 : Nat → FieldType := fun k => match k with
  | 0 => .array (.object "StableFoundry$Rule")
  | 1 => .array .int
  | 2 => .array .int
  | 3 => .array .int
  | 4 => .array .long
  | 5 => .array .long
  | 6 => .array .long
  | 7 => .array .long
  | 8 => .array .long
  | 9 => .array .long
  | 10 => .array .int
  | 11 => .int
  | 12 => .int
  | 13 => .long
  | 14 => .long
  | 15 => .long
  | 16 => .long
  | _ => .long
abbrev wsX70 : List Cond := u_ws RX7 TX7 18
theorem nmX7 : ∀ a, a < 18 → ∀ b, b < 18 → a ≠ b → (TX7 a).2.1 ≠ (TX7 b).2.1 := by decide +kernel
theorem tyX7_ok : ∀ k, k < 18 → parseFieldDescriptor (TX7 k).2.2.1 = some (tyX7 k) := by decide +kernel
abbrev cX7_init : ByteArray := prog_9_method_1_code
def yX7_init : MethodName := ⟨RX7, "<init>", "()V"⟩
abbrev cX7_sets : ByteArray := prog_9_method_2_code
def yX7_sets : MethodName := ⟨RX7, "sets", "()I"⟩
abbrev cX7_all : ByteArray := prog_9_method_3_code
def yX7_all : MethodName := ⟨RX7, "all", "()J"⟩
abbrev cX7_resolve : ByteArray := prog_9_method_4_code
def yX7_resolve : MethodName := ⟨RX7, "resolve", "(LStableFoundry$Grounding;[LStableFoundry$Rule;)V"⟩
abbrev cX7_readConstants : ByteArray := prog_9_method_5_code
def yX7_readConstants : MethodName := ⟨RX7, "readConstants", "(I)V"⟩
abbrev cX7_resolveInstance : ByteArray := prog_9_method_6_code
def yX7_resolveInstance : MethodName := ⟨RX7, "resolveInstance", "(LStableFoundry$Rule;LStableFoundry$Grounding;)V"⟩
abbrev cX7_sort : ByteArray := prog_9_method_7_code
def yX7_sort : MethodName := ⟨RX7, "sort", "(LStableFoundry$Rule;J)V"⟩
abbrev cX7_atomsOf : ByteArray := prog_9_method_8_code
def yX7_atomsOf : MethodName := ⟨RX7, "atomsOf", "(LStableFoundry$Entries;LStableFoundry$Grounding;)I"⟩
abbrev cX7_weigh : ByteArray := prog_9_method_9_code
def yX7_weigh : MethodName := ⟨RX7, "weigh", "(LStableFoundry$Sum;LStableFoundry$Grounding;)V"⟩
abbrev cX7_addWeight : ByteArray := prog_9_method_10_code
def yX7_addWeight : MethodName := ⟨RX7, "addWeight", "(IJ)V"⟩
abbrev cX7_weightOf : ByteArray := prog_9_method_11_code
def yX7_weightOf : MethodName := ⟨RX7, "weightOf", "(II)J"⟩
abbrev cX7_fillParts : ByteArray := prog_9_method_12_code
def yX7_fillParts : MethodName := ⟨RX7, "fillParts", "()V"⟩
abbrev cX7_fillHolding : ByteArray := prog_9_method_13_code
def yX7_fillHolding : MethodName := ⟨RX7, "fillHolding", "()V"⟩
abbrev cX7_brokenSums : ByteArray := prog_9_method_14_code
def yX7_brokenSums : MethodName := ⟨RX7, "brokenSums", "(JI)J"⟩
abbrev cX7_sumHolds : ByteArray := prog_9_method_15_code
def yX7_sumHolds : MethodName := ⟨RX7, "sumHolds", "(II)Z"⟩
abbrev cX7_ruleAt : ByteArray := prog_9_method_16_code
def yX7_ruleAt : MethodName := ⟨RX7, "ruleAt", "(I)LStableFoundry$Rule;"⟩
abbrev cX7_headOf : ByteArray := prog_9_method_17_code
def yX7_headOf : MethodName := ⟨RX7, "headOf", "(I)I"⟩
abbrev cX7_needsOf : ByteArray := prog_9_method_18_code
def yX7_needsOf : MethodName := ⟨RX7, "needsOf", "(I)I"⟩
abbrev cX7_heldIn : ByteArray := prog_9_method_19_code
def yX7_heldIn : MethodName := ⟨RX7, "heldIn", "(I)J"⟩
abbrev cX7_headedIn : ByteArray := prog_9_method_20_code
def yX7_headedIn : MethodName := ⟨RX7, "headedIn", "(I)J"⟩
abbrev cX7_unsatisfiedIn : ByteArray := prog_9_method_21_code
def yX7_unsatisfiedIn : MethodName := ⟨RX7, "unsatisfiedIn", "(I)J"⟩
abbrev cX7_isWellChosen : ByteArray := prog_9_method_22_code
def yX7_isWellChosen : MethodName := ⟨RX7, "isWellChosen", "(II)Z"⟩
abbrev cX7_unsatisfiedIn_ : ByteArray := prog_9_method_23_code
def yX7_unsatisfiedIn_ : MethodName := ⟨RX7, "unsatisfiedIn", "(II)J"⟩
abbrev cX7_costOf : ByteArray := prog_9_method_24_code
def yX7_costOf : MethodName := ⟨RX7, "costOf", "(II)J"⟩
abbrev cX7_founds : ByteArray := prog_9_method_26_code
def yX7_founds : MethodName := ⟨RX7, "founds", "(III)Z"⟩
abbrev cX7_reachedFrom : ByteArray := prog_9_method_27_code
def yX7_reachedFrom : MethodName := ⟨RX7, "reachedFrom", "(I)I"⟩
abbrev cX7_needsOfHeads : ByteArray := prog_9_method_28_code
def yX7_needsOfHeads : MethodName := ⟨RX7, "needsOfHeads", "(I)I"⟩
def RX8 : String := "StableFoundry$Rule"
def TX8 : u_T := fun k => match k with
  | 0 => ("StableFoundry$Rule", "head", "LStableFoundry$Head;", true)
  | 1 => ("StableFoundry$Rule", "needs", "LStableFoundry$Entries;", true)
  | 2 => ("StableFoundry$Rule", "bans", "LStableFoundry$Entries;", true)
  | 3 => ("StableFoundry$Rule", "comparisons", "LStableFoundry$Entries;", true)
  | 4 => ("StableFoundry$Rule", "sum", "LStableFoundry$Sum;", true)
  | 5 => ("StableFoundry$Rule", "from", "[I", true)
  | 6 => ("StableFoundry$Rule", "to", "[I", true)
  | 7 => ("StableFoundry$Rule", "limited", "I", false)
  | 8 => ("StableFoundry$Rule", "variables", "I", false)
  | _ => ("StableFoundry$Rule", "raised", "I", false)
def tyX8 : Nat → FieldType := fun k => match k with
  | 0 => .object "StableFoundry$Head"
  | 1 => .object "StableFoundry$Entries"
  | 2 => .object "StableFoundry$Entries"
  | 3 => .object "StableFoundry$Entries"
  | 4 => .object "StableFoundry$Sum"
  | 5 => .array .int
  | 6 => .array .int
  | 7 => .int
  | 8 => .int
  | _ => .int
abbrev wsX80 : List Cond := u_ws RX8 TX8 10
theorem nmX8 : ∀ a, a < 10 → ∀ b, b < 10 → a ≠ b → (TX8 a).2.1 ≠ (TX8 b).2.1 := by decide +kernel
theorem tyX8_ok : ∀ k, k < 10 → parseFieldDescriptor (TX8 k).2.2.1 = some (tyX8 k) := by decide +kernel
abbrev cX8_init : ByteArray := prog_10_method_1_code
def yX8_init : MethodName := ⟨RX8, "<init>", "()V"⟩
abbrev cX8_clear : ByteArray := prog_10_method_2_code
def yX8_clear : MethodName := ⟨RX8, "clear", "()V"⟩
abbrev cX8_limit : ByteArray := prog_10_method_3_code
def yX8_limit : MethodName := ⟨RX8, "limit", "(III)V"⟩
abbrev cX8_lookThrough : ByteArray := prog_10_method_4_code
def yX8_lookThrough : MethodName := ⟨RX8, "lookThrough", "()V"⟩
abbrev cX8_variablesOf : ByteArray := prog_10_method_5_code
def yX8_variablesOf : MethodName := ⟨RX8, "variablesOf", "(Z)I"⟩
abbrev cX8_isSafe : ByteArray := prog_10_method_6_code
def yX8_isSafe : MethodName := ⟨RX8, "isSafe", "()Z"⟩
abbrev cX8_lowest : ByteArray := prog_10_method_7_code
def yX8_lowest : MethodName := ⟨RX8, "lowest", "(I)I"⟩
abbrev cX8_highest : ByteArray := prog_10_method_8_code
def yX8_highest : MethodName := ⟨RX8, "highest", "(I)I"⟩
abbrev cX8_isLimited : ByteArray := prog_10_method_9_code
def yX8_isLimited : MethodName := ⟨RX8, "isLimited", "(I)Z"⟩
def RX9 : String := "StableFoundry$Stability"
def TX9 : u_T := fun k => match k with
  | 0 => ("StableFoundry$Stability", "program", "LStableFoundry$Program;", true)
  | 1 => ("StableFoundry$Stability", "externals", "LStableFoundry$Externals;", true)
  | _ => ("StableFoundry$Stability", "differences", "LStableFoundry$Differences;", true)
def tyX9 : Nat → FieldType := fun k => match k with
  | 0 => .object "StableFoundry$Program"
  | 1 => .object "StableFoundry$Externals"
  | _ => .object "StableFoundry$Differences"
abbrev wsX90 : List Cond := u_ws RX9 TX9 3
theorem nmX9 : ∀ a, a < 3 → ∀ b, b < 3 → a ≠ b → (TX9 a).2.1 ≠ (TX9 b).2.1 := by decide +kernel
theorem tyX9_ok : ∀ k, k < 3 → parseFieldDescriptor (TX9 k).2.2.1 = some (tyX9 k) := by decide +kernel
abbrev cX9_init : ByteArray := prog_11_method_1_code
def yX9_init : MethodName := ⟨RX9, "<init>", "(LStableFoundry$Program;LStableFoundry$Externals;LStableFoundry$Differences;)V"⟩
abbrev cX9_isAnswer : ByteArray := prog_11_method_2_code
def yX9_isAnswer : MethodName := ⟨RX9, "isAnswer", "(I)Z"⟩
abbrev cX9_isLeast : ByteArray := prog_11_method_3_code
def yX9_isLeast : MethodName := ⟨RX9, "isLeast", "(I)Z"⟩
abbrev cX9_sparedFor : ByteArray := prog_11_method_4_code
def yX9_sparedFor : MethodName := ⟨RX9, "sparedFor", "(I)J"⟩
abbrev cX9_hinderedWithout : ByteArray := prog_11_method_5_code
def yX9_hinderedWithout : MethodName := ⟨RX9, "hinderedWithout", "(J)J"⟩
abbrev cX9_reconciledWithout : ByteArray := prog_11_method_6_code
def yX9_reconciledWithout : MethodName := ⟨RX9, "reconciledWithout", "(JJ)J"⟩
abbrev cX9_isUnfounded : ByteArray := prog_11_method_7_code
def yX9_isUnfounded : MethodName := ⟨RX9, "isUnfounded", "(II)Z"⟩
def RX10 : String := "StableFoundry$Sum"
def TX10 : u_T := fun k => match k with
  | 0 => ("StableFoundry$Sum", "isBegun", "Z", false)
  | 1 => ("StableFoundry$Sum", "least", "I", false)
  | 2 => ("StableFoundry$Sum", "greatest", "I", false)
  | 3 => ("StableFoundry$Sum", "elements", "LStableFoundry$Entries;", true)
  | _ => ("StableFoundry$Sum", "weights", "[I", true)
def tyX10 : Nat → FieldType := fun k => match k with
  | 0 => .boolean
  | 1 => .int
  | 2 => .int
  | 3 => .object "StableFoundry$Entries"
  | _ => .array .int
abbrev wsX100 : List Cond := u_ws RX10 TX10 5
theorem nmX10 : ∀ a, a < 5 → ∀ b, b < 5 → a ≠ b → (TX10 a).2.1 ≠ (TX10 b).2.1 := by decide +kernel
theorem tyX10_ok : ∀ k, k < 5 → parseFieldDescriptor (TX10 k).2.2.1 = some (tyX10 k) := by decide +kernel
abbrev cX10_init : ByteArray := prog_12_method_1_code
def yX10_init : MethodName := ⟨RX10, "<init>", "()V"⟩
abbrev cX10_clear : ByteArray := prog_12_method_2_code
def yX10_clear : MethodName := ⟨RX10, "clear", "()V"⟩
abbrev cX10_addElement : ByteArray := prog_12_method_3_code
def yX10_addElement : MethodName := ⟨RX10, "addElement", "(IIII)V"⟩
abbrev cX10_weightAt : ByteArray := prog_12_method_4_code
def yX10_weightAt : MethodName := ⟨RX10, "weightAt", "(I)I"⟩
def RX11 : String := "StableFoundry"
def TX11 : u_T := fun k => match k with
  | 0 => ("StableFoundry", "places", "[I", true)
  | 1 => ("StableFoundry", "predicates", "I", false)
  | 2 => ("StableFoundry", "rules", "[LStableFoundry$Rule;", true)
  | 3 => ("StableFoundry", "ruleCount", "I", false)
  | 4 => ("StableFoundry", "draft", "LStableFoundry$Rule;", false)
  | 5 => ("StableFoundry", "ground", "LStableFoundry$Grounding;", true)
  | 6 => ("StableFoundry", "again", "LStableFoundry$Grounding;", true)
  | 7 => ("StableFoundry", "externals", "LStableFoundry$Externals;", true)
  | 8 => ("StableFoundry", "preferences", "LStableFoundry$Preferences;", true)
  | 9 => ("StableFoundry", "program", "LStableFoundry$Program;", true)
  | 10 => ("StableFoundry", "differences", "LStableFoundry$Differences;", true)
  | 11 => ("StableFoundry", "stability", "LStableFoundry$Stability;", true)
  | 12 => ("StableFoundry", "found", "LStableFoundry$Found;", true)
  | 13 => ("StableFoundry", "isSearched", "Z", false)
  | 14 => ("StableFoundry", "isRanked", "Z", false)
  | _ => ("StableFoundry", "cheapest", "I", false)
def tyX11 : Nat → FieldType := fun k => match k with
  | 0 => .array .int
  | 1 => .int
  | 2 => .array (.object "StableFoundry$Rule")
  | 3 => .int
  | 4 => .object "StableFoundry$Rule"
  | 5 => .object "StableFoundry$Grounding"
  | 6 => .object "StableFoundry$Grounding"
  | 7 => .object "StableFoundry$Externals"
  | 8 => .object "StableFoundry$Preferences"
  | 9 => .object "StableFoundry$Program"
  | 10 => .object "StableFoundry$Differences"
  | 11 => .object "StableFoundry$Stability"
  | 12 => .object "StableFoundry$Found"
  | 13 => .boolean
  | 14 => .boolean
  | _ => .int
abbrev wsX110 : List Cond := u_ws RX11 TX11 16
theorem nmX11 : ∀ a, a < 16 → ∀ b, b < 16 → a ≠ b → (TX11 a).2.1 ≠ (TX11 b).2.1 := by decide +kernel
theorem tyX11_ok : ∀ k, k < 16 → parseFieldDescriptor (TX11 k).2.2.1 = some (tyX11 k) := by decide +kernel
abbrev cX11_init : ByteArray := prog_1_method_1_code
def yX11_init : MethodName := ⟨RX11, "<init>", "()V"⟩
abbrev cX11_predicate : ByteArray := prog_1_method_2_code
def yX11_predicate : MethodName := ⟨RX11, "predicate", "(I)I"⟩
abbrev cX11_head : ByteArray := prog_1_method_3_code
def yX11_head : MethodName := ⟨RX11, "head", "(III)I"⟩
abbrev cX11_choice : ByteArray := prog_1_method_4_code
def yX11_choice : MethodName := ⟨RX11, "choice", "(II)V"⟩
abbrev cX11_weak : ByteArray := prog_1_method_5_code
def yX11_weak : MethodName := ⟨RX11, "weak", "(II)V"⟩
abbrev cX11_difference : ByteArray := prog_1_method_6_code
def yX11_difference : MethodName := ⟨RX11, "difference", "(III)V"⟩
abbrev cX11_body : ByteArray := prog_1_method_7_code
def yX11_body : MethodName := ⟨RX11, "body", "(IIIZ)I"⟩
abbrev cX11_compare : ByteArray := prog_1_method_8_code
def yX11_compare : MethodName := ⟨RX11, "compare", "(III)I"⟩
abbrev cX11_interval : ByteArray := prog_1_method_9_code
def yX11_interval : MethodName := ⟨RX11, "interval", "(III)V"⟩
abbrev cX11_sum : ByteArray := prog_1_method_10_code
def yX11_sum : MethodName := ⟨RX11, "sum", "(II)V"⟩
abbrev cX11_element : ByteArray := prog_1_method_11_code
def yX11_element : MethodName := ⟨RX11, "element", "(IIII)I"⟩
abbrev cX11_drop : ByteArray := prog_1_method_12_code
def yX11_drop : MethodName := ⟨RX11, "drop", "()V"⟩
abbrev cX11_enter : ByteArray := prog_1_method_13_code
def yX11_enter : MethodName := ⟨RX11, "enter", "()I"⟩
abbrev cX11_external : ByteArray := prog_1_method_14_code
def yX11_external : MethodName := ⟨RX11, "external", "(III)I"⟩
abbrev cX11_assign : ByteArray := prog_1_method_15_code
def yX11_assign : MethodName := ⟨RX11, "assign", "(II)I"⟩
abbrev cX11_prefer : ByteArray := prog_1_method_16_code
def yX11_prefer : MethodName := ⟨RX11, "prefer", "(II)I"⟩
abbrev cX11_ground : ByteArray := prog_1_method_18_code
def yX11_ground : MethodName := ⟨RX11, "ground", "()I"⟩
abbrev cX11_groundAnew : ByteArray := prog_1_method_19_code
def yX11_groundAnew : MethodName := ⟨RX11, "groundAnew", "()I"⟩
abbrev cX11_answers : ByteArray := prog_1_method_21_code
def yX11_answers : MethodName := ⟨RX11, "answers", "()I"⟩
abbrev cX11_answersAnew : ByteArray := prog_1_method_22_code
def yX11_answersAnew : MethodName := ⟨RX11, "answersAnew", "()I"⟩
abbrev cX11_answer : ByteArray := prog_1_method_23_code
def yX11_answer : MethodName := ⟨RX11, "answer", "(I)I"⟩
abbrev cX11_assuming : ByteArray := prog_1_method_24_code
def yX11_assuming : MethodName := ⟨RX11, "assuming", "(II)I"⟩
abbrev cX11_conflict : ByteArray := prog_1_method_25_code
def yX11_conflict : MethodName := ⟨RX11, "conflict", "(II)I"⟩
abbrev cX11_cost : ByteArray := prog_1_method_26_code
def yX11_cost : MethodName := ⟨RX11, "cost", "(II)J"⟩
abbrev cX11_rank : ByteArray := prog_1_method_27_code
def yX11_rank : MethodName := ⟨RX11, "rank", "(I)I"⟩
abbrev cX11_projected : ByteArray := prog_1_method_28_code
def yX11_projected : MethodName := ⟨RX11, "projected", "(I)I"⟩
abbrev cX11_brave : ByteArray := prog_1_method_29_code
def yX11_brave : MethodName := ⟨RX11, "brave", "()I"⟩
abbrev cX11_cautious : ByteArray := prog_1_method_30_code
def yX11_cautious : MethodName := ⟨RX11, "cautious", "()I"⟩
abbrev cX11_value : ByteArray := prog_1_method_31_code
def yX11_value : MethodName := ⟨RX11, "value", "(II)I"⟩
abbrev cX11_bar : ByteArray := prog_1_method_33_code
def yX11_bar : MethodName := ⟨RX11, "bar", "(I)I"⟩
abbrev cX11_loop : ByteArray := prog_1_method_34_code
def yX11_loop : MethodName := ⟨RX11, "loop", "(I)I"⟩
abbrev cX11_unfounded : ByteArray := prog_1_method_35_code
def yX11_unfounded : MethodName := ⟨RX11, "unfounded", "(I)I"⟩
abbrev cX11_checkTerms : ByteArray := prog_1_method_36_code
def yX11_checkTerms : MethodName := ⟨RX11, "checkTerms", "(IIII)V"⟩
abbrev cX11_fits : ByteArray := prog_1_method_37_code
def yX11_fits : MethodName := ⟨RX11, "fits", "(ZII)Z"⟩
abbrev cX11_isTerm : ByteArray := prog_1_method_38_code
def yX11_isTerm : MethodName := ⟨RX11, "isTerm", "(II)Z"⟩
abbrev cX11_addTo : ByteArray := prog_1_method_39_code
def yX11_addTo : MethodName := ⟨RX11, "addTo", "(LStableFoundry$Entries;III)I"⟩
abbrev cX11_checkHeadIsEmpty : ByteArray := prog_1_method_40_code
def yX11_checkHeadIsEmpty : MethodName := ⟨RX11, "checkHeadIsEmpty", "()V"⟩
abbrev cX11_checkLevel : ByteArray := prog_1_method_41_code
def yX11_checkLevel : MethodName := ⟨RX11, "checkLevel", "(I)V"⟩
abbrev cX11_checkNumber : ByteArray := prog_1_method_42_code
def yX11_checkNumber : MethodName := ⟨RX11, "checkNumber", "(I)V"⟩
abbrev cX11_checkAtom : ByteArray := prog_1_method_43_code
def yX11_checkAtom : MethodName := ⟨RX11, "checkAtom", "(I)V"⟩
abbrev cX11_checkSet : ByteArray := prog_1_method_44_code
def yX11_checkSet : MethodName := ⟨RX11, "checkSet", "(I)V"⟩
abbrev cX11_setOf : ByteArray := prog_1_method_45_code
def yX11_setOf : MethodName := ⟨RX11, "setOf", "(I)I"⟩
abbrev cX11_groundDraft : ByteArray := prog_1_method_46_code
def yX11_groundDraft : MethodName := ⟨RX11, "groundDraft", "()Z"⟩
abbrev cX11_groundExternal : ByteArray := prog_1_method_47_code
def yX11_groundExternal : MethodName := ⟨RX11, "groundExternal", "(I)Z"⟩
abbrev cX11_resolve : ByteArray := prog_1_method_48_code
def yX11_resolve : MethodName := ⟨RX11, "resolve", "()V"⟩
abbrev cX11_search : ByteArray := prog_1_method_49_code
def yX11_search : MethodName := ⟨RX11, "search", "()V"⟩
abbrev cX11_meets : ByteArray := prog_1_method_50_code
def yX11_meets : MethodName := ⟨RX11, "meets", "(III)Z"⟩
abbrev cX11_canMeet : ByteArray := prog_1_method_51_code
def yX11_canMeet : MethodName := ⟨RX11, "canMeet", "(I)Z"⟩
abbrev cX11_leastConflict : ByteArray := prog_1_method_52_code
def yX11_leastConflict : MethodName := ⟨RX11, "leastConflict", "(I)I"⟩
abbrev cX11_isLess : ByteArray := prog_1_method_53_code
def yX11_isLess : MethodName := ⟨RX11, "isLess", "(II)Z"⟩
abbrev cX11_findCheapest : ByteArray := prog_1_method_54_code
def yX11_findCheapest : MethodName := ⟨RX11, "findCheapest", "()V"⟩
abbrev cX11_compareCosts : ByteArray := prog_1_method_55_code
def yX11_compareCosts : MethodName := ⟨RX11, "compareCosts", "(II)I"⟩
abbrev cX11_contains : ByteArray := prog_1_method_56_code
def yX11_contains : MethodName := ⟨RX11, "contains", "(II)Z"⟩
abbrev cX11_marks : ByteArray := prog_1_method_57_code
def yX11_marks : MethodName := ⟨RX11, "marks", "(JI)Z"⟩
abbrev cX11_isOne : ByteArray := prog_1_method_58_code
def yX11_isOne : MethodName := ⟨RX11, "isOne", "(J)Z"⟩
abbrev cX11_lowestIn : ByteArray := prog_1_method_59_code
def yX11_lowestIn : MethodName := ⟨RX11, "lowestIn", "(J)I"⟩
def RX12 : String := "StableFoundryModel"
def TX12 : u_T := fun k => match k with
  | _ => ("", "", "", false)
def tyX12 : Nat → FieldType := fun k => match k with
  | _ => .int
abbrev wsX120 : List Cond := u_ws RX12 TX12 0
theorem nmX12 : ∀ a, a < 0 → ∀ b, b < 0 → a ≠ b → (TX12 a).2.1 ≠ (TX12 b).2.1 := by decide +kernel
theorem tyX12_ok : ∀ k, k < 0 → parseFieldDescriptor (TX12 k).2.2.1 = some (tyX12 k) := by decide +kernel
def RJ6 : String := "java/lang/Integer"
abbrev cJ6_bitCount_0f7a4 : ByteArray := prog_19_method_49_code
def yJ6_bitCount_0f7a4 : MethodName := ⟨RJ6, "bitCount", "(I)I"⟩
def RJ13 : String := "java/lang/Long"
abbrev cJ13_compare_74951 : ByteArray := prog_20_method_42_code
def yJ13_compare_74951 : MethodName := ⟨RJ13, "compare", "(JJ)I"⟩
abbrev cJ13_bitCount_95d88 : ByteArray := prog_20_method_50_code
def yJ13_bitCount_95d88 : MethodName := ⟨RJ13, "bitCount", "(J)I"⟩
def RJ9 : String := "java/lang/Math"
abbrev cJ9_max_7cf53 : ByteArray := prog_21_method_65_code
def yJ9_max_7cf53 : MethodName := ⟨RJ9, "max", "(II)I"⟩
abbrev cJ9_min_7cf53 : ByteArray := prog_21_method_69_code
def yJ9_min_7cf53 : MethodName := ⟨RJ9, "min", "(II)I"⟩
def RL : String := "StableFoundryLaw"
abbrev cL_cell : ByteArray := method_2_code
def yL_cell : MethodName := ⟨RL, "cell", "([II)I"⟩
abbrev cL_low : ByteArray := method_3_code
def yL_low : MethodName := ⟨RL, "low", "(II)I"⟩
abbrev cL_head : ByteArray := method_4_code
def yL_head : MethodName := ⟨RL, "head", "(LStableFoundry;III)I"⟩
abbrev cL_choice : ByteArray := method_5_code
def yL_choice : MethodName := ⟨RL, "choice", "(LStableFoundry;II)I"⟩
abbrev cL_weak : ByteArray := method_6_code
def yL_weak : MethodName := ⟨RL, "weak", "(LStableFoundry;II)I"⟩
abbrev cL_difference : ByteArray := method_7_code
def yL_difference : MethodName := ⟨RL, "difference", "(LStableFoundry;III)I"⟩
abbrev cL_body : ByteArray := method_8_code
def yL_body : MethodName := ⟨RL, "body", "(LStableFoundry;IIIZ)I"⟩
abbrev cL_compare : ByteArray := method_9_code
def yL_compare : MethodName := ⟨RL, "compare", "(LStableFoundry;III)I"⟩
abbrev cL_interval : ByteArray := method_10_code
def yL_interval : MethodName := ⟨RL, "interval", "(LStableFoundry;III)I"⟩
abbrev cL_sum : ByteArray := method_11_code
def yL_sum : MethodName := ⟨RL, "sum", "(LStableFoundry;II)I"⟩
abbrev cL_element : ByteArray := method_12_code
def yL_element : MethodName := ⟨RL, "element", "(LStableFoundry;IIII)I"⟩
abbrev cL_enter : ByteArray := method_13_code
def yL_enter : MethodName := ⟨RL, "enter", "(LStableFoundry;)I"⟩
abbrev cL_external : ByteArray := method_14_code
def yL_external : MethodName := ⟨RL, "external", "(LStableFoundry;III)I"⟩
abbrev cL_assign : ByteArray := method_15_code
def yL_assign : MethodName := ⟨RL, "assign", "(LStableFoundry;II)I"⟩
abbrev cL_prefer : ByteArray := method_16_code
def yL_prefer : MethodName := ⟨RL, "prefer", "(LStableFoundry;II)I"⟩
abbrev cL_term : ByteArray := method_17_code
def yL_term : MethodName := ⟨RL, "term", "(I)I"⟩
abbrev cL_act : ByteArray := method_18_code
def yL_act : MethodName := ⟨RL, "act", "(LStableFoundry;I)I"⟩
abbrev cL_areAlike : ByteArray := method_19_code
def yL_areAlike : MethodName := ⟨RL, "areAlike", "(LStableFoundry;LStableFoundry;)Z"⟩
abbrev cL_areAnswersSo : ByteArray := method_20_code
def yL_areAnswersSo : MethodName := ⟨RL, "areAnswersSo", "(LStableFoundry;I)Z"⟩
abbrev cL_law : ByteArray := code
def yL_law : MethodName := ⟨RL, "law", "([I)Z"⟩
abbrev vwCl : List vw_C := [(RX0, TX0, 1), (RX1, TX1, 3), (RX2, TX2, 3), (RX3, TX3, 3), (RX4, TX4, 6), (RX5, TX5, 9), (RX6, TX6, 3), (RX7, TX7, 18), (RX8, TX8, 10), (RX9, TX9, 3), (RX10, TX10, 5), (RX11, TX11, 16)]
/-- the owners by number: classes 0 to 12, the law 13, Integer 14, Long 15, Math 16 -/
def cnm (o : Nat) : String := match o with
  | 0 => RX0
  | 1 => RX1
  | 2 => RX2
  | 3 => RX3
  | 4 => RX4
  | 5 => RX5
  | 6 => RX6
  | 7 => RX7
  | 8 => RX8
  | 9 => RX9
  | 10 => RX10
  | 11 => RX11
  | 12 => RX12
  | 13 => RL
  | 14 => RJ6
  | 15 => RJ13
  | 16 => RJ9
  | _ => ""
def cTb (c : Nat) : u_T := match c with
  | 0 => TX0
  | 1 => TX1
  | 2 => TX2
  | 3 => TX3
  | 4 => TX4
  | 5 => TX5
  | 6 => TX6
  | 7 => TX7
  | 8 => TX8
  | 9 => TX9
  | 10 => TX10
  | 11 => TX11
  | _ => TX12
def cTy (c : Nat) : Nat → FieldType := match c with
  | 0 => tyX0
  | 1 => tyX1
  | 2 => tyX2
  | 3 => tyX3
  | 4 => tyX4
  | 5 => tyX5
  | 6 => tyX6
  | 7 => tyX7
  | 8 => tyX8
  | 9 => tyX9
  | 10 => tyX10
  | 11 => tyX11
  | _ => tyX12
def nfl (c : Nat) : Nat := match c with
  | 0 => 1
  | 1 => 3
  | 2 => 3
  | 3 => 3
  | 4 => 6
  | 5 => 9
  | 6 => 3
  | 7 => 18
  | 8 => 10
  | 9 => 3
  | 10 => 5
  | 11 => 16
  | 12 => 1
  | _ => 0
def ftl : List (List Nat) := [[2], [2, 0, 0], [0, 0, 0], [2, 2, 0], [2, 0, 2, 0, 2, 3], [0, 2, 0, 0, 0, 0, 0, 0, 0], [2, 2, 0], [2, 2, 2, 2, 2, 2, 2, 2, 2, 2, 2, 0, 0, 1, 1, 1, 1, 1], [2, 2, 2, 2, 2, 2, 2, 0, 0, 0], [2, 2, 2], [3, 0, 0, 2, 2], [2, 0, 2, 0, 2, 2, 2, 2, 2, 2, 2, 2, 2, 3, 3, 0], [2]]
def fty (c k : Nat) : Nat := (ftl.getD c []).getD k 0
/-- the methods by number: name, bytes, locals, what they return, handlers (none: no table), owner, arguments with the object's own -/
abbrev MRow : Type := MethodName × ByteArray × Nat × Option FieldType × List (Nat × Nat × Nat × Nat) × Nat × Nat
def MTB_0 : List MRow := [(yX11_init, cX11_init, 1, none, [], 11, 1),
  (yX11_predicate, cX11_predicate, 2, some .int, [], 11, 2),
  (yX11_head, cX11_head, 4, some .int, [], 11, 4),
  (yX11_choice, cX11_choice, 3, none, [], 11, 3),
  (yX11_weak, cX11_weak, 3, none, [], 11, 3),
  (yX11_difference, cX11_difference, 4, none, [], 11, 4),
  (yX11_body, cX11_body, 5, some .int, [], 11, 5),
  (yX11_compare, cX11_compare, 4, some .int, [], 11, 4),
  (yX11_interval, cX11_interval, 4, none, [], 11, 4),
  (yX11_sum, cX11_sum, 3, none, [], 11, 3),
  (yX11_element, cX11_element, 5, some .int, [], 11, 5),
  (yX11_drop, cX11_drop, 1, none, [], 11, 1),
  (yX11_enter, cX11_enter, 1, some .int, [], 11, 1),
  (yX11_external, cX11_external, 6, some .int, [], 11, 4),
  (yX11_assign, cX11_assign, 4, some .int, [], 11, 3),
  (yX11_prefer, cX11_prefer, 3, some .int, [], 11, 3),
  (yL_low, cL_low, 2, some .int, [], 13, 2),
  (yX11_ground, cX11_ground, 1, some .int, [], 11, 1),
  (yX11_groundAnew, cX11_groundAnew, 2, some .int, [], 11, 1),
  (yL_low, cL_low, 2, some .int, [], 13, 2),
  (yX11_answers, cX11_answers, 1, some .int, [], 11, 1),
  (yX11_answersAnew, cX11_answersAnew, 1, some .int, [], 11, 1),
  (yX11_answer, cX11_answer, 2, some .int, [], 11, 2),
  (yX11_assuming, cX11_assuming, 5, some .int, [], 11, 3),
  (yX11_conflict, cX11_conflict, 4, some .int, [], 11, 3),
  (yX11_cost, cX11_cost, 4, some .long, [], 11, 3),
  (yX11_rank, cX11_rank, 4, some .int, [], 11, 2),
  (yX11_projected, cX11_projected, 2, some .int, [], 11, 2),
  (yX11_brave, cX11_brave, 3, some .int, [], 11, 1),
  (yX11_cautious, cX11_cautious, 3, some .int, [], 11, 1),
  (yX11_value, cX11_value, 4, some .int, [], 11, 3),
  (yL_low, cL_low, 2, some .int, [], 13, 2),
  (yX11_bar, cX11_bar, 5, some .int, [], 11, 2),
  (yX11_loop, cX11_loop, 5, some .int, [], 11, 2),
  (yX11_unfounded, cX11_unfounded, 4, some .int, [], 11, 2),
  (yX11_checkTerms, cX11_checkTerms, 5, none, [], 11, 5),
  (yX11_fits, cX11_fits, 3, some .boolean, [], 11, 3),
  (yX11_isTerm, cX11_isTerm, 2, some .boolean, [], 11, 2),
  (yX11_addTo, cX11_addTo, 4, some .int, [], 11, 4),
  (yX11_checkHeadIsEmpty, cX11_checkHeadIsEmpty, 1, none, [], 11, 1)]
def MTB_1 : List MRow := [(yX11_checkLevel, cX11_checkLevel, 1, none, [], 11, 1),
  (yX11_checkNumber, cX11_checkNumber, 1, none, [], 11, 1),
  (yX11_checkAtom, cX11_checkAtom, 2, none, [], 11, 2),
  (yX11_checkSet, cX11_checkSet, 2, none, [], 11, 2),
  (yX11_setOf, cX11_setOf, 2, some .int, [], 11, 2),
  (yX11_groundDraft, cX11_groundDraft, 3, some .boolean, [], 11, 1),
  (yX11_groundExternal, cX11_groundExternal, 4, some .boolean, [], 11, 2),
  (yX11_resolve, cX11_resolve, 1, none, [], 11, 1),
  (yX11_search, cX11_search, 2, none, [], 11, 1),
  (yX11_meets, cX11_meets, 3, some .boolean, [], 11, 3),
  (yX11_canMeet, cX11_canMeet, 3, some .boolean, [], 11, 2),
  (yX11_leastConflict, cX11_leastConflict, 5, some .int, [], 11, 2),
  (yX11_isLess, cX11_isLess, 3, some .boolean, [], 11, 2),
  (yX11_findCheapest, cX11_findCheapest, 2, none, [], 11, 1),
  (yX11_compareCosts, cX11_compareCosts, 5, some .int, [], 11, 3),
  (yX11_contains, cX11_contains, 2, some .boolean, [], 11, 2),
  (yX11_marks, cX11_marks, 3, some .boolean, [], 11, 2),
  (yX11_isOne, cX11_isOne, 2, some .boolean, [], 11, 1),
  (yX11_lowestIn, cX11_lowestIn, 2, some .int, [], 11, 1),
  (yL_low, cL_low, 2, some .int, [], 13, 2),
  (yL_low, cL_low, 2, some .int, [], 13, 2),
  (yL_low, cL_low, 2, some .int, [], 13, 2),
  (yL_low, cL_low, 2, some .int, [], 13, 2),
  (yL_low, cL_low, 2, some .int, [], 13, 2),
  (yL_low, cL_low, 2, some .int, [], 13, 2),
  (yL_low, cL_low, 2, some .int, [], 13, 2),
  (yL_low, cL_low, 2, some .int, [], 13, 2),
  (yL_low, cL_low, 2, some .int, [], 13, 2),
  (yL_low, cL_low, 2, some .int, [], 13, 2),
  (yL_low, cL_low, 2, some .int, [], 13, 2),
  (yL_low, cL_low, 2, some .int, [], 13, 2),
  (yL_low, cL_low, 2, some .int, [], 13, 2),
  (yL_low, cL_low, 2, some .int, [], 13, 2),
  (yL_low, cL_low, 2, some .int, [], 13, 2),
  (yL_low, cL_low, 2, some .int, [], 13, 2),
  (yL_low, cL_low, 2, some .int, [], 13, 2),
  (yL_low, cL_low, 2, some .int, [], 13, 2),
  (yL_low, cL_low, 2, some .int, [], 13, 2),
  (yL_low, cL_low, 2, some .int, [], 13, 2),
  (yL_low, cL_low, 2, some .int, [], 13, 2)]
def MTB_2 : List MRow := [(yL_low, cL_low, 2, some .int, [], 13, 2),
  (yL_low, cL_low, 2, some .int, [], 13, 2),
  (yL_low, cL_low, 2, some .int, [], 13, 2),
  (yL_low, cL_low, 2, some .int, [], 13, 2),
  (yL_low, cL_low, 2, some .int, [], 13, 2),
  (yL_low, cL_low, 2, some .int, [], 13, 2),
  (yL_low, cL_low, 2, some .int, [], 13, 2),
  (yL_low, cL_low, 2, some .int, [], 13, 2),
  (yL_low, cL_low, 2, some .int, [], 13, 2),
  (yL_low, cL_low, 2, some .int, [], 13, 2),
  (yL_low, cL_low, 2, some .int, [], 13, 2),
  (yL_low, cL_low, 2, some .int, [], 13, 2),
  (yL_low, cL_low, 2, some .int, [], 13, 2),
  (yL_low, cL_low, 2, some .int, [], 13, 2),
  (yL_low, cL_low, 2, some .int, [], 13, 2),
  (yL_low, cL_low, 2, some .int, [], 13, 2),
  (yL_low, cL_low, 2, some .int, [], 13, 2),
  (yL_low, cL_low, 2, some .int, [], 13, 2),
  (yL_low, cL_low, 2, some .int, [], 13, 2),
  (yL_low, cL_low, 2, some .int, [], 13, 2),
  (yL_low, cL_low, 2, some .int, [], 13, 2),
  (yL_low, cL_low, 2, some .int, [], 13, 2),
  (yL_low, cL_low, 2, some .int, [], 13, 2),
  (yL_low, cL_low, 2, some .int, [], 13, 2),
  (yL_low, cL_low, 2, some .int, [], 13, 2),
  (yL_low, cL_low, 2, some .int, [], 13, 2),
  (yL_low, cL_low, 2, some .int, [], 13, 2),
  (yL_low, cL_low, 2, some .int, [], 13, 2),
  (yL_low, cL_low, 2, some .int, [], 13, 2),
  (yL_low, cL_low, 2, some .int, [], 13, 2),
  (yL_low, cL_low, 2, some .int, [], 13, 2),
  (yL_low, cL_low, 2, some .int, [], 13, 2),
  (yL_low, cL_low, 2, some .int, [], 13, 2),
  (yL_low, cL_low, 2, some .int, [], 13, 2),
  (yL_low, cL_low, 2, some .int, [], 13, 2),
  (yL_low, cL_low, 2, some .int, [], 13, 2),
  (yL_low, cL_low, 2, some .int, [], 13, 2),
  (yL_low, cL_low, 2, some .int, [], 13, 2),
  (yL_low, cL_low, 2, some .int, [], 13, 2),
  (yL_low, cL_low, 2, some .int, [], 13, 2)]
def MTB_3 : List MRow := [(yL_low, cL_low, 2, some .int, [], 13, 2),
  (yL_low, cL_low, 2, some .int, [], 13, 2),
  (yL_low, cL_low, 2, some .int, [], 13, 2),
  (yL_low, cL_low, 2, some .int, [], 13, 2),
  (yL_low, cL_low, 2, some .int, [], 13, 2),
  (yL_low, cL_low, 2, some .int, [], 13, 2),
  (yL_low, cL_low, 2, some .int, [], 13, 2),
  (yL_low, cL_low, 2, some .int, [], 13, 2),
  (yL_low, cL_low, 2, some .int, [], 13, 2),
  (yL_low, cL_low, 2, some .int, [], 13, 2),
  (yL_low, cL_low, 2, some .int, [], 13, 2),
  (yL_low, cL_low, 2, some .int, [], 13, 2),
  (yL_low, cL_low, 2, some .int, [], 13, 2),
  (yL_low, cL_low, 2, some .int, [], 13, 2),
  (yL_low, cL_low, 2, some .int, [], 13, 2),
  (yL_low, cL_low, 2, some .int, [], 13, 2),
  (yL_low, cL_low, 2, some .int, [], 13, 2),
  (yL_low, cL_low, 2, some .int, [], 13, 2),
  (yL_low, cL_low, 2, some .int, [], 13, 2),
  (yL_low, cL_low, 2, some .int, [], 13, 2),
  (yL_low, cL_low, 2, some .int, [], 13, 2),
  (yL_low, cL_low, 2, some .int, [], 13, 2),
  (yL_low, cL_low, 2, some .int, [], 13, 2),
  (yL_low, cL_low, 2, some .int, [], 13, 2),
  (yL_low, cL_low, 2, some .int, [], 13, 2),
  (yL_low, cL_low, 2, some .int, [], 13, 2),
  (yL_low, cL_low, 2, some .int, [], 13, 2),
  (yL_low, cL_low, 2, some .int, [], 13, 2),
  (yL_low, cL_low, 2, some .int, [], 13, 2),
  (yL_low, cL_low, 2, some .int, [], 13, 2),
  (yX0_init, cX0_init, 1, none, [], 0, 1),
  (yX0_greatestOf, cX0_greatestOf, 2, some .int, [], 0, 2),
  (yX0_canHold, cX0_canHold, 10, some .boolean, [], 0, 3),
  (yX0_lower, cX0_lower, 3, some .boolean, [], 0, 2),
  (yX1_init, cX1_init, 2, none, [], 1, 2),
  (yX1_isFull, cX1_isFull, 1, some .boolean, [], 1, 1),
  (yX1_add, cX1_add, 4, none, [], 1, 4),
  (yX1_clear, cX1_clear, 1, none, [], 1, 1),
  (yX1_codeAt, cX1_codeAt, 2, some .int, [], 1, 2),
  (yX1_groundCode, cX1_groundCode, 3, some .int, [], 1, 3)]
def MTB_4 : List MRow := [(yX1_groundCodeOf, cX1_groundCodeOf, 3, some .int, [], 1, 3),
  (yX1_numberIn, cX1_numberIn, 1, some .int, [], 1, 1),
  (yX1_firstIn, cX1_firstIn, 1, some .int, [], 1, 1),
  (yX1_secondIn, cX1_secondIn, 1, some .int, [], 1, 1),
  (yX1_hasZ, cX1_hasZ, 1, some .boolean, [], 1, 1),
  (yX1_variableIn, cX1_variableIn, 1, some .int, [], 1, 1),
  (yX1_constantOf, cX1_constantOf, 4, some .int, [], 1, 3),
  (yX1_lastVariableOf, cX1_lastVariableOf, 1, some .int, [], 1, 1),
  (yX1_isTrue, cX1_isTrue, 4, some .boolean, [], 1, 2),
  (yX1_variables, cX1_variables, 5, some .int, [], 1, 2),
  (yX1_variableBit, cX1_variableBit, 3, some .int, [], 1, 2),
  (yX2_init, cX2_init, 1, none, [], 2, 1),
  (yX2_has, cX2_has, 2, some .boolean, [], 2, 2),
  (yX2_add, cX2_add, 2, none, [], 2, 2),
  (yX2_stateOf, cX2_stateOf, 2, some .int, [], 2, 2),
  (yX2_let, cX2_let, 4, none, [], 2, 3),
  (yX2_neededBy, cX2_neededBy, 2, some .int, [], 2, 2),
  (yX3_init, cX3_init, 1, none, [], 3, 1),
  (yX3_clear, cX3_clear, 2, none, [], 3, 1),
  (yX3_has, cX3_has, 2, some .boolean, [], 3, 2),
  (yX3_add, cX3_add, 2, none, [], 3, 2),
  (yX3_setAt, cX3_setAt, 4, some .int, [], 3, 2),
  (yX3_countSeenThrough, cX3_countSeenThrough, 5, some .int, [], 3, 2),
  (yX4_init, cX4_init, 1, none, [], 4, 1),
  (yX4_size, cX4_size, 1, some .int, [], 4, 1),
  (yX4_cutTo, cX4_cutTo, 3, none, [], 4, 3),
  (yX4_atomAt, cX4_atomAt, 2, some .int, [], 4, 2),
  (yX4_instanceAt, cX4_instanceAt, 2, some .int, [], 4, 2),
  (yX4_numberOf, cX4_numberOf, 3, some .int, [], 4, 2),
  (yX4_admit, cX4_admit, 2, some .boolean, [], 4, 2),
  (yX4_settle, cX4_settle, 7, some .boolean, [], 4, 3),
  (yX4_bind, cX4_bind, 6, none, [], 4, 4),
  (yX4_canBe, cX4_canBe, 5, some .boolean, [], 4, 3),
  (yX4_addInstance, cX4_addInstance, 5, none, [], 4, 3),
  (yX4_isKnown, cX4_isKnown, 3, some .boolean, [], 4, 2),
  (yX5_init, cX5_init, 1, none, [], 5, 1),
  (yX5_clear, cX5_clear, 1, none, [], 5, 1),
  (yX6_init, cX6_init, 1, none, [], 6, 1),
  (yX6_isFull, cX6_isFull, 1, some .boolean, [], 6, 1),
  (yX6_add, cX6_add, 3, none, [], 6, 3)]
def MTB_5 : List MRow := [(yX6_prefers, cX6_prefers, 3, some .boolean, [], 6, 3),
  (yX6_speaksFor, cX6_speaksFor, 4, some .boolean, [], 6, 3),
  (yX7_init, cX7_init, 1, none, [], 7, 1),
  (yX7_sets, cX7_sets, 1, some .int, [], 7, 1),
  (yX7_all, cX7_all, 1, some .long, [], 7, 1),
  (yX7_resolve, cX7_resolve, 7, none, [], 7, 3),
  (yX7_readConstants, cX7_readConstants, 4, none, [], 7, 2),
  (yX7_resolveInstance, cX7_resolveInstance, 3, none, [], 7, 3),
  (yX7_sort, cX7_sort, 4, none, [], 7, 3),
  (yX7_atomsOf, cX7_atomsOf, 6, some .int, [], 7, 3),
  (yX7_weigh, cX7_weigh, 7, none, [], 7, 3),
  (yX7_addWeight, cX7_addWeight, 5, none, [], 7, 3),
  (yX7_weightOf, cX7_weightOf, 4, some .long, [], 7, 3),
  (yX7_fillParts, cX7_fillParts, 6, none, [], 7, 1),
  (yX7_fillHolding, cX7_fillHolding, 4, none, [], 7, 1),
  (yX7_brokenSums, cX7_brokenSums, 7, some .long, [], 7, 3),
  (yX7_sumHolds, cX7_sumHolds, 7, some .boolean, [], 7, 3),
  (yX7_ruleAt, cX7_ruleAt, 2, some (.object "StableFoundry$Rule"), [], 7, 2),
  (yX7_headOf, cX7_headOf, 2, some .int, [], 7, 2),
  (yX7_needsOf, cX7_needsOf, 2, some .int, [], 7, 2),
  (yX7_heldIn, cX7_heldIn, 2, some .long, [], 7, 2),
  (yX7_headedIn, cX7_headedIn, 2, some .long, [], 7, 2),
  (yX7_unsatisfiedIn, cX7_unsatisfiedIn, 9, some .long, [], 7, 2),
  (yX7_isWellChosen, cX7_isWellChosen, 5, some .boolean, [], 7, 3),
  (yX7_unsatisfiedIn_, cX7_unsatisfiedIn_, 5, some .long, [], 7, 3),
  (yX7_costOf, cX7_costOf, 9, some .long, [], 7, 3),
  (yL_low, cL_low, 2, some .int, [], 13, 2),
  (yX7_founds, cX7_founds, 5, some .boolean, [], 7, 4),
  (yX7_reachedFrom, cX7_reachedFrom, 4, some .int, [], 7, 2),
  (yX7_needsOfHeads, cX7_needsOfHeads, 4, some .int, [], 7, 2),
  (yX8_init, cX8_init, 1, none, [], 8, 1),
  (yX8_clear, cX8_clear, 1, none, [], 8, 1),
  (yX8_limit, cX8_limit, 4, none, [], 8, 4),
  (yX8_lookThrough, cX8_lookThrough, 1, none, [], 8, 1),
  (yX8_variablesOf, cX8_variablesOf, 2, some .int, [], 8, 2),
  (yX8_isSafe, cX8_isSafe, 1, some .boolean, [], 8, 1),
  (yX8_lowest, cX8_lowest, 2, some .int, [], 8, 2),
  (yX8_highest, cX8_highest, 3, some .int, [], 8, 2),
  (yX8_isLimited, cX8_isLimited, 2, some .boolean, [], 8, 2),
  (yX9_init, cX9_init, 4, none, [], 9, 4)]
def MTB_6 : List MRow := [(yX9_isAnswer, cX9_isAnswer, 2, some .boolean, [], 9, 2),
  (yX9_isLeast, cX9_isLeast, 5, some .boolean, [], 9, 2),
  (yX9_sparedFor, cX9_sparedFor, 9, some .long, [], 9, 2),
  (yX9_hinderedWithout, cX9_hinderedWithout, 2, some .long, [], 9, 1),
  (yX9_reconciledWithout, cX9_reconciledWithout, 10, some .long, [], 9, 3),
  (yX9_isUnfounded, cX9_isUnfounded, 4, some .boolean, [], 9, 3),
  (yX10_init, cX10_init, 1, none, [], 10, 1),
  (yX10_clear, cX10_clear, 1, none, [], 10, 1),
  (yX10_addElement, cX10_addElement, 5, none, [], 10, 5),
  (yX10_weightAt, cX10_weightAt, 2, some .int, [], 10, 2),
  (yL_cell, cL_cell, 2, some .int, [], 13, 2),
  (yL_low, cL_low, 2, some .int, [], 13, 2),
  (yL_head, cL_head, 5, some .int, [(0, 7, 8, 14), (0, 7, 13, 17), (0, 7, 18, 19)], 13, 4),
  (yL_choice, cL_choice, 4, some .int, [(0, 7, 8, 17), (0, 7, 12, 19)], 13, 3),
  (yL_weak, cL_weak, 4, some .int, [(0, 7, 8, 14), (0, 7, 12, 19)], 13, 3),
  (yL_difference, cL_difference, 5, some .int, [(0, 8, 9, 14), (0, 8, 14, 17), (0, 8, 19, 19)], 13, 4),
  (yL_body, cL_body, 6, some .int, [(0, 9, 10, 14), (0, 9, 15, 17), (0, 9, 20, 19)], 13, 5),
  (yL_compare, cL_compare, 5, some .int, [(0, 7, 8, 17), (0, 7, 13, 19)], 13, 4),
  (yL_interval, cL_interval, 5, some .int, [(0, 8, 9, 17)], 13, 4),
  (yL_sum, cL_sum, 4, some .int, [(0, 7, 8, 17), (0, 7, 12, 19)], 13, 3),
  (yL_element, cL_element, 6, some .int, [(0, 9, 10, 14), (0, 9, 15, 17), (0, 9, 20, 19)], 13, 5),
  (yL_enter, cL_enter, 2, some .int, [(0, 4, 5, 17), (0, 4, 9, 19)], 13, 1),
  (yL_external, cL_external, 5, some .int, [(0, 7, 8, 14), (0, 7, 13, 17), (0, 7, 18, 19)], 13, 4),
  (yL_assign, cL_assign, 4, some .int, [(0, 6, 7, 14), (0, 6, 11, 17), (0, 6, 15, 19)], 13, 3),
  (yL_prefer, cL_prefer, 4, some .int, [(0, 6, 7, 14), (0, 6, 11, 17), (0, 6, 15, 19)], 13, 3),
  (yL_term, cL_term, 2, some .int, [], 13, 1),
  (yL_act, cL_act, 5, some .int, [], 13, 2),
  (yL_areAlike, cL_areAlike, 5, some .boolean, [], 13, 2),
  (yL_areAnswersSo, cL_areAnswersSo, 11, some .boolean, [], 13, 2),
  (yL_low, cL_low, 2, some .int, [], 13, 2),
  (yL_low, cL_low, 2, some .int, [], 13, 2),
  (yL_low, cL_low, 2, some .int, [], 13, 2),
  (yL_low, cL_low, 2, some .int, [], 13, 2),
  (yL_low, cL_low, 2, some .int, [], 13, 2),
  (yL_low, cL_low, 2, some .int, [], 13, 2),
  (yL_low, cL_low, 2, some .int, [], 13, 2),
  (yL_low, cL_low, 2, some .int, [], 13, 2),
  (x, code, 6, some .boolean, [], 13, 1),
  (yJ6_bitCount_0f7a4, cJ6_bitCount_0f7a4, 1, some .int, [], 14, 1),
  (yJ13_bitCount_95d88, cJ13_bitCount_95d88, 2, some .int, [], 15, 1)]
def MTB_7 : List MRow := [(yJ13_compare_74951, cJ13_compare_74951, 4, some .int, [], 15, 2),
  (yJ9_max_7cf53, cJ9_max_7cf53, 2, some .int, [], 16, 2),
  (yJ9_min_7cf53, cJ9_min_7cf53, 2, some .int, [], 16, 2)]
def MTB : List MRow := MTB_0 ++ (MTB_1 ++ (MTB_2 ++ (MTB_3 ++ (MTB_4 ++ (MTB_5 ++ (MTB_6 ++ (MTB_7)))))))
def mrow (mi : Nat) : MRow := MTB.getD mi (⟨"", "", ""⟩, .empty, 0, none, [], 99, 0)
def nAl : List Nat := [1, 2, 4, 3, 3, 4, 5, 4, 4, 3, 5, 1, 1, 4, 3, 3, 2, 1, 1, 2, 1, 1, 2, 3, 3, 3, 2, 2, 1, 1, 3, 2, 2, 2, 2, 5, 3, 2, 4, 1, 1, 1, 2, 2, 2, 1, 2, 1, 1, 3, 2, 2, 2, 1, 3, 2, 2, 1, 1, 2, 2, 2, 2, 2, 2, 2, 2, 2, 2, 2, 2, 2, 2, 2, 2, 2, 2, 2, 2, 2, 2, 2, 2, 2, 2, 2, 2, 2, 2, 2, 2, 2, 2, 2, 2, 2, 2, 2, 2, 2, 2, 2, 2, 2, 2, 2, 2, 2, 2, 2, 2, 2, 2, 2, 2, 2, 2, 2, 2, 2, 2, 2, 2, 2, 2, 2, 2, 2, 2, 2, 2, 2, 2, 2, 2, 2, 2, 2, 2, 2, 2, 2, 2, 2, 2, 2, 2, 2, 2, 2, 1, 2, 3, 2, 2, 1, 4, 1, 2, 3, 3, 1, 1, 1, 1, 1, 3, 1, 2, 2, 2, 1, 2, 2, 2, 3, 2, 1, 1, 2, 2, 2, 2, 1, 1, 3, 2, 2, 2, 2, 3, 4, 3, 3, 2, 1, 1, 1, 1, 3, 3, 3, 1, 1, 1, 3, 2, 3, 3, 3, 3, 3, 3, 1, 1, 3, 3, 2, 2, 2, 2, 2, 2, 3, 3, 3, 2, 4, 2, 2, 1, 1, 4, 1, 2, 1, 2, 2, 2, 4, 2, 2, 2, 1, 3, 3, 1, 1, 5, 2, 2, 2, 4, 3, 3, 4, 5, 4, 4, 3, 5, 1, 4, 3, 3, 1, 2, 2, 2, 2, 2, 2, 2, 2, 2, 2, 2, 1, 1, 1, 2, 2, 2]
def mCl : List Nat := [11, 11, 11, 11, 11, 11, 11, 11, 11, 11, 11, 11, 11, 11, 11, 11, 13, 11, 11, 13, 11, 11, 11, 11, 11, 11, 11, 11, 11, 11, 11, 13, 11, 11, 11, 11, 11, 11, 11, 11, 11, 11, 11, 11, 11, 11, 11, 11, 11, 11, 11, 11, 11, 11, 11, 11, 11, 11, 11, 13, 13, 13, 13, 13, 13, 13, 13, 13, 13, 13, 13, 13, 13, 13, 13, 13, 13, 13, 13, 13, 13, 13, 13, 13, 13, 13, 13, 13, 13, 13, 13, 13, 13, 13, 13, 13, 13, 13, 13, 13, 13, 13, 13, 13, 13, 13, 13, 13, 13, 13, 13, 13, 13, 13, 13, 13, 13, 13, 13, 13, 13, 13, 13, 13, 13, 13, 13, 13, 13, 13, 13, 13, 13, 13, 13, 13, 13, 13, 13, 13, 13, 13, 13, 13, 13, 13, 13, 13, 13, 13, 0, 0, 0, 0, 1, 1, 1, 1, 1, 1, 1, 1, 1, 1, 1, 1, 1, 1, 1, 1, 1, 2, 2, 2, 2, 2, 2, 3, 3, 3, 3, 3, 3, 4, 4, 4, 4, 4, 4, 4, 4, 4, 4, 4, 4, 5, 5, 6, 6, 6, 6, 6, 7, 7, 7, 7, 7, 7, 7, 7, 7, 7, 7, 7, 7, 7, 7, 7, 7, 7, 7, 7, 7, 7, 7, 7, 13, 7, 7, 7, 8, 8, 8, 8, 8, 8, 8, 8, 8, 9, 9, 9, 9, 9, 9, 9, 10, 10, 10, 10, 13, 13, 13, 13, 13, 13, 13, 13, 13, 13, 13, 13, 13, 13, 13, 13, 13, 13, 13, 13, 13, 13, 13, 13, 13, 13, 13, 13, 14, 15, 15, 16, 16]
def mLl : List Nat := [1, 2, 4, 3, 3, 4, 5, 4, 4, 3, 5, 1, 1, 6, 4, 3, 2, 1, 2, 2, 1, 1, 2, 5, 4, 4, 4, 2, 3, 3, 4, 2, 5, 5, 4, 5, 3, 2, 4, 1, 1, 1, 2, 2, 2, 3, 4, 1, 2, 3, 3, 5, 3, 2, 5, 2, 3, 2, 2, 2, 2, 2, 2, 2, 2, 2, 2, 2, 2, 2, 2, 2, 2, 2, 2, 2, 2, 2, 2, 2, 2, 2, 2, 2, 2, 2, 2, 2, 2, 2, 2, 2, 2, 2, 2, 2, 2, 2, 2, 2, 2, 2, 2, 2, 2, 2, 2, 2, 2, 2, 2, 2, 2, 2, 2, 2, 2, 2, 2, 2, 2, 2, 2, 2, 2, 2, 2, 2, 2, 2, 2, 2, 2, 2, 2, 2, 2, 2, 2, 2, 2, 2, 2, 2, 2, 2, 2, 2, 2, 2, 1, 2, 10, 3, 2, 1, 4, 1, 2, 3, 3, 1, 1, 1, 1, 1, 4, 1, 4, 5, 3, 1, 2, 2, 2, 4, 2, 1, 2, 2, 2, 4, 5, 1, 1, 3, 2, 2, 3, 2, 7, 6, 5, 5, 3, 1, 1, 1, 1, 3, 3, 4, 1, 1, 1, 7, 4, 3, 4, 6, 7, 5, 4, 6, 4, 7, 7, 2, 2, 2, 2, 2, 9, 5, 5, 9, 2, 5, 4, 4, 1, 1, 4, 1, 2, 1, 2, 3, 2, 4, 2, 5, 9, 2, 10, 4, 1, 1, 5, 2, 2, 2, 5, 4, 4, 5, 6, 5, 5, 4, 6, 2, 5, 4, 4, 2, 5, 5, 11, 2, 2, 2, 2, 2, 2, 2, 2, 6, 1, 2, 4, 2, 2]
def nA (mi : Nat) : Nat := nAl.getD mi 0
def mC (mi : Nat) : Nat := mCl.getD mi 99
def mL (mi : Nat) : Nat := mLl.getD mi 0
