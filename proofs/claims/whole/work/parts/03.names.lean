def RX0 : String := "StableFoundry$Differences"
def TX0 : u_T := fun k => match k with
  | _ => ("StableFoundry$Differences", "greatest", "[I", true)
def tyX0 : Nat → FieldType := fun k => match k with
  | _ => .array .int
abbrev wsX00 : List Cond := u_ws RX0 TX0 1
theorem nmX0 : ∀ a, a < 1 → ∀ b, b < 1 → a ≠ b → (TX0 a).2.1 ≠ (TX0 b).2.1 := by decide +kernel
theorem tyX0_ok : ∀ k, k < 1 → parseFieldDescriptor (TX0 k).2.2.1 = some (tyX0 k) := by decide +kernel
abbrev cX0_init : ByteArray := prog_2_method_1_code
def yX0_init : MethodName := ⟨RX0, "<init>", "()V"⟩
abbrev cX0_greatestOf : ByteArray := prog_2_method_2_code
def yX0_greatestOf : MethodName := ⟨RX0, "greatestOf", "(I)I"⟩
abbrev cX0_canHold : ByteArray := prog_2_method_3_code
def yX0_canHold : MethodName := ⟨RX0, "canHold", "(LStableFoundry$Program;J)Z"⟩
abbrev cX0_lower : ByteArray := prog_2_method_4_code
def yX0_lower : MethodName := ⟨RX0, "lower", "(LStableFoundry$Head;)Z"⟩
def RX1 : String := "StableFoundry$Entries"
def TX1 : u_T := fun k => match k with
  | 0 => ("StableFoundry$Entries", "codes", "[I", true)
  | 1 => ("StableFoundry$Entries", "limit", "I", true)
  | _ => ("StableFoundry$Entries", "count", "I", false)
def tyX1 : Nat → FieldType := fun k => match k with
  | 0 => .array .int
  | 1 => .int
  | _ => .int
abbrev wsX10 : List Cond := u_ws RX1 TX1 3
theorem nmX1 : ∀ a, a < 3 → ∀ b, b < 3 → a ≠ b → (TX1 a).2.1 ≠ (TX1 b).2.1 := by decide +kernel
theorem tyX1_ok : ∀ k, k < 3 → parseFieldDescriptor (TX1 k).2.2.1 = some (tyX1 k) := by decide +kernel
abbrev cX1_init : ByteArray := prog_3_method_1_code
def yX1_init : MethodName := ⟨RX1, "<init>", "(I)V"⟩
abbrev cX1_isFull : ByteArray := prog_3_method_2_code
def yX1_isFull : MethodName := ⟨RX1, "isFull", "()Z"⟩
abbrev cX1_add : ByteArray := prog_3_method_3_code
def yX1_add : MethodName := ⟨RX1, "add", "(III)V"⟩
abbrev cX1_clear : ByteArray := prog_3_method_4_code
def yX1_clear : MethodName := ⟨RX1, "clear", "()V"⟩
abbrev cX1_codeAt : ByteArray := prog_3_method_5_code
def yX1_codeAt : MethodName := ⟨RX1, "codeAt", "(I)I"⟩
abbrev cX1_groundCode : ByteArray := prog_3_method_6_code
def yX1_groundCode : MethodName := ⟨RX1, "groundCode", "(III)I"⟩
abbrev cX1_groundCodeOf : ByteArray := prog_3_method_7_code
def yX1_groundCodeOf : MethodName := ⟨RX1, "groundCodeOf", "(I[II)I"⟩
abbrev cX1_numberIn : ByteArray := prog_3_method_8_code
def yX1_numberIn : MethodName := ⟨RX1, "numberIn", "(I)I"⟩
abbrev cX1_firstIn : ByteArray := prog_3_method_9_code
def yX1_firstIn : MethodName := ⟨RX1, "firstIn", "(I)I"⟩
abbrev cX1_secondIn : ByteArray := prog_3_method_10_code
def yX1_secondIn : MethodName := ⟨RX1, "secondIn", "(I)I"⟩
abbrev cX1_hasZ : ByteArray := prog_3_method_11_code
def yX1_hasZ : MethodName := ⟨RX1, "hasZ", "(I)Z"⟩
abbrev cX1_variableIn : ByteArray := prog_3_method_12_code
def yX1_variableIn : MethodName := ⟨RX1, "variableIn", "(I)I"⟩
abbrev cX1_constantOf : ByteArray := prog_3_method_13_code
def yX1_constantOf : MethodName := ⟨RX1, "constantOf", "(I[II)I"⟩
abbrev cX1_lastVariableOf : ByteArray := prog_3_method_14_code
def yX1_lastVariableOf : MethodName := ⟨RX1, "lastVariableOf", "(I)I"⟩
abbrev cX1_isTrue : ByteArray := prog_3_method_15_code
def yX1_isTrue : MethodName := ⟨RX1, "isTrue", "(I[I)Z"⟩
abbrev cX1_variables : ByteArray := prog_3_method_16_code
def yX1_variables : MethodName := ⟨RX1, "variables", "(Z)I"⟩
abbrev cX1_variableBit : ByteArray := prog_3_method_17_code
def yX1_variableBit : MethodName := ⟨RX1, "variableBit", "(IZ)I"⟩
def RX2 : String := "StableFoundry$Externals"
def TX2 : u_T := fun k => match k with
  | 0 => ("StableFoundry$Externals", "all", "I", false)
  | 1 => ("StableFoundry$Externals", "areTrue", "I", false)
  | _ => ("StableFoundry$Externals", "areFree", "I", false)
def tyX2 : Nat → FieldType := fun k => match k with
  | 0 => .int
  | 1 => .int
  | _ => .int
abbrev wsX20 : List Cond := u_ws RX2 TX2 3
theorem nmX2 : ∀ a, a < 3 → ∀ b, b < 3 → a ≠ b → (TX2 a).2.1 ≠ (TX2 b).2.1 := by decide +kernel
theorem tyX2_ok : ∀ k, k < 3 → parseFieldDescriptor (TX2 k).2.2.1 = some (tyX2 k) := by decide +kernel
abbrev cX2_init : ByteArray := prog_4_method_1_code
def yX2_init : MethodName := ⟨RX2, "<init>", "()V"⟩
abbrev cX2_has : ByteArray := prog_4_method_2_code
def yX2_has : MethodName := ⟨RX2, "has", "(I)Z"⟩
abbrev cX2_add : ByteArray := prog_4_method_3_code
def yX2_add : MethodName := ⟨RX2, "add", "(I)V"⟩
abbrev cX2_stateOf : ByteArray := prog_4_method_4_code
def yX2_stateOf : MethodName := ⟨RX2, "stateOf", "(I)I"⟩
abbrev cX2_let : ByteArray := prog_4_method_5_code
def yX2_let : MethodName := ⟨RX2, "let", "(II)V"⟩
abbrev cX2_neededBy : ByteArray := prog_4_method_6_code
def yX2_neededBy : MethodName := ⟨RX2, "neededBy", "(I)I"⟩
def RX3 : String := "StableFoundry$Found"
def TX3 : u_T := fun k => match k with
  | 0 => ("StableFoundry$Found", "rows", "[J", true)
  | 1 => ("StableFoundry$Found", "seen", "[J", true)
  | _ => ("StableFoundry$Found", "count", "I", false)
def tyX3 : Nat → FieldType := fun k => match k with
  | 0 => .array .long
  | 1 => .array .long
  | _ => .int
abbrev wsX30 : List Cond := u_ws RX3 TX3 3
theorem nmX3 : ∀ a, a < 3 → ∀ b, b < 3 → a ≠ b → (TX3 a).2.1 ≠ (TX3 b).2.1 := by decide +kernel
theorem tyX3_ok : ∀ k, k < 3 → parseFieldDescriptor (TX3 k).2.2.1 = some (tyX3 k) := by decide +kernel
abbrev cX3_init : ByteArray := prog_5_method_1_code
def yX3_init : MethodName := ⟨RX3, "<init>", "()V"⟩
abbrev cX3_clear : ByteArray := prog_5_method_2_code
def yX3_clear : MethodName := ⟨RX3, "clear", "()V"⟩
abbrev cX3_has : ByteArray := prog_5_method_3_code
def yX3_has : MethodName := ⟨RX3, "has", "(I)Z"⟩
abbrev cX3_add : ByteArray := prog_5_method_4_code
def yX3_add : MethodName := ⟨RX3, "add", "(I)V"⟩
abbrev cX3_setAt : ByteArray := prog_5_method_5_code
def yX3_setAt : MethodName := ⟨RX3, "setAt", "(I)I"⟩
abbrev cX3_countSeenThrough : ByteArray := prog_5_method_6_code
def yX3_countSeenThrough : MethodName := ⟨RX3, "countSeenThrough", "(I)I"⟩
def RX4 : String := "StableFoundry$Grounding"
def TX4 : u_T := fun k => match k with
  | 0 => ("StableFoundry$Grounding", "atoms", "[I", true)
  | 1 => ("StableFoundry$Grounding", "atomCount", "I", false)
  | 2 => ("StableFoundry$Grounding", "instances", "[I", true)
  | 3 => ("StableFoundry$Grounding", "instanceCount", "I", false)
  | 4 => ("StableFoundry$Grounding", "constants", "[I", true)
  | _ => ("StableFoundry$Grounding", "isOverfull", "Z", false)
def tyX4 : Nat → FieldType := fun k => match k with
  | 0 => .array .int
  | 1 => .int
  | 2 => .array .int
  | 3 => .int
  | 4 => .array .int
  | _ => .boolean
abbrev wsX40 : List Cond := u_ws RX4 TX4 6
theorem nmX4 : ∀ a, a < 6 → ∀ b, b < 6 → a ≠ b → (TX4 a).2.1 ≠ (TX4 b).2.1 := by decide +kernel
theorem tyX4_ok : ∀ k, k < 6 → parseFieldDescriptor (TX4 k).2.2.1 = some (tyX4 k) := by decide +kernel
abbrev cX4_init : ByteArray := prog_6_method_1_code
def yX4_init : MethodName := ⟨RX4, "<init>", "()V"⟩
abbrev cX4_size : ByteArray := prog_6_method_2_code
def yX4_size : MethodName := ⟨RX4, "size", "()I"⟩
abbrev cX4_cutTo : ByteArray := prog_6_method_3_code
def yX4_cutTo : MethodName := ⟨RX4, "cutTo", "(II)V"⟩
abbrev cX4_atomAt : ByteArray := prog_6_method_4_code
def yX4_atomAt : MethodName := ⟨RX4, "atomAt", "(I)I"⟩
abbrev cX4_instanceAt : ByteArray := prog_6_method_5_code
def yX4_instanceAt : MethodName := ⟨RX4, "instanceAt", "(I)I"⟩
abbrev cX4_numberOf : ByteArray := prog_6_method_6_code
def yX4_numberOf : MethodName := ⟨RX4, "numberOf", "(I)I"⟩
abbrev cX4_admit : ByteArray := prog_6_method_7_code
def yX4_admit : MethodName := ⟨RX4, "\x61dmit", "(I)Z"⟩
abbrev cX4_settle : ByteArray := prog_6_method_8_code
def yX4_settle : MethodName := ⟨RX4, "settle", "([LStableFoundry$Rule;I)Z"⟩
abbrev cX4_bind : ByteArray := prog_6_method_9_code
def yX4_bind : MethodName := ⟨RX4, "bind", "(LStableFoundry$Rule;II)V"⟩
abbrev cX4_canBe : ByteArray := prog_6_method_10_code
def yX4_canBe : MethodName := ⟨RX4, "canBe", "(LStableFoundry$Rule;I)Z"⟩
abbrev cX4_addInstance : ByteArray := prog_6_method_11_code
def yX4_addInstance : MethodName := ⟨RX4, "addInstance", "(LStableFoundry$Rule;I)V"⟩
abbrev cX4_isKnown : ByteArray := prog_6_method_12_code
def yX4_isKnown : MethodName := ⟨RX4, "isKnown", "(I)Z"⟩
def RX5 : String := "StableFoundry$Head"
def TX5 : u_T := fun k => match k with
  | 0 => ("StableFoundry$Head", "kind", "I", false)
  | 1 => ("StableFoundry$Head", "atoms", "LStableFoundry$Entries;", true)
  | 2 => ("StableFoundry$Head", "least", "I", false)
  | 3 => ("StableFoundry$Head", "greatest", "I", false)
  | 4 => ("StableFoundry$Head", "weight", "I", false)
  | 5 => ("StableFoundry$Head", "level", "I", false)
  | 6 => ("StableFoundry$Head", "x", "I", false)
  | 7 => ("StableFoundry$Head", "y", "I", false)
  | _ => ("StableFoundry$Head", "bound", "I", false)
def tyX5 : Nat → FieldType := fun k => match k with
  | 0 => .int
  | 1 => .object "StableFoundry$Entries"
  | 2 => .int
  | 3 => .int
  | 4 => .int
  | 5 => .int
  | 6 => .int
  | 7 => .int
  | _ => .int
abbrev wsX50 : List Cond := u_ws RX5 TX5 9
theorem nmX5 : ∀ a, a < 9 → ∀ b, b < 9 → a ≠ b → (TX5 a).2.1 ≠ (TX5 b).2.1 := by decide +kernel
theorem tyX5_ok : ∀ k, k < 9 → parseFieldDescriptor (TX5 k).2.2.1 = some (tyX5 k) := by decide +kernel
abbrev cX5_init : ByteArray := prog_7_method_1_code
def yX5_init : MethodName := ⟨RX5, "<init>", "()V"⟩
abbrev cX5_clear : ByteArray := prog_7_method_2_code
def yX5_clear : MethodName := ⟨RX5, "clear", "()V"⟩
def RX6 : String := "StableFoundry$Preferences"
def TX6 : u_T := fun k => match k with
  | 0 => ("StableFoundry$Preferences", "firsts", "[I", true)
  | 1 => ("StableFoundry$Preferences", "seconds", "[I", true)
  | _ => ("StableFoundry$Preferences", "count", "I", false)
def tyX6 : Nat → FieldType := fun k => match k with
  | 0 => .array .int
  | 1 => .array .int
  | _ => .int
abbrev wsX60 : List Cond := u_ws RX6 TX6 3
theorem nmX6 : ∀ a, a < 3 → ∀ b, b < 3 → a ≠ b → (TX6 a).2.1 ≠ (TX6 b).2.1 := by decide +kernel
theorem tyX6_ok : ∀ k, k < 3 → parseFieldDescriptor (TX6 k).2.2.1 = some (tyX6 k) := by decide +kernel
abbrev cX6_init : ByteArray := prog_8_method_1_code
def yX6_init : MethodName := ⟨RX6, "<init>", "()V"⟩
abbrev cX6_isFull : ByteArray := prog_8_method_2_code
def yX6_isFull : MethodName := ⟨RX6, "isFull", "()Z"⟩
abbrev cX6_add : ByteArray := prog_8_method_3_code
def yX6_add : MethodName := ⟨RX6, "add", "(II)V"⟩
abbrev cX6_prefers : ByteArray := prog_8_method_4_code
def yX6_prefers : MethodName := ⟨RX6, "prefers", "(II)Z"⟩
abbrev cX6_speaksFor : ByteArray := prog_8_method_5_code
def yX6_speaksFor : MethodName := ⟨RX6, "speaksFor", "(II)Z"⟩
def RX7 : String := "StableFoundry$Program"
def TX7 : u_T := fun k => match k with
  | 0 => ("StableFoundry$Program", "ruleOf", "[LStableFoundry$Rule;", true)
  | 1 => ("StableFoundry$Program", "heads", "[I", true)
  | 2 => ("StableFoundry$Program", "needs", "[I", true)
  | 3 => ("StableFoundry$Program", "bans", "[I", true)
  | 4 => ("StableFoundry$Program", "weights", "[J", true)
  | 5 => ("StableFoundry$Program", "holding", "[J", true)
  | 6 => ("StableFoundry$Program", "lowHeads", "[J", true)
  | 7 => ("StableFoundry$Program", "highHeads", "[J", true)
  | 8 => ("StableFoundry$Program", "lowBars", "[J", true)
  | 9 => ("StableFoundry$Program", "highBars", "[J", true)
  | 10 => ("StableFoundry$Program", "constants", "[I", true)
  | 11 => ("StableFoundry$Program", "atoms", "I", false)
  | 12 => ("StableFoundry$Program", "count", "I", false)
  | 13 => ("StableFoundry$Program", "plain", "J", false)
  | 14 => ("StableFoundry$Program", "choices", "J", false)
  | 15 => ("StableFoundry$Program", "sums", "J", false)
  | 16 => ("StableFoundry$Program", "weaks", "J", false)
  | _ => ("StableFoundry$Program", "differences", "J", false)
def tyX7 : Nat → FieldType := fun k => match k with
  | 0 => .array (.object "StableFoundry$Rule")
  | 1 => .array .int
  | 2 => .array .int
  | 3 => .array .int
  | 4 => .array .long
  | 5 => .array .long
  | 6 => .array .long
  | 7 => .array .long
  | 8 => .array .long
  | 9 => .array .long
  | 10 => .array .int
  | 11 => .int
  | 12 => .int
  | 13 => .long
  | 14 => .long
  | 15 => .long
  | 16 => .long
  | _ => .long
abbrev wsX70 : List Cond := u_ws RX7 TX7 18
theorem nmX7 : ∀ a, a < 18 → ∀ b, b < 18 → a ≠ b → (TX7 a).2.1 ≠ (TX7 b).2.1 := by decide +kernel
theorem tyX7_ok : ∀ k, k < 18 → parseFieldDescriptor (TX7 k).2.2.1 = some (tyX7 k) := by decide +kernel
abbrev cX7_init : ByteArray := prog_9_method_1_code
def yX7_init : MethodName := ⟨RX7, "<init>", "()V"⟩
abbrev cX7_sets : ByteArray := prog_9_method_2_code
def yX7_sets : MethodName := ⟨RX7, "sets", "()I"⟩
abbrev cX7_all : ByteArray := prog_9_method_3_code
def yX7_all : MethodName := ⟨RX7, "all", "()J"⟩
abbrev cX7_resolve : ByteArray := prog_9_method_4_code
def yX7_resolve : MethodName := ⟨RX7, "resolve", "(LStableFoundry$Grounding;[LStableFoundry$Rule;)V"⟩
abbrev cX7_readConstants : ByteArray := prog_9_method_5_code
def yX7_readConstants : MethodName := ⟨RX7, "readConstants", "(I)V"⟩
abbrev cX7_resolveInstance : ByteArray := prog_9_method_6_code
def yX7_resolveInstance : MethodName := ⟨RX7, "resolveInstance", "(LStableFoundry$Rule;LStableFoundry$Grounding;)V"⟩
abbrev cX7_sort : ByteArray := prog_9_method_7_code
def yX7_sort : MethodName := ⟨RX7, "sort", "(LStableFoundry$Rule;J)V"⟩
abbrev cX7_atomsOf : ByteArray := prog_9_method_8_code
def yX7_atomsOf : MethodName := ⟨RX7, "atomsOf", "(LStableFoundry$Entries;LStableFoundry$Grounding;)I"⟩
abbrev cX7_weigh : ByteArray := prog_9_method_9_code
def yX7_weigh : MethodName := ⟨RX7, "weigh", "(LStableFoundry$Sum;LStableFoundry$Grounding;)V"⟩
abbrev cX7_addWeight : ByteArray := prog_9_method_10_code
def yX7_addWeight : MethodName := ⟨RX7, "addWeight", "(IJ)V"⟩
abbrev cX7_weightOf : ByteArray := prog_9_method_11_code
def yX7_weightOf : MethodName := ⟨RX7, "weightOf", "(II)J"⟩
abbrev cX7_fillParts : ByteArray := prog_9_method_12_code
def yX7_fillParts : MethodName := ⟨RX7, "fillParts", "()V"⟩
abbrev cX7_fillHolding : ByteArray := prog_9_method_13_code
def yX7_fillHolding : MethodName := ⟨RX7, "fillHolding", "()V"⟩
abbrev cX7_brokenSums : ByteArray := prog_9_method_14_code
def yX7_brokenSums : MethodName := ⟨RX7, "brokenSums", "(JI)J"⟩
abbrev cX7_sumHolds : ByteArray := prog_9_method_15_code
def yX7_sumHolds : MethodName := ⟨RX7, "sumHolds", "(II)Z"⟩
abbrev cX7_ruleAt : ByteArray := prog_9_method_16_code
def yX7_ruleAt : MethodName := ⟨RX7, "ruleAt", "(I)LStableFoundry$Rule;"⟩
abbrev cX7_headOf : ByteArray := prog_9_method_17_code
def yX7_headOf : MethodName := ⟨RX7, "headOf", "(I)I"⟩
abbrev cX7_needsOf : ByteArray := prog_9_method_18_code
def yX7_needsOf : MethodName := ⟨RX7, "needsOf", "(I)I"⟩
abbrev cX7_heldIn : ByteArray := prog_9_method_19_code
def yX7_heldIn : MethodName := ⟨RX7, "heldIn", "(I)J"⟩
abbrev cX7_headedIn : ByteArray := prog_9_method_20_code
def yX7_headedIn : MethodName := ⟨RX7, "headedIn", "(I)J"⟩
abbrev cX7_unsatisfiedIn : ByteArray := prog_9_method_21_code
def yX7_unsatisfiedIn : MethodName := ⟨RX7, "unsatisfiedIn", "(I)J"⟩
abbrev cX7_isWellChosen : ByteArray := prog_9_method_22_code
def yX7_isWellChosen : MethodName := ⟨RX7, "isWellChosen", "(II)Z"⟩
abbrev cX7_unsatisfiedIn_ : ByteArray := prog_9_method_23_code
def yX7_unsatisfiedIn_ : MethodName := ⟨RX7, "unsatisfiedIn", "(II)J"⟩
abbrev cX7_costOf : ByteArray := prog_9_method_24_code
def yX7_costOf : MethodName := ⟨RX7, "costOf", "(II)J"⟩
abbrev cX7_supports : ByteArray := prog_9_method_25_code
def yX7_supports : MethodName := ⟨RX7, "supports", "(III)Z"⟩
abbrev cX7_founds : ByteArray := prog_9_method_26_code
def yX7_founds : MethodName := ⟨RX7, "founds", "(III)Z"⟩
abbrev cX7_reachedFrom : ByteArray := prog_9_method_27_code
def yX7_reachedFrom : MethodName := ⟨RX7, "reachedFrom", "(I)I"⟩
abbrev cX7_needsOfHeads : ByteArray := prog_9_method_28_code
def yX7_needsOfHeads : MethodName := ⟨RX7, "needsOfHeads", "(I)I"⟩
def RX8 : String := "StableFoundry$Rule"
def TX8 : u_T := fun k => match k with
  | 0 => ("StableFoundry$Rule", "head", "LStableFoundry$Head;", true)
  | 1 => ("StableFoundry$Rule", "needs", "LStableFoundry$Entries;", true)
  | 2 => ("StableFoundry$Rule", "bans", "LStableFoundry$Entries;", true)
  | 3 => ("StableFoundry$Rule", "comparisons", "LStableFoundry$Entries;", true)
  | 4 => ("StableFoundry$Rule", "sum", "LStableFoundry$Sum;", true)
  | 5 => ("StableFoundry$Rule", "from", "[I", true)
  | 6 => ("StableFoundry$Rule", "to", "[I", true)
  | 7 => ("StableFoundry$Rule", "limited", "I", false)
  | 8 => ("StableFoundry$Rule", "variables", "I", false)
  | _ => ("StableFoundry$Rule", "raised", "I", false)
def tyX8 : Nat → FieldType := fun k => match k with
  | 0 => .object "StableFoundry$Head"
  | 1 => .object "StableFoundry$Entries"
  | 2 => .object "StableFoundry$Entries"
  | 3 => .object "StableFoundry$Entries"
  | 4 => .object "StableFoundry$Sum"
  | 5 => .array .int
  | 6 => .array .int
  | 7 => .int
  | 8 => .int
  | _ => .int
abbrev wsX80 : List Cond := u_ws RX8 TX8 10
theorem nmX8 : ∀ a, a < 10 → ∀ b, b < 10 → a ≠ b → (TX8 a).2.1 ≠ (TX8 b).2.1 := by decide +kernel
theorem tyX8_ok : ∀ k, k < 10 → parseFieldDescriptor (TX8 k).2.2.1 = some (tyX8 k) := by decide +kernel
abbrev cX8_init : ByteArray := prog_10_method_1_code
def yX8_init : MethodName := ⟨RX8, "<init>", "()V"⟩
abbrev cX8_clear : ByteArray := prog_10_method_2_code
def yX8_clear : MethodName := ⟨RX8, "clear", "()V"⟩
abbrev cX8_limit : ByteArray := prog_10_method_3_code
def yX8_limit : MethodName := ⟨RX8, "limit", "(III)V"⟩
abbrev cX8_lookThrough : ByteArray := prog_10_method_4_code
def yX8_lookThrough : MethodName := ⟨RX8, "lookThrough", "()V"⟩
abbrev cX8_variablesOf : ByteArray := prog_10_method_5_code
def yX8_variablesOf : MethodName := ⟨RX8, "variablesOf", "(Z)I"⟩
abbrev cX8_isSafe : ByteArray := prog_10_method_6_code
def yX8_isSafe : MethodName := ⟨RX8, "isSafe", "()Z"⟩
abbrev cX8_lowest : ByteArray := prog_10_method_7_code
def yX8_lowest : MethodName := ⟨RX8, "lowest", "(I)I"⟩
abbrev cX8_highest : ByteArray := prog_10_method_8_code
def yX8_highest : MethodName := ⟨RX8, "highest", "(I)I"⟩
abbrev cX8_isLimited : ByteArray := prog_10_method_9_code
def yX8_isLimited : MethodName := ⟨RX8, "isLimited", "(I)Z"⟩
def RX9 : String := "StableFoundry$Stability"
def TX9 : u_T := fun k => match k with
  | 0 => ("StableFoundry$Stability", "program", "LStableFoundry$Program;", true)
  | 1 => ("StableFoundry$Stability", "externals", "LStableFoundry$Externals;", true)
  | _ => ("StableFoundry$Stability", "differences", "LStableFoundry$Differences;", true)
def tyX9 : Nat → FieldType := fun k => match k with
  | 0 => .object "StableFoundry$Program"
  | 1 => .object "StableFoundry$Externals"
  | _ => .object "StableFoundry$Differences"
abbrev wsX90 : List Cond := u_ws RX9 TX9 3
theorem nmX9 : ∀ a, a < 3 → ∀ b, b < 3 → a ≠ b → (TX9 a).2.1 ≠ (TX9 b).2.1 := by decide +kernel
theorem tyX9_ok : ∀ k, k < 3 → parseFieldDescriptor (TX9 k).2.2.1 = some (tyX9 k) := by decide +kernel
abbrev cX9_init : ByteArray := prog_11_method_1_code
def yX9_init : MethodName := ⟨RX9, "<init>", "(LStableFoundry$Program;LStableFoundry$Externals;LStableFoundry$Differences;)V"⟩
abbrev cX9_isAnswer : ByteArray := prog_11_method_2_code
def yX9_isAnswer : MethodName := ⟨RX9, "isAnswer", "(I)Z"⟩
abbrev cX9_isLeast : ByteArray := prog_11_method_3_code
def yX9_isLeast : MethodName := ⟨RX9, "isLeast", "(I)Z"⟩
abbrev cX9_sparedFor : ByteArray := prog_11_method_4_code
def yX9_sparedFor : MethodName := ⟨RX9, "sparedFor", "(I)J"⟩
abbrev cX9_hinderedWithout : ByteArray := prog_11_method_5_code
def yX9_hinderedWithout : MethodName := ⟨RX9, "hinderedWithout", "(J)J"⟩
abbrev cX9_reconciledWithout : ByteArray := prog_11_method_6_code
def yX9_reconciledWithout : MethodName := ⟨RX9, "reconciledWithout", "(JJ)J"⟩
abbrev cX9_isUnfounded : ByteArray := prog_11_method_7_code
def yX9_isUnfounded : MethodName := ⟨RX9, "isUnfounded", "(II)Z"⟩
def RX10 : String := "StableFoundry$Sum"
def TX10 : u_T := fun k => match k with
  | 0 => ("StableFoundry$Sum", "isBegun", "Z", false)
  | 1 => ("StableFoundry$Sum", "least", "I", false)
  | 2 => ("StableFoundry$Sum", "greatest", "I", false)
  | 3 => ("StableFoundry$Sum", "elements", "LStableFoundry$Entries;", true)
  | _ => ("StableFoundry$Sum", "weights", "[I", true)
def tyX10 : Nat → FieldType := fun k => match k with
  | 0 => .boolean
  | 1 => .int
  | 2 => .int
  | 3 => .object "StableFoundry$Entries"
  | _ => .array .int
abbrev wsX100 : List Cond := u_ws RX10 TX10 5
theorem nmX10 : ∀ a, a < 5 → ∀ b, b < 5 → a ≠ b → (TX10 a).2.1 ≠ (TX10 b).2.1 := by decide +kernel
theorem tyX10_ok : ∀ k, k < 5 → parseFieldDescriptor (TX10 k).2.2.1 = some (tyX10 k) := by decide +kernel
abbrev cX10_init : ByteArray := prog_12_method_1_code
def yX10_init : MethodName := ⟨RX10, "<init>", "()V"⟩
abbrev cX10_clear : ByteArray := prog_12_method_2_code
def yX10_clear : MethodName := ⟨RX10, "clear", "()V"⟩
abbrev cX10_addElement : ByteArray := prog_12_method_3_code
def yX10_addElement : MethodName := ⟨RX10, "addElement", "(IIII)V"⟩
abbrev cX10_weightAt : ByteArray := prog_12_method_4_code
def yX10_weightAt : MethodName := ⟨RX10, "weightAt", "(I)I"⟩
def RX11 : String := "StableFoundry"
def TX11 : u_T := fun k => match k with
  | 0 => ("StableFoundry", "places", "[I", true)
  | 1 => ("StableFoundry", "predicates", "I", false)
  | 2 => ("StableFoundry", "rules", "[LStableFoundry$Rule;", true)
  | 3 => ("StableFoundry", "ruleCount", "I", false)
  | 4 => ("StableFoundry", "draft", "LStableFoundry$Rule;", false)
  | 5 => ("StableFoundry", "ground", "LStableFoundry$Grounding;", true)
  | 6 => ("StableFoundry", "again", "LStableFoundry$Grounding;", true)
  | 7 => ("StableFoundry", "externals", "LStableFoundry$Externals;", true)
  | 8 => ("StableFoundry", "preferences", "LStableFoundry$Preferences;", true)
  | 9 => ("StableFoundry", "program", "LStableFoundry$Program;", true)
  | 10 => ("StableFoundry", "differences", "LStableFoundry$Differences;", true)
  | 11 => ("StableFoundry", "stability", "LStableFoundry$Stability;", true)
  | 12 => ("StableFoundry", "found", "LStableFoundry$Found;", true)
  | 13 => ("StableFoundry", "isSearched", "Z", false)
  | 14 => ("StableFoundry", "isRanked", "Z", false)
  | _ => ("StableFoundry", "cheapest", "I", false)
def tyX11 : Nat → FieldType := fun k => match k with
  | 0 => .array .int
  | 1 => .int
  | 2 => .array (.object "StableFoundry$Rule")
  | 3 => .int
  | 4 => .object "StableFoundry$Rule"
  | 5 => .object "StableFoundry$Grounding"
  | 6 => .object "StableFoundry$Grounding"
  | 7 => .object "StableFoundry$Externals"
  | 8 => .object "StableFoundry$Preferences"
  | 9 => .object "StableFoundry$Program"
  | 10 => .object "StableFoundry$Differences"
  | 11 => .object "StableFoundry$Stability"
  | 12 => .object "StableFoundry$Found"
  | 13 => .boolean
  | 14 => .boolean
  | _ => .int
abbrev wsX110 : List Cond := u_ws RX11 TX11 16
theorem nmX11 : ∀ a, a < 16 → ∀ b, b < 16 → a ≠ b → (TX11 a).2.1 ≠ (TX11 b).2.1 := by decide +kernel
theorem tyX11_ok : ∀ k, k < 16 → parseFieldDescriptor (TX11 k).2.2.1 = some (tyX11 k) := by decide +kernel
abbrev cX11_init : ByteArray := prog_1_method_1_code
def yX11_init : MethodName := ⟨RX11, "<init>", "()V"⟩
abbrev cX11_predicate : ByteArray := prog_1_method_2_code
def yX11_predicate : MethodName := ⟨RX11, "predicate", "(I)I"⟩
abbrev cX11_head : ByteArray := prog_1_method_3_code
def yX11_head : MethodName := ⟨RX11, "head", "(III)I"⟩
abbrev cX11_choice : ByteArray := prog_1_method_4_code
def yX11_choice : MethodName := ⟨RX11, "choice", "(II)V"⟩
abbrev cX11_weak : ByteArray := prog_1_method_5_code
def yX11_weak : MethodName := ⟨RX11, "weak", "(II)V"⟩
abbrev cX11_difference : ByteArray := prog_1_method_6_code
def yX11_difference : MethodName := ⟨RX11, "difference", "(III)V"⟩
abbrev cX11_body : ByteArray := prog_1_method_7_code
def yX11_body : MethodName := ⟨RX11, "body", "(IIIZ)I"⟩
abbrev cX11_compare : ByteArray := prog_1_method_8_code
def yX11_compare : MethodName := ⟨RX11, "compare", "(III)I"⟩
abbrev cX11_interval : ByteArray := prog_1_method_9_code
def yX11_interval : MethodName := ⟨RX11, "interval", "(III)V"⟩
abbrev cX11_sum : ByteArray := prog_1_method_10_code
def yX11_sum : MethodName := ⟨RX11, "sum", "(II)V"⟩
abbrev cX11_element : ByteArray := prog_1_method_11_code
def yX11_element : MethodName := ⟨RX11, "element", "(IIII)I"⟩
abbrev cX11_drop : ByteArray := prog_1_method_12_code
def yX11_drop : MethodName := ⟨RX11, "drop", "()V"⟩
abbrev cX11_enter : ByteArray := prog_1_method_13_code
def yX11_enter : MethodName := ⟨RX11, "enter", "()I"⟩
abbrev cX11_external : ByteArray := prog_1_method_14_code
def yX11_external : MethodName := ⟨RX11, "external", "(III)I"⟩
abbrev cX11_assign : ByteArray := prog_1_method_15_code
def yX11_assign : MethodName := ⟨RX11, "assign", "(II)I"⟩
abbrev cX11_prefer : ByteArray := prog_1_method_16_code
def yX11_prefer : MethodName := ⟨RX11, "prefer", "(II)I"⟩
abbrev cX11_atom : ByteArray := prog_1_method_17_code
def yX11_atom : MethodName := ⟨RX11, "atom", "(III)I"⟩
abbrev cX11_ground : ByteArray := prog_1_method_18_code
def yX11_ground : MethodName := ⟨RX11, "ground", "()I"⟩
abbrev cX11_groundAnew : ByteArray := prog_1_method_19_code
def yX11_groundAnew : MethodName := ⟨RX11, "groundAnew", "()I"⟩
abbrev cX11_instance : ByteArray := prog_1_method_20_code
def yX11_instance : MethodName := ⟨RX11, "instance", "(I)I"⟩
abbrev cX11_answers : ByteArray := prog_1_method_21_code
def yX11_answers : MethodName := ⟨RX11, "answers", "()I"⟩
abbrev cX11_answersAnew : ByteArray := prog_1_method_22_code
def yX11_answersAnew : MethodName := ⟨RX11, "answersAnew", "()I"⟩
abbrev cX11_answer : ByteArray := prog_1_method_23_code
def yX11_answer : MethodName := ⟨RX11, "answer", "(I)I"⟩
abbrev cX11_assuming : ByteArray := prog_1_method_24_code
def yX11_assuming : MethodName := ⟨RX11, "assuming", "(II)I"⟩
abbrev cX11_conflict : ByteArray := prog_1_method_25_code
def yX11_conflict : MethodName := ⟨RX11, "conflict", "(II)I"⟩
abbrev cX11_cost : ByteArray := prog_1_method_26_code
def yX11_cost : MethodName := ⟨RX11, "cost", "(II)J"⟩
abbrev cX11_rank : ByteArray := prog_1_method_27_code
def yX11_rank : MethodName := ⟨RX11, "rank", "(I)I"⟩
abbrev cX11_projected : ByteArray := prog_1_method_28_code
def yX11_projected : MethodName := ⟨RX11, "projected", "(I)I"⟩
abbrev cX11_brave : ByteArray := prog_1_method_29_code
def yX11_brave : MethodName := ⟨RX11, "brave", "()I"⟩
abbrev cX11_cautious : ByteArray := prog_1_method_30_code
def yX11_cautious : MethodName := ⟨RX11, "cautious", "()I"⟩
abbrev cX11_value : ByteArray := prog_1_method_31_code
def yX11_value : MethodName := ⟨RX11, "value", "(II)I"⟩
abbrev cX11_support : ByteArray := prog_1_method_32_code
def yX11_support : MethodName := ⟨RX11, "support", "(II)I"⟩
abbrev cX11_bar : ByteArray := prog_1_method_33_code
def yX11_bar : MethodName := ⟨RX11, "bar", "(I)I"⟩
abbrev cX11_loop : ByteArray := prog_1_method_34_code
def yX11_loop : MethodName := ⟨RX11, "loop", "(I)I"⟩
abbrev cX11_unfounded : ByteArray := prog_1_method_35_code
def yX11_unfounded : MethodName := ⟨RX11, "unfounded", "(I)I"⟩
abbrev cX11_checkTerms : ByteArray := prog_1_method_36_code
def yX11_checkTerms : MethodName := ⟨RX11, "checkTerms", "(IIII)V"⟩
abbrev cX11_fits : ByteArray := prog_1_method_37_code
def yX11_fits : MethodName := ⟨RX11, "fits", "(ZII)Z"⟩
abbrev cX11_isTerm : ByteArray := prog_1_method_38_code
def yX11_isTerm : MethodName := ⟨RX11, "isTerm", "(II)Z"⟩
abbrev cX11_addTo : ByteArray := prog_1_method_39_code
def yX11_addTo : MethodName := ⟨RX11, "addTo", "(LStableFoundry$Entries;III)I"⟩
abbrev cX11_checkHeadIsEmpty : ByteArray := prog_1_method_40_code
def yX11_checkHeadIsEmpty : MethodName := ⟨RX11, "checkHeadIsEmpty", "()V"⟩
abbrev cX11_checkLevel : ByteArray := prog_1_method_41_code
def yX11_checkLevel : MethodName := ⟨RX11, "checkLevel", "(I)V"⟩
abbrev cX11_checkNumber : ByteArray := prog_1_method_42_code
def yX11_checkNumber : MethodName := ⟨RX11, "checkNumber", "(I)V"⟩
abbrev cX11_checkAtom : ByteArray := prog_1_method_43_code
def yX11_checkAtom : MethodName := ⟨RX11, "checkAtom", "(I)V"⟩
abbrev cX11_checkSet : ByteArray := prog_1_method_44_code
def yX11_checkSet : MethodName := ⟨RX11, "checkSet", "(I)V"⟩
abbrev cX11_setOf : ByteArray := prog_1_method_45_code
def yX11_setOf : MethodName := ⟨RX11, "setOf", "(I)I"⟩
abbrev cX11_groundDraft : ByteArray := prog_1_method_46_code
def yX11_groundDraft : MethodName := ⟨RX11, "groundDraft", "()Z"⟩
abbrev cX11_groundExternal : ByteArray := prog_1_method_47_code
def yX11_groundExternal : MethodName := ⟨RX11, "groundExternal", "(I)Z"⟩
abbrev cX11_resolve : ByteArray := prog_1_method_48_code
def yX11_resolve : MethodName := ⟨RX11, "resolve", "()V"⟩
abbrev cX11_search : ByteArray := prog_1_method_49_code
def yX11_search : MethodName := ⟨RX11, "search", "()V"⟩
abbrev cX11_meets : ByteArray := prog_1_method_50_code
def yX11_meets : MethodName := ⟨RX11, "meets", "(III)Z"⟩
abbrev cX11_canMeet : ByteArray := prog_1_method_51_code
def yX11_canMeet : MethodName := ⟨RX11, "canMeet", "(I)Z"⟩
abbrev cX11_leastConflict : ByteArray := prog_1_method_52_code
def yX11_leastConflict : MethodName := ⟨RX11, "leastConflict", "(I)I"⟩
abbrev cX11_isLess : ByteArray := prog_1_method_53_code
def yX11_isLess : MethodName := ⟨RX11, "isLess", "(II)Z"⟩
abbrev cX11_findCheapest : ByteArray := prog_1_method_54_code
def yX11_findCheapest : MethodName := ⟨RX11, "findCheapest", "()V"⟩
abbrev cX11_compareCosts : ByteArray := prog_1_method_55_code
def yX11_compareCosts : MethodName := ⟨RX11, "compareCosts", "(II)I"⟩
abbrev cX11_contains : ByteArray := prog_1_method_56_code
def yX11_contains : MethodName := ⟨RX11, "contains", "(II)Z"⟩
abbrev cX11_marks : ByteArray := prog_1_method_57_code
def yX11_marks : MethodName := ⟨RX11, "marks", "(JI)Z"⟩
abbrev cX11_isOne : ByteArray := prog_1_method_58_code
def yX11_isOne : MethodName := ⟨RX11, "isOne", "(J)Z"⟩
abbrev cX11_lowestIn : ByteArray := prog_1_method_59_code
def yX11_lowestIn : MethodName := ⟨RX11, "lowestIn", "(J)I"⟩
def RX12 : String := "StableFoundryModel"
def TX12 : u_T := fun k => match k with
  | 0 => ("StableFoundryModel", "thrown", "I", false)
  | 1 => ("StableFoundryModel", "places", "[I", true)
  | 2 => ("StableFoundryModel", "predicates", "I", false)
  | 3 => ("StableFoundryModel", "draft", "[I", true)
  | 4 => ("StableFoundryModel", "rules", "[I", true)
  | 5 => ("StableFoundryModel", "ruleMany", "I", false)
  | 6 => ("StableFoundryModel", "atoms", "[I", true)
  | 7 => ("StableFoundryModel", "atomMany", "I", false)
  | 8 => ("StableFoundryModel", "atomPredicate", "[I", true)
  | 9 => ("StableFoundryModel", "externals", "I", false)
  | 10 => ("StableFoundryModel", "how", "[I", true)
  | 11 => ("StableFoundryModel", "preferences", "[I", true)
  | 12 => ("StableFoundryModel", "preferenceMany", "I", false)
  | 13 => ("StableFoundryModel", "instanceRule", "[I", true)
  | 14 => ("StableFoundryModel", "instanceConstants", "[I", true)
  | 15 => ("StableFoundryModel", "instanceMany", "I", false)
  | 16 => ("StableFoundryModel", "heads", "[I", true)
  | 17 => ("StableFoundryModel", "needs", "[I", true)
  | 18 => ("StableFoundryModel", "bars", "[I", true)
  | 19 => ("StableFoundryModel", "hasSum", "[Z", true)
  | 20 => ("StableFoundryModel", "weights", "[J", true)
  | 21 => ("StableFoundryModel", "hadAtoms", "I", false)
  | 22 => ("StableFoundryModel", "hadInstances", "I", false)
  | 23 => ("StableFoundryModel", "hadRules", "I", false)
  | 24 => ("StableFoundryModel", "constants", "[I", true)
  | 25 => ("StableFoundryModel", "answers", "[I", true)
  | 26 => ("StableFoundryModel", "answerMany", "I", false)
  | 27 => ("StableFoundryModel", "areFound", "Z", false)
  | 28 => ("StableFoundryModel", "without", "I", false)
  | 29 => ("StableFoundryModel", "values", "[J", true)
  | 30 => ("StableFoundryModel", "left", "[I", true)
  | 31 => ("StableFoundryModel", "leftMany", "I", false)
  | _ => ("StableFoundryModel", "at", "[I", true)
def tyX12 : Nat → FieldType := fun k => match k with
  | 0 => .int
  | 1 => .array .int
  | 2 => .int
  | 3 => .array .int
  | 4 => .array .int
  | 5 => .int
  | 6 => .array .int
  | 7 => .int
  | 8 => .array .int
  | 9 => .int
  | 10 => .array .int
  | 11 => .array .int
  | 12 => .int
  | 13 => .array .int
  | 14 => .array .int
  | 15 => .int
  | 16 => .array .int
  | 17 => .array .int
  | 18 => .array .int
  | 19 => .array .boolean
  | 20 => .array .long
  | 21 => .int
  | 22 => .int
  | 23 => .int
  | 24 => .array .int
  | 25 => .array .int
  | 26 => .int
  | 27 => .boolean
  | 28 => .int
  | 29 => .array .long
  | 30 => .array .int
  | 31 => .int
  | _ => .array .int
abbrev wsX120 : List Cond := u_ws RX12 TX12 33
theorem nmX12 : ∀ a, a < 33 → ∀ b, b < 33 → a ≠ b → (TX12 a).2.1 ≠ (TX12 b).2.1 := by decide +kernel
theorem tyX12_ok : ∀ k, k < 33 → parseFieldDescriptor (TX12 k).2.2.1 = some (tyX12 k) := by decide +kernel
abbrev cX12_init : ByteArray := prog_14_method_1_code
def yX12_init : MethodName := ⟨RX12, "<init>", "()V"⟩
abbrev cX12_thrown : ByteArray := prog_14_method_2_code
def yX12_thrown : MethodName := ⟨RX12, "thrown", "()I"⟩
abbrev cX12_goesWell : ByteArray := prog_14_method_3_code
def yX12_goesWell : MethodName := ⟨RX12, "goesWell", "(I)Z"⟩
abbrev cX12_in : ByteArray := prog_14_method_4_code
def yX12_in : MethodName := ⟨RX12, "in", "(III)Z"⟩
abbrev cX12_isPredicate : ByteArray := prog_14_method_5_code
def yX12_isPredicate : MethodName := ⟨RX12, "isPredicate", "(I)Z"⟩
abbrev cX12_isAtom : ByteArray := prog_14_method_6_code
def yX12_isAtom : MethodName := ⟨RX12, "isAtom", "(I)Z"⟩
abbrev cX12_isSet : ByteArray := prog_14_method_7_code
def yX12_isSet : MethodName := ⟨RX12, "isSet", "(I)Z"⟩
abbrev cX12_predicate : ByteArray := prog_14_method_8_code
def yX12_predicate : MethodName := ⟨RX12, "predicate", "(I)I"⟩
abbrev cX12_isTerm : ByteArray := prog_14_method_9_code
def yX12_isTerm : MethodName := ⟨RX12, "isTerm", "(I)Z"⟩
abbrev cX12_areTerms : ByteArray := prog_14_method_10_code
def yX12_areTerms : MethodName := ⟨RX12, "areTerms", "(IIIZ)Z"⟩
abbrev cX12_put : ByteArray := prog_14_method_11_code
def yX12_put : MethodName := ⟨RX12, "put", "(IIII)I"⟩
abbrev cX12_hasOther : ByteArray := prog_14_method_12_code
def yX12_hasOther : MethodName := ⟨RX12, "hasOther", "()Z"⟩
abbrev cX12_head : ByteArray := prog_14_method_13_code
def yX12_head : MethodName := ⟨RX12, "head", "(III)I"⟩
abbrev cX12_choice : ByteArray := prog_14_method_14_code
def yX12_choice : MethodName := ⟨RX12, "choice", "(II)V"⟩
abbrev cX12_isTaken : ByteArray := prog_14_method_15_code
def yX12_isTaken : MethodName := ⟨RX12, "isTaken", "()Z"⟩
abbrev cX12_weak : ByteArray := prog_14_method_16_code
def yX12_weak : MethodName := ⟨RX12, "weak", "(II)V"⟩
abbrev cX12_difference : ByteArray := prog_14_method_17_code
def yX12_difference : MethodName := ⟨RX12, "difference", "(III)V"⟩
abbrev cX12_body : ByteArray := prog_14_method_18_code
def yX12_body : MethodName := ⟨RX12, "body", "(IIIZ)I"⟩
abbrev cX12_compare : ByteArray := prog_14_method_19_code
def yX12_compare : MethodName := ⟨RX12, "compare", "(III)I"⟩
abbrev cX12_interval : ByteArray := prog_14_method_20_code
def yX12_interval : MethodName := ⟨RX12, "interval", "(III)V"⟩
abbrev cX12_sum : ByteArray := prog_14_method_21_code
def yX12_sum : MethodName := ⟨RX12, "sum", "(II)V"⟩
abbrev cX12_element : ByteArray := prog_14_method_22_code
def yX12_element : MethodName := ⟨RX12, "element", "(IIII)I"⟩
abbrev cX12_drop : ByteArray := prog_14_method_23_code
def yX12_drop : MethodName := ⟨RX12, "drop", "()V"⟩
abbrev cX12_variableOf : ByteArray := prog_14_method_24_code
def yX12_variableOf : MethodName := ⟨RX12, "variableOf", "(I)I"⟩
abbrev cX12_variablesAt : ByteArray := prog_14_method_25_code
def yX12_variablesAt : MethodName := ⟨RX12, "variablesAt", "([IIZ)I"⟩
abbrev cX12_variables : ByteArray := prog_14_method_26_code
def yX12_variables : MethodName := ⟨RX12, "variables", "(I)I"⟩
abbrev cX12_variablesOfRow : ByteArray := prog_14_method_27_code
def yX12_variablesOfRow : MethodName := ⟨RX12, "variablesOfRow", "()I"⟩
abbrev cX12_isSafe : ByteArray := prog_14_method_28_code
def yX12_isSafe : MethodName := ⟨RX12, "isSafe", "()Z"⟩
abbrev cX12_valueOf : ByteArray := prog_14_method_29_code
def yX12_valueOf : MethodName := ⟨RX12, "valueOf", "(II)I"⟩
abbrev cX12_atomAt : ByteArray := prog_14_method_30_code
def yX12_atomAt : MethodName := ⟨RX12, "atomAt", "(II)I"⟩
abbrev cX12_areBelow : ByteArray := prog_14_method_31_code
def yX12_areBelow : MethodName := ⟨RX12, "areBelow", "(IZ)Z"⟩
abbrev cX12_areCompared : ByteArray := prog_14_method_32_code
def yX12_areCompared : MethodName := ⟨RX12, "areCompared", "()Z"⟩
abbrev cX12_isInstance : ByteArray := prog_14_method_33_code
def yX12_isInstance : MethodName := ⟨RX12, "isInstance", "()Z"⟩
abbrev cX12_told : ByteArray := prog_14_method_34_code
def yX12_told : MethodName := ⟨RX12, "told", "()I"⟩
abbrev cX12_isThere : ByteArray := prog_14_method_35_code
def yX12_isThere : MethodName := ⟨RX12, "isThere", "(I)Z"⟩
abbrev cX12_add : ByteArray := prog_14_method_36_code
def yX12_add : MethodName := ⟨RX12, "add", "(III)Z"⟩
abbrev cX12_addInstance : ByteArray := prog_14_method_37_code
def yX12_addInstance : MethodName := ⟨RX12, "addInstance", "(I)Z"⟩
abbrev cX12_lowest : ByteArray := prog_14_method_38_code
def yX12_lowest : MethodName := ⟨RX12, "lowest", "(II)I"⟩
abbrev cX12_greatest : ByteArray := prog_14_method_39_code
def yX12_greatest : MethodName := ⟨RX12, "greatest", "(II)I"⟩
abbrev cX12_go : ByteArray := prog_14_method_40_code
def yX12_go : MethodName := ⟨RX12, "go", "(I)I"⟩
abbrev cX12_groundAll : ByteArray := prog_14_method_41_code
def yX12_groundAll : MethodName := ⟨RX12, "groundAll", "()Z"⟩
abbrev cX12_keep : ByteArray := prog_14_method_42_code
def yX12_keep : MethodName := ⟨RX12, "keep", "()V"⟩
abbrev cX12_takeBack : ByteArray := prog_14_method_43_code
def yX12_takeBack : MethodName := ⟨RX12, "takeBack", "()V"⟩
abbrev cX12_layInstances : ByteArray := prog_14_method_44_code
def yX12_layInstances : MethodName := ⟨RX12, "layInstances", "()V"⟩
abbrev cX12_maskAt : ByteArray := prog_14_method_45_code
def yX12_maskAt : MethodName := ⟨RX12, "maskAt", "(I)I"⟩
abbrev cX12_laySum : ByteArray := prog_14_method_46_code
def yX12_laySum : MethodName := ⟨RX12, "laySum", "(I)V"⟩
abbrev cX12_enter : ByteArray := prog_14_method_47_code
def yX12_enter : MethodName := ⟨RX12, "enter", "()I"⟩
abbrev cX12_areConstants : ByteArray := prog_14_method_48_code
def yX12_areConstants : MethodName := ⟨RX12, "areConstants", "(III)Z"⟩
abbrev cX12_external : ByteArray := prog_14_method_49_code
def yX12_external : MethodName := ⟨RX12, "external", "(III)I"⟩
abbrev cX12_assign : ByteArray := prog_14_method_50_code
def yX12_assign : MethodName := ⟨RX12, "assign", "(II)I"⟩
abbrev cX12_prefer : ByteArray := prog_14_method_51_code
def yX12_prefer : MethodName := ⟨RX12, "prefer", "(II)I"⟩
abbrev cX12_atom : ByteArray := prog_14_method_52_code
def yX12_atom : MethodName := ⟨RX12, "atom", "(III)I"⟩
abbrev cX12_ground : ByteArray := prog_14_method_53_code
def yX12_ground : MethodName := ⟨RX12, "ground", "()I"⟩
abbrev cX12_groundAnew : ByteArray := prog_14_method_54_code
def yX12_groundAnew : MethodName := ⟨RX12, "groundAnew", "()I"⟩
abbrev cX12_instance : ByteArray := prog_14_method_55_code
def yX12_instance : MethodName := ⟨RX12, "instance", "(I)I"⟩
abbrev cX12_kindOf : ByteArray := prog_14_method_56_code
def yX12_kindOf : MethodName := ⟨RX12, "kindOf", "(I)I"⟩
abbrev cX12_given : ByteArray := prog_14_method_57_code
def yX12_given : MethodName := ⟨RX12, "given", "(II)I"⟩
abbrev cX12_holds : ByteArray := prog_14_method_58_code
def yX12_holds : MethodName := ⟨RX12, "holds", "(II)Z"⟩
abbrev cX12_bits : ByteArray := prog_14_method_59_code
def yX12_bits : MethodName := ⟨RX12, "bits", "(I)I"⟩
abbrev cX12_trueOnes : ByteArray := prog_14_method_60_code
def yX12_trueOnes : MethodName := ⟨RX12, "trueOnes", "()I"⟩
abbrev cX12_freeOnes : ByteArray := prog_14_method_61_code
def yX12_freeOnes : MethodName := ⟨RX12, "freeOnes", "()I"⟩
abbrev cX12_isSatisfied : ByteArray := prog_14_method_62_code
def yX12_isSatisfied : MethodName := ⟨RX12, "isSatisfied", "(I)Z"⟩
abbrev cX12_isLeftSatisfied : ByteArray := prog_14_method_63_code
def yX12_isLeftSatisfied : MethodName := ⟨RX12, "isLeftSatisfied", "(II)Z"⟩
abbrev cX12_isStable : ByteArray := prog_14_method_64_code
def yX12_isStable : MethodName := ⟨RX12, "isStable", "(I)Z"⟩
abbrev cX12_layValues : ByteArray := prog_14_method_65_code
def yX12_layValues : MethodName := ⟨RX12, "layValues", "(I)Z"⟩
abbrev cX12_isAnswer : ByteArray := prog_14_method_66_code
def yX12_isAnswer : MethodName := ⟨RX12, "isAnswer", "(I)Z"⟩
abbrev cX12_find : ByteArray := prog_14_method_67_code
def yX12_find : MethodName := ⟨RX12, "find", "()V"⟩
abbrev cX12_isAnswerNumber : ByteArray := prog_14_method_68_code
def yX12_isAnswerNumber : MethodName := ⟨RX12, "isAnswerNumber", "(I)Z"⟩
abbrev cX12_answers : ByteArray := prog_14_method_69_code
def yX12_answers : MethodName := ⟨RX12, "answers", "()I"⟩
abbrev cX12_answersAnew : ByteArray := prog_14_method_70_code
def yX12_answersAnew : MethodName := ⟨RX12, "answersAnew", "()I"⟩
abbrev cX12_answer : ByteArray := prog_14_method_71_code
def yX12_answer : MethodName := ⟨RX12, "answer", "(I)I"⟩
abbrev cX12_isMet : ByteArray := prog_14_method_72_code
def yX12_isMet : MethodName := ⟨RX12, "isMet", "(II)Z"⟩
abbrev cX12_assuming : ByteArray := prog_14_method_73_code
def yX12_assuming : MethodName := ⟨RX12, "assuming", "(II)I"⟩
abbrev cX12_conflict : ByteArray := prog_14_method_74_code
def yX12_conflict : MethodName := ⟨RX12, "conflict", "(II)I"⟩
abbrev cX12_costOf : ByteArray := prog_14_method_75_code
def yX12_costOf : MethodName := ⟨RX12, "costOf", "(II)J"⟩
abbrev cX12_cost : ByteArray := prog_14_method_76_code
def yX12_cost : MethodName := ⟨RX12, "cost", "(II)J"⟩
abbrev cX12_isCheaper : ByteArray := prog_14_method_77_code
def yX12_isCheaper : MethodName := ⟨RX12, "isCheaper", "(II)Z"⟩
abbrev cX12_isBest : ByteArray := prog_14_method_78_code
def yX12_isBest : MethodName := ⟨RX12, "isBest", "(I)Z"⟩
abbrev cX12_speaks : ByteArray := prog_14_method_79_code
def yX12_speaks : MethodName := ⟨RX12, "speaks", "(II)Z"⟩
abbrev cX12_rank : ByteArray := prog_14_method_80_code
def yX12_rank : MethodName := ⟨RX12, "rank", "(I)I"⟩
abbrev cX12_projected : ByteArray := prog_14_method_81_code
def yX12_projected : MethodName := ⟨RX12, "projected", "(I)I"⟩
abbrev cX12_brave : ByteArray := prog_14_method_82_code
def yX12_brave : MethodName := ⟨RX12, "brave", "()I"⟩
abbrev cX12_cautious : ByteArray := prog_14_method_83_code
def yX12_cautious : MethodName := ⟨RX12, "cautious", "()I"⟩
abbrev cX12_value : ByteArray := prog_14_method_84_code
def yX12_value : MethodName := ⟨RX12, "value", "(II)I"⟩
abbrev cX12_support : ByteArray := prog_14_method_85_code
def yX12_support : MethodName := ⟨RX12, "support", "(II)I"⟩
abbrev cX12_isThereWith : ByteArray := prog_14_method_86_code
def yX12_isThereWith : MethodName := ⟨RX12, "isThereWith", "(II)Z"⟩
abbrev cX12_bar : ByteArray := prog_14_method_87_code
def yX12_bar : MethodName := ⟨RX12, "bar", "(I)I"⟩
abbrev cX12_hangsOn : ByteArray := prog_14_method_88_code
def yX12_hangsOn : MethodName := ⟨RX12, "hangsOn", "(I)I"⟩
abbrev cX12_loop : ByteArray := prog_14_method_89_code
def yX12_loop : MethodName := ⟨RX12, "loop", "(I)I"⟩
abbrev cX12_isUnfounded : ByteArray := prog_14_method_90_code
def yX12_isUnfounded : MethodName := ⟨RX12, "isUnfounded", "(II)Z"⟩
abbrev cX12_unfounded : ByteArray := prog_14_method_91_code
def yX12_unfounded : MethodName := ⟨RX12, "unfounded", "(I)I"⟩
def RJ6 : String := "java/lang/Integer"
abbrev cJ6_bitCount_0f7a4 : ByteArray := prog_19_method_49_code
def yJ6_bitCount_0f7a4 : MethodName := ⟨RJ6, "bitCount", "(I)I"⟩
def RJ13 : String := "java/lang/Long"
abbrev cJ13_compare_74951 : ByteArray := prog_20_method_42_code
def yJ13_compare_74951 : MethodName := ⟨RJ13, "compare", "(JJ)I"⟩
abbrev cJ13_bitCount_95d88 : ByteArray := prog_20_method_50_code
def yJ13_bitCount_95d88 : MethodName := ⟨RJ13, "bitCount", "(J)I"⟩
def RJ9 : String := "java/lang/Math"
abbrev cJ9_max_7cf53 : ByteArray := prog_21_method_65_code
def yJ9_max_7cf53 : MethodName := ⟨RJ9, "max", "(II)I"⟩
abbrev cJ9_min_7cf53 : ByteArray := prog_21_method_69_code
def yJ9_min_7cf53 : MethodName := ⟨RJ9, "min", "(II)I"⟩
def RL : String := "StableFoundryLaw"
abbrev cL_predicate : ByteArray := method_3_code
def yL_predicate : MethodName := ⟨RL, "predicate", "(LStableFoundry;I[J)I"⟩
abbrev cL_head : ByteArray := method_4_code
def yL_head : MethodName := ⟨RL, "head", "(LStableFoundry;III[J)I"⟩
abbrev cL_choice : ByteArray := method_5_code
def yL_choice : MethodName := ⟨RL, "choice", "(LStableFoundry;II)I"⟩
abbrev cL_weak : ByteArray := method_6_code
def yL_weak : MethodName := ⟨RL, "weak", "(LStableFoundry;II)I"⟩
abbrev cL_difference : ByteArray := method_7_code
def yL_difference : MethodName := ⟨RL, "difference", "(LStableFoundry;III)I"⟩
abbrev cL_body : ByteArray := method_8_code
def yL_body : MethodName := ⟨RL, "body", "(LStableFoundry;IIIZ[J)I"⟩
abbrev cL_compare : ByteArray := method_9_code
def yL_compare : MethodName := ⟨RL, "compare", "(LStableFoundry;III[J)I"⟩
abbrev cL_interval : ByteArray := method_10_code
def yL_interval : MethodName := ⟨RL, "interval", "(LStableFoundry;III)I"⟩
abbrev cL_sum : ByteArray := method_11_code
def yL_sum : MethodName := ⟨RL, "sum", "(LStableFoundry;II)I"⟩
abbrev cL_element : ByteArray := method_12_code
def yL_element : MethodName := ⟨RL, "element", "(LStableFoundry;IIII[J)I"⟩
abbrev cL_enter : ByteArray := method_13_code
def yL_enter : MethodName := ⟨RL, "enter", "(LStableFoundry;[J)I"⟩
abbrev cL_external : ByteArray := method_14_code
def yL_external : MethodName := ⟨RL, "external", "(LStableFoundry;III[J)I"⟩
abbrev cL_assign : ByteArray := method_15_code
def yL_assign : MethodName := ⟨RL, "assign", "(LStableFoundry;II[J)I"⟩
abbrev cL_prefer : ByteArray := method_16_code
def yL_prefer : MethodName := ⟨RL, "prefer", "(LStableFoundry;II[J)I"⟩
abbrev cL_atom : ByteArray := method_17_code
def yL_atom : MethodName := ⟨RL, "atom", "(LStableFoundry;III[J)I"⟩
abbrev cL_instance : ByteArray := method_18_code
def yL_instance : MethodName := ⟨RL, "instance", "(LStableFoundry;I[J)I"⟩
abbrev cL_answer : ByteArray := method_19_code
def yL_answer : MethodName := ⟨RL, "answer", "(LStableFoundry;I[J)I"⟩
abbrev cL_assuming : ByteArray := method_20_code
def yL_assuming : MethodName := ⟨RL, "assuming", "(LStableFoundry;II[J)I"⟩
abbrev cL_conflict : ByteArray := method_21_code
def yL_conflict : MethodName := ⟨RL, "conflict", "(LStableFoundry;II[J)I"⟩
abbrev cL_cost : ByteArray := method_22_code
def yL_cost : MethodName := ⟨RL, "cost", "(LStableFoundry;II[J)I"⟩
abbrev cL_rank : ByteArray := method_23_code
def yL_rank : MethodName := ⟨RL, "rank", "(LStableFoundry;I[J)I"⟩
abbrev cL_projected : ByteArray := method_24_code
def yL_projected : MethodName := ⟨RL, "projected", "(LStableFoundry;I[J)I"⟩
abbrev cL_value : ByteArray := method_25_code
def yL_value : MethodName := ⟨RL, "value", "(LStableFoundry;II[J)I"⟩
abbrev cL_support : ByteArray := method_26_code
def yL_support : MethodName := ⟨RL, "support", "(LStableFoundry;II[J)I"⟩
abbrev cL_bar : ByteArray := method_27_code
def yL_bar : MethodName := ⟨RL, "bar", "(LStableFoundry;I[J)I"⟩
abbrev cL_loop : ByteArray := method_28_code
def yL_loop : MethodName := ⟨RL, "loop", "(LStableFoundry;I[J)I"⟩
abbrev cL_unfounded : ByteArray := method_29_code
def yL_unfounded : MethodName := ⟨RL, "unfounded", "(LStableFoundry;I[J)I"⟩
abbrev cL_law : ByteArray := code
def yL_law : MethodName := ⟨RL, "law", "([I)Z"⟩
abbrev vwCl : List vw_C := [(RX0, TX0, 1), (RX1, TX1, 3), (RX2, TX2, 3), (RX3, TX3, 3), (RX4, TX4, 6), (RX5, TX5, 9), (RX6, TX6, 3), (RX7, TX7, 18), (RX8, TX8, 10), (RX9, TX9, 3), (RX10, TX10, 5), (RX11, TX11, 16), (RX12, TX12, 33)]
/-- the owners by number: classes 0 to 12, the law 13, Integer 14, Long 15, Math 16 -/
def cnm (o : Nat) : String := match o with
  | 0 => RX0
  | 1 => RX1
  | 2 => RX2
  | 3 => RX3
  | 4 => RX4
  | 5 => RX5
  | 6 => RX6
  | 7 => RX7
  | 8 => RX8
  | 9 => RX9
  | 10 => RX10
  | 11 => RX11
  | 12 => RX12
  | 13 => RL
  | 14 => RJ6
  | 15 => RJ13
  | 16 => RJ9
  | _ => ""
def cTb (c : Nat) : u_T := match c with
  | 0 => TX0
  | 1 => TX1
  | 2 => TX2
  | 3 => TX3
  | 4 => TX4
  | 5 => TX5
  | 6 => TX6
  | 7 => TX7
  | 8 => TX8
  | 9 => TX9
  | 10 => TX10
  | 11 => TX11
  | _ => TX12
def cTy (c : Nat) : Nat → FieldType := match c with
  | 0 => tyX0
  | 1 => tyX1
  | 2 => tyX2
  | 3 => tyX3
  | 4 => tyX4
  | 5 => tyX5
  | 6 => tyX6
  | 7 => tyX7
  | 8 => tyX8
  | 9 => tyX9
  | 10 => tyX10
  | 11 => tyX11
  | _ => tyX12
def nfl (c : Nat) : Nat := match c with
  | 0 => 1
  | 1 => 3
  | 2 => 3
  | 3 => 3
  | 4 => 6
  | 5 => 9
  | 6 => 3
  | 7 => 18
  | 8 => 10
  | 9 => 3
  | 10 => 5
  | 11 => 16
  | 12 => 33
  | _ => 0
def ftl : List (List Nat) := [[2], [2, 0, 0], [0, 0, 0], [2, 2, 0], [2, 0, 2, 0, 2, 3], [0, 2, 0, 0, 0, 0, 0, 0, 0], [2, 2, 0], [2, 2, 2, 2, 2, 2, 2, 2, 2, 2, 2, 0, 0, 1, 1, 1, 1, 1], [2, 2, 2, 2, 2, 2, 2, 0, 0, 0], [2, 2, 2], [3, 0, 0, 2, 2], [2, 0, 2, 0, 2, 2, 2, 2, 2, 2, 2, 2, 2, 3, 3, 0], [0, 2, 0, 2, 2, 0, 2, 0, 2, 0, 2, 2, 0, 2, 2, 0, 2, 2, 2, 2, 2, 0, 0, 0, 2, 2, 0, 3, 0, 2, 2, 0, 2]]
def fty (c k : Nat) : Nat := (ftl.getD c []).getD k 0
/-- the methods by number: name, bytes, locals, what they return, handlers (none: no table), owner, arguments with the object's own -/
abbrev MRow : Type := MethodName × ByteArray × Nat × Option FieldType × List (Nat × Nat × Nat × Nat) × Nat × Nat
def MTB_0 : List MRow := [(yX11_init, cX11_init, 1, none, [], 11, 1),
  (yX11_predicate, cX11_predicate, 2, some .int, [], 11, 2),
  (yX11_head, cX11_head, 4, some .int, [], 11, 4),
  (yX11_choice, cX11_choice, 3, none, [], 11, 3),
  (yX11_weak, cX11_weak, 3, none, [], 11, 3),
  (yX11_difference, cX11_difference, 4, none, [], 11, 4),
  (yX11_body, cX11_body, 5, some .int, [], 11, 5),
  (yX11_compare, cX11_compare, 4, some .int, [], 11, 4),
  (yX11_interval, cX11_interval, 4, none, [], 11, 4),
  (yX11_sum, cX11_sum, 3, none, [], 11, 3),
  (yX11_element, cX11_element, 5, some .int, [], 11, 5),
  (yX11_drop, cX11_drop, 1, none, [], 11, 1),
  (yX11_enter, cX11_enter, 1, some .int, [], 11, 1),
  (yX11_external, cX11_external, 6, some .int, [], 11, 4),
  (yX11_assign, cX11_assign, 4, some .int, [], 11, 3),
  (yX11_prefer, cX11_prefer, 3, some .int, [], 11, 3),
  (yX11_atom, cX11_atom, 4, some .int, [], 11, 4),
  (yX11_ground, cX11_ground, 1, some .int, [], 11, 1),
  (yX11_groundAnew, cX11_groundAnew, 2, some .int, [], 11, 1),
  (yX11_instance, cX11_instance, 2, some .int, [], 11, 2),
  (yX11_answers, cX11_answers, 1, some .int, [], 11, 1),
  (yX11_answersAnew, cX11_answersAnew, 1, some .int, [], 11, 1),
  (yX11_answer, cX11_answer, 2, some .int, [], 11, 2),
  (yX11_assuming, cX11_assuming, 5, some .int, [], 11, 3),
  (yX11_conflict, cX11_conflict, 4, some .int, [], 11, 3),
  (yX11_cost, cX11_cost, 4, some .long, [], 11, 3),
  (yX11_rank, cX11_rank, 4, some .int, [], 11, 2),
  (yX11_projected, cX11_projected, 2, some .int, [], 11, 2),
  (yX11_brave, cX11_brave, 3, some .int, [], 11, 1),
  (yX11_cautious, cX11_cautious, 3, some .int, [], 11, 1),
  (yX11_value, cX11_value, 4, some .int, [], 11, 3),
  (yX11_support, cX11_support, 5, some .int, [], 11, 3),
  (yX11_bar, cX11_bar, 5, some .int, [], 11, 2),
  (yX11_loop, cX11_loop, 5, some .int, [], 11, 2),
  (yX11_unfounded, cX11_unfounded, 4, some .int, [], 11, 2),
  (yX11_checkTerms, cX11_checkTerms, 5, none, [], 11, 5),
  (yX11_fits, cX11_fits, 3, some .boolean, [], 11, 3),
  (yX11_isTerm, cX11_isTerm, 2, some .boolean, [], 11, 2),
  (yX11_addTo, cX11_addTo, 4, some .int, [], 11, 4),
  (yX11_checkHeadIsEmpty, cX11_checkHeadIsEmpty, 1, none, [], 11, 1)]
def MTB_1 : List MRow := [(yX11_checkLevel, cX11_checkLevel, 1, none, [], 11, 1),
  (yX11_checkNumber, cX11_checkNumber, 1, none, [], 11, 1),
  (yX11_checkAtom, cX11_checkAtom, 2, none, [], 11, 2),
  (yX11_checkSet, cX11_checkSet, 2, none, [], 11, 2),
  (yX11_setOf, cX11_setOf, 2, some .int, [], 11, 2),
  (yX11_groundDraft, cX11_groundDraft, 3, some .boolean, [], 11, 1),
  (yX11_groundExternal, cX11_groundExternal, 4, some .boolean, [], 11, 2),
  (yX11_resolve, cX11_resolve, 1, none, [], 11, 1),
  (yX11_search, cX11_search, 2, none, [], 11, 1),
  (yX11_meets, cX11_meets, 3, some .boolean, [], 11, 3),
  (yX11_canMeet, cX11_canMeet, 3, some .boolean, [], 11, 2),
  (yX11_leastConflict, cX11_leastConflict, 5, some .int, [], 11, 2),
  (yX11_isLess, cX11_isLess, 3, some .boolean, [], 11, 2),
  (yX11_findCheapest, cX11_findCheapest, 2, none, [], 11, 1),
  (yX11_compareCosts, cX11_compareCosts, 5, some .int, [], 11, 3),
  (yX11_contains, cX11_contains, 2, some .boolean, [], 11, 2),
  (yX11_marks, cX11_marks, 3, some .boolean, [], 11, 2),
  (yX11_isOne, cX11_isOne, 2, some .boolean, [], 11, 1),
  (yX11_lowestIn, cX11_lowestIn, 2, some .int, [], 11, 1),
  (yX12_init, cX12_init, 2, none, [], 12, 1),
  (yX12_thrown, cX12_thrown, 1, some .int, [], 12, 1),
  (yX12_goesWell, cX12_goesWell, 2, some .boolean, [], 12, 2),
  (yX12_in, cX12_in, 3, some .boolean, [], 12, 3),
  (yX12_isPredicate, cX12_isPredicate, 2, some .boolean, [], 12, 2),
  (yX12_isAtom, cX12_isAtom, 2, some .boolean, [], 12, 2),
  (yX12_isSet, cX12_isSet, 2, some .boolean, [], 12, 2),
  (yX12_predicate, cX12_predicate, 2, some .int, [], 12, 2),
  (yX12_isTerm, cX12_isTerm, 1, some .boolean, [], 12, 1),
  (yX12_areTerms, cX12_areTerms, 6, some .boolean, [], 12, 5),
  (yX12_put, cX12_put, 6, some .int, [], 12, 5),
  (yX12_hasOther, cX12_hasOther, 1, some .boolean, [], 12, 1),
  (yX12_head, cX12_head, 6, some .int, [], 12, 4),
  (yX12_choice, cX12_choice, 3, none, [], 12, 3),
  (yX12_isTaken, cX12_isTaken, 1, some .boolean, [], 12, 1),
  (yX12_weak, cX12_weak, 3, none, [], 12, 3),
  (yX12_difference, cX12_difference, 5, none, [], 12, 4),
  (yX12_body, cX12_body, 8, some .int, [], 12, 5),
  (yX12_compare, cX12_compare, 5, some .int, [], 12, 4),
  (yX12_interval, cX12_interval, 4, none, [], 12, 4),
  (yX12_sum, cX12_sum, 3, none, [], 12, 3)]
def MTB_2 : List MRow := [(yX12_element, cX12_element, 8, some .int, [], 12, 5),
  (yX12_drop, cX12_drop, 2, none, [], 12, 1),
  (yX12_variableOf, cX12_variableOf, 1, some .int, [], 12, 1),
  (yX12_variablesAt, cX12_variablesAt, 7, some .int, [], 12, 3),
  (yX12_variables, cX12_variables, 3, some .int, [], 12, 2),
  (yX12_variablesOfRow, cX12_variablesOfRow, 3, some .int, [], 12, 1),
  (yX12_isSafe, cX12_isSafe, 3, some .boolean, [], 12, 1),
  (yX12_valueOf, cX12_valueOf, 3, some .int, [], 12, 3),
  (yX12_atomAt, cX12_atomAt, 3, some .int, [], 12, 3),
  (yX12_areBelow, cX12_areBelow, 6, some .boolean, [], 12, 3),
  (yX12_areCompared, cX12_areCompared, 6, some .boolean, [], 12, 1),
  (yX12_isInstance, cX12_isInstance, 2, some .boolean, [], 12, 1),
  (yX12_told, cX12_told, 1, some .int, [], 12, 1),
  (yX12_isThere, cX12_isThere, 3, some .boolean, [], 12, 2),
  (yX12_add, cX12_add, 5, some .boolean, [], 12, 4),
  (yX12_addInstance, cX12_addInstance, 4, some .boolean, [], 12, 2),
  (yX12_lowest, cX12_lowest, 4, some .int, [], 12, 3),
  (yX12_greatest, cX12_greatest, 4, some .int, [], 12, 3),
  (yX12_go, cX12_go, 6, some .int, [], 12, 2),
  (yX12_groundAll, cX12_groundAll, 4, some .boolean, [], 12, 1),
  (yX12_keep, cX12_keep, 1, none, [], 12, 1),
  (yX12_takeBack, cX12_takeBack, 1, none, [], 12, 1),
  (yX12_layInstances, cX12_layInstances, 5, none, [], 12, 1),
  (yX12_maskAt, cX12_maskAt, 5, some .int, [], 12, 2),
  (yX12_laySum, cX12_laySum, 7, none, [], 12, 2),
  (yX12_enter, cX12_enter, 2, some .int, [], 12, 1),
  (yX12_areConstants, cX12_areConstants, 4, some .boolean, [], 12, 4),
  (yX12_external, cX12_external, 6, some .int, [], 12, 4),
  (yX12_assign, cX12_assign, 5, some .int, [], 12, 3),
  (yX12_prefer, cX12_prefer, 3, some .int, [], 12, 3),
  (yX12_atom, cX12_atom, 4, some .int, [], 12, 4),
  (yX12_ground, cX12_ground, 1, some .int, [], 12, 1),
  (yX12_groundAnew, cX12_groundAnew, 1, some .int, [], 12, 1),
  (yX12_instance, cX12_instance, 2, some .int, [], 12, 2),
  (yX12_kindOf, cX12_kindOf, 2, some .int, [], 12, 2),
  (yX12_given, cX12_given, 3, some .int, [], 12, 3),
  (yX12_holds, cX12_holds, 6, some .boolean, [], 12, 3),
  (yX12_bits, cX12_bits, 3, some .int, [], 12, 1),
  (yX12_trueOnes, cX12_trueOnes, 3, some .int, [], 12, 1),
  (yX12_freeOnes, cX12_freeOnes, 3, some .int, [], 12, 1)]
def MTB_3 : List MRow := [(yX12_isSatisfied, cX12_isSatisfied, 6, some .boolean, [], 12, 2),
  (yX12_isLeftSatisfied, cX12_isLeftSatisfied, 7, some .boolean, [], 12, 3),
  (yX12_isStable, cX12_isStable, 4, some .boolean, [], 12, 2),
  (yX12_layValues, cX12_layValues, 7, some .boolean, [], 12, 2),
  (yX12_isAnswer, cX12_isAnswer, 2, some .boolean, [], 12, 2),
  (yX12_find, cX12_find, 2, none, [], 12, 1),
  (yX12_isAnswerNumber, cX12_isAnswerNumber, 2, some .boolean, [], 12, 2),
  (yX12_answers, cX12_answers, 1, some .int, [], 12, 1),
  (yX12_answersAnew, cX12_answersAnew, 1, some .int, [], 12, 1),
  (yX12_answer, cX12_answer, 2, some .int, [], 12, 2),
  (yX12_isMet, cX12_isMet, 4, some .boolean, [], 12, 3),
  (yX12_assuming, cX12_assuming, 5, some .int, [], 12, 3),
  (yX12_conflict, cX12_conflict, 9, some .int, [], 12, 3),
  (yX12_costOf, cX12_costOf, 6, some .long, [], 12, 3),
  (yX12_cost, cX12_cost, 3, some .long, [], 12, 3),
  (yX12_isCheaper, cX12_isCheaper, 8, some .boolean, [], 12, 3),
  (yX12_isBest, cX12_isBest, 3, some .boolean, [], 12, 2),
  (yX12_speaks, cX12_speaks, 6, some .boolean, [], 12, 3),
  (yX12_rank, cX12_rank, 5, some .int, [], 12, 2),
  (yX12_projected, cX12_projected, 6, some .int, [], 12, 2),
  (yX12_brave, cX12_brave, 3, some .int, [], 12, 1),
  (yX12_cautious, cX12_cautious, 3, some .int, [], 12, 1),
  (yX12_value, cX12_value, 4, some .int, [], 12, 3),
  (yX12_support, cX12_support, 6, some .int, [], 12, 3),
  (yX12_isThereWith, cX12_isThereWith, 5, some .boolean, [], 12, 3),
  (yX12_bar, cX12_bar, 3, some .int, [], 12, 2),
  (yX12_hangsOn, cX12_hangsOn, 5, some .int, [], 12, 2),
  (yX12_loop, cX12_loop, 5, some .int, [], 12, 2),
  (yX12_isUnfounded, cX12_isUnfounded, 5, some .boolean, [], 12, 3),
  (yX12_unfounded, cX12_unfounded, 4, some .int, [], 12, 2),
  (yX0_init, cX0_init, 1, none, [], 0, 1),
  (yX0_greatestOf, cX0_greatestOf, 2, some .int, [], 0, 2),
  (yX0_canHold, cX0_canHold, 10, some .boolean, [], 0, 3),
  (yX0_lower, cX0_lower, 3, some .boolean, [], 0, 2),
  (yX1_init, cX1_init, 2, none, [], 1, 2),
  (yX1_isFull, cX1_isFull, 1, some .boolean, [], 1, 1),
  (yX1_add, cX1_add, 4, none, [], 1, 4),
  (yX1_clear, cX1_clear, 1, none, [], 1, 1),
  (yX1_codeAt, cX1_codeAt, 2, some .int, [], 1, 2),
  (yX1_groundCode, cX1_groundCode, 3, some .int, [], 1, 3)]
def MTB_4 : List MRow := [(yX1_groundCodeOf, cX1_groundCodeOf, 3, some .int, [], 1, 3),
  (yX1_numberIn, cX1_numberIn, 1, some .int, [], 1, 1),
  (yX1_firstIn, cX1_firstIn, 1, some .int, [], 1, 1),
  (yX1_secondIn, cX1_secondIn, 1, some .int, [], 1, 1),
  (yX1_hasZ, cX1_hasZ, 1, some .boolean, [], 1, 1),
  (yX1_variableIn, cX1_variableIn, 1, some .int, [], 1, 1),
  (yX1_constantOf, cX1_constantOf, 4, some .int, [], 1, 3),
  (yX1_lastVariableOf, cX1_lastVariableOf, 1, some .int, [], 1, 1),
  (yX1_isTrue, cX1_isTrue, 4, some .boolean, [], 1, 2),
  (yX1_variables, cX1_variables, 5, some .int, [], 1, 2),
  (yX1_variableBit, cX1_variableBit, 3, some .int, [], 1, 2),
  (yX2_init, cX2_init, 1, none, [], 2, 1),
  (yX2_has, cX2_has, 2, some .boolean, [], 2, 2),
  (yX2_add, cX2_add, 2, none, [], 2, 2),
  (yX2_stateOf, cX2_stateOf, 2, some .int, [], 2, 2),
  (yX2_let, cX2_let, 4, none, [], 2, 3),
  (yX2_neededBy, cX2_neededBy, 2, some .int, [], 2, 2),
  (yX3_init, cX3_init, 1, none, [], 3, 1),
  (yX3_clear, cX3_clear, 2, none, [], 3, 1),
  (yX3_has, cX3_has, 2, some .boolean, [], 3, 2),
  (yX3_add, cX3_add, 2, none, [], 3, 2),
  (yX3_setAt, cX3_setAt, 4, some .int, [], 3, 2),
  (yX3_countSeenThrough, cX3_countSeenThrough, 5, some .int, [], 3, 2),
  (yX4_init, cX4_init, 1, none, [], 4, 1),
  (yX4_size, cX4_size, 1, some .int, [], 4, 1),
  (yX4_cutTo, cX4_cutTo, 3, none, [], 4, 3),
  (yX4_atomAt, cX4_atomAt, 2, some .int, [], 4, 2),
  (yX4_instanceAt, cX4_instanceAt, 2, some .int, [], 4, 2),
  (yX4_numberOf, cX4_numberOf, 3, some .int, [], 4, 2),
  (yX4_admit, cX4_admit, 2, some .boolean, [], 4, 2),
  (yX4_settle, cX4_settle, 7, some .boolean, [], 4, 3),
  (yX4_bind, cX4_bind, 6, none, [], 4, 4),
  (yX4_canBe, cX4_canBe, 5, some .boolean, [], 4, 3),
  (yX4_addInstance, cX4_addInstance, 5, none, [], 4, 3),
  (yX4_isKnown, cX4_isKnown, 3, some .boolean, [], 4, 2),
  (yX5_init, cX5_init, 1, none, [], 5, 1),
  (yX5_clear, cX5_clear, 1, none, [], 5, 1),
  (yX6_init, cX6_init, 1, none, [], 6, 1),
  (yX6_isFull, cX6_isFull, 1, some .boolean, [], 6, 1),
  (yX6_add, cX6_add, 3, none, [], 6, 3)]
def MTB_5 : List MRow := [(yX6_prefers, cX6_prefers, 3, some .boolean, [], 6, 3),
  (yX6_speaksFor, cX6_speaksFor, 4, some .boolean, [], 6, 3),
  (yX7_init, cX7_init, 1, none, [], 7, 1),
  (yX7_sets, cX7_sets, 1, some .int, [], 7, 1),
  (yX7_all, cX7_all, 1, some .long, [], 7, 1),
  (yX7_resolve, cX7_resolve, 7, none, [], 7, 3),
  (yX7_readConstants, cX7_readConstants, 4, none, [], 7, 2),
  (yX7_resolveInstance, cX7_resolveInstance, 3, none, [], 7, 3),
  (yX7_sort, cX7_sort, 4, none, [], 7, 3),
  (yX7_atomsOf, cX7_atomsOf, 6, some .int, [], 7, 3),
  (yX7_weigh, cX7_weigh, 7, none, [], 7, 3),
  (yX7_addWeight, cX7_addWeight, 5, none, [], 7, 3),
  (yX7_weightOf, cX7_weightOf, 4, some .long, [], 7, 3),
  (yX7_fillParts, cX7_fillParts, 6, none, [], 7, 1),
  (yX7_fillHolding, cX7_fillHolding, 4, none, [], 7, 1),
  (yX7_brokenSums, cX7_brokenSums, 7, some .long, [], 7, 3),
  (yX7_sumHolds, cX7_sumHolds, 7, some .boolean, [], 7, 3),
  (yX7_ruleAt, cX7_ruleAt, 2, some (.object "StableFoundry$Rule"), [], 7, 2),
  (yX7_headOf, cX7_headOf, 2, some .int, [], 7, 2),
  (yX7_needsOf, cX7_needsOf, 2, some .int, [], 7, 2),
  (yX7_heldIn, cX7_heldIn, 2, some .long, [], 7, 2),
  (yX7_headedIn, cX7_headedIn, 2, some .long, [], 7, 2),
  (yX7_unsatisfiedIn, cX7_unsatisfiedIn, 9, some .long, [], 7, 2),
  (yX7_isWellChosen, cX7_isWellChosen, 5, some .boolean, [], 7, 3),
  (yX7_unsatisfiedIn_, cX7_unsatisfiedIn_, 5, some .long, [], 7, 3),
  (yX7_costOf, cX7_costOf, 9, some .long, [], 7, 3),
  (yX7_supports, cX7_supports, 5, some .boolean, [], 7, 4),
  (yX7_founds, cX7_founds, 5, some .boolean, [], 7, 4),
  (yX7_reachedFrom, cX7_reachedFrom, 4, some .int, [], 7, 2),
  (yX7_needsOfHeads, cX7_needsOfHeads, 4, some .int, [], 7, 2),
  (yX8_init, cX8_init, 1, none, [], 8, 1),
  (yX8_clear, cX8_clear, 1, none, [], 8, 1),
  (yX8_limit, cX8_limit, 4, none, [], 8, 4),
  (yX8_lookThrough, cX8_lookThrough, 1, none, [], 8, 1),
  (yX8_variablesOf, cX8_variablesOf, 2, some .int, [], 8, 2),
  (yX8_isSafe, cX8_isSafe, 1, some .boolean, [], 8, 1),
  (yX8_lowest, cX8_lowest, 2, some .int, [], 8, 2),
  (yX8_highest, cX8_highest, 3, some .int, [], 8, 2),
  (yX8_isLimited, cX8_isLimited, 2, some .boolean, [], 8, 2),
  (yX9_init, cX9_init, 4, none, [], 9, 4)]
def MTB_6 : List MRow := [(yX9_isAnswer, cX9_isAnswer, 2, some .boolean, [], 9, 2),
  (yX9_isLeast, cX9_isLeast, 5, some .boolean, [], 9, 2),
  (yX9_sparedFor, cX9_sparedFor, 9, some .long, [], 9, 2),
  (yX9_hinderedWithout, cX9_hinderedWithout, 2, some .long, [], 9, 1),
  (yX9_reconciledWithout, cX9_reconciledWithout, 10, some .long, [], 9, 3),
  (yX9_isUnfounded, cX9_isUnfounded, 4, some .boolean, [], 9, 3),
  (yX10_init, cX10_init, 1, none, [], 10, 1),
  (yX10_clear, cX10_clear, 1, none, [], 10, 1),
  (yX10_addElement, cX10_addElement, 5, none, [], 10, 5),
  (yX10_weightAt, cX10_weightAt, 2, some .int, [], 10, 2),
  (yL_predicate, cL_predicate, 4, some .int, [(0, 9, 12, 13), (0, 9, 15, 15)], 13, 3),
  (yL_head, cL_head, 6, some .int, [(0, 12, 15, 21), (0, 12, 19, 13), (0, 12, 23, 15)], 13, 5),
  (yL_choice, cL_choice, 4, some .int, [(0, 6, 9, 13), (0, 6, 12, 15)], 13, 3),
  (yL_weak, cL_weak, 4, some .int, [(0, 6, 9, 21), (0, 6, 12, 15)], 13, 3),
  (yL_difference, cL_difference, 5, some .int, [(0, 7, 10, 21), (0, 7, 14, 13), (0, 7, 18, 15)], 13, 4),
  (yL_body, cL_body, 7, some .int, [(0, 14, 17, 21), (0, 14, 21, 13), (0, 14, 25, 15)], 13, 6),
  (yL_compare, cL_compare, 6, some .int, [(0, 12, 15, 13), (0, 12, 19, 15)], 13, 5),
  (yL_interval, cL_interval, 5, some .int, [(0, 7, 10, 13)], 13, 4),
  (yL_sum, cL_sum, 4, some .int, [(0, 6, 9, 13), (0, 6, 12, 15)], 13, 3),
  (yL_element, cL_element, 7, some .int, [(0, 14, 17, 21), (0, 14, 21, 13), (0, 14, 25, 15)], 13, 6),
  (yL_enter, cL_enter, 3, some .int, [(0, 8, 11, 13), (0, 8, 14, 15)], 13, 2),
  (yL_external, cL_external, 6, some .int, [(0, 12, 15, 21), (0, 12, 19, 13), (0, 12, 23, 15)], 13, 5),
  (yL_assign, cL_assign, 5, some .int, [(0, 10, 13, 21), (0, 10, 17, 13), (0, 10, 21, 15)], 13, 4),
  (yL_prefer, cL_prefer, 5, some .int, [(0, 10, 13, 21), (0, 10, 17, 13), (0, 10, 21, 15)], 13, 4),
  (yL_atom, cL_atom, 6, some .int, [(0, 12, 15, 21), (0, 12, 19, 13)], 13, 5),
  (yL_instance, cL_instance, 4, some .int, [(0, 9, 12, 21)], 13, 3),
  (yL_answer, cL_answer, 4, some .int, [(0, 9, 12, 21)], 13, 3),
  (yL_assuming, cL_assuming, 5, some .int, [(0, 10, 13, 13)], 13, 4),
  (yL_conflict, cL_conflict, 5, some .int, [(0, 10, 13, 13)], 13, 4),
  (yL_cost, cL_cost, 5, some .int, [(0, 9, 12, 21)], 13, 4),
  (yL_rank, cL_rank, 4, some .int, [(0, 9, 12, 21)], 13, 3),
  (yL_projected, cL_projected, 4, some .int, [(0, 9, 12, 13)], 13, 3),
  (yL_value, cL_value, 5, some .int, [(0, 10, 13, 21)], 13, 4),
  (yL_support, cL_support, 5, some .int, [(0, 10, 13, 21)], 13, 4),
  (yL_bar, cL_bar, 4, some .int, [(0, 9, 12, 21)], 13, 3),
  (yL_loop, cL_loop, 4, some .int, [(0, 9, 12, 21)], 13, 3),
  (yL_unfounded, cL_unfounded, 4, some .int, [(0, 9, 12, 13)], 13, 3),
  (x, code, 8, some .boolean, [], 13, 1),
  (yJ6_bitCount_0f7a4, cJ6_bitCount_0f7a4, 1, some .int, [], 14, 1),
  (yJ13_bitCount_95d88, cJ13_bitCount_95d88, 2, some .int, [], 15, 1)]
def MTB_7 : List MRow := [(yJ13_compare_74951, cJ13_compare_74951, 4, some .int, [], 15, 2),
  (yJ9_max_7cf53, cJ9_max_7cf53, 2, some .int, [], 16, 2),
  (yJ9_min_7cf53, cJ9_min_7cf53, 2, some .int, [], 16, 2)]
def MTB : List MRow := MTB_0 ++ (MTB_1 ++ (MTB_2 ++ (MTB_3 ++ (MTB_4 ++ (MTB_5 ++ (MTB_6 ++ (MTB_7)))))))
def mrow (mi : Nat) : MRow := MTB.getD mi (⟨"", "", ""⟩, .empty, 0, none, [], 99, 0)
def nAl : List Nat := [1, 2, 4, 3, 3, 4, 5, 4, 4, 3, 5, 1, 1, 4, 3, 3, 4, 1, 1, 2, 1, 1, 2, 3, 3, 3, 2, 2, 1, 1, 3, 3, 2, 2, 2, 5, 3, 2, 4, 1, 1, 1, 2, 2, 2, 1, 2, 1, 1, 3, 2, 2, 2, 1, 3, 2, 2, 1, 1, 1, 1, 2, 3, 2, 2, 2, 2, 1, 5, 5, 1, 4, 3, 1, 3, 4, 5, 4, 4, 3, 5, 1, 1, 3, 2, 1, 1, 3, 3, 3, 1, 1, 1, 2, 4, 2, 3, 3, 2, 1, 1, 1, 1, 2, 2, 1, 4, 4, 3, 3, 4, 1, 1, 2, 2, 3, 3, 1, 1, 1, 2, 3, 2, 2, 2, 1, 2, 1, 1, 2, 3, 3, 3, 3, 3, 3, 2, 3, 2, 2, 1, 1, 3, 3, 3, 2, 2, 2, 3, 2, 1, 2, 3, 2, 2, 1, 4, 1, 2, 3, 3, 1, 1, 1, 1, 1, 3, 1, 2, 2, 2, 1, 2, 2, 2, 3, 2, 1, 1, 2, 2, 2, 2, 1, 1, 3, 2, 2, 2, 2, 3, 4, 3, 3, 2, 1, 1, 1, 1, 3, 3, 3, 1, 1, 1, 3, 2, 3, 3, 3, 3, 3, 3, 1, 1, 3, 3, 2, 2, 2, 2, 2, 2, 3, 3, 3, 4, 4, 2, 2, 1, 1, 4, 1, 2, 1, 2, 2, 2, 4, 2, 2, 2, 1, 3, 3, 1, 1, 5, 2, 3, 5, 3, 3, 4, 6, 5, 4, 3, 6, 2, 5, 4, 4, 5, 3, 3, 4, 4, 4, 3, 3, 4, 4, 3, 3, 3, 1, 1, 1, 2, 2, 2]
def mCl : List Nat := [11, 11, 11, 11, 11, 11, 11, 11, 11, 11, 11, 11, 11, 11, 11, 11, 11, 11, 11, 11, 11, 11, 11, 11, 11, 11, 11, 11, 11, 11, 11, 11, 11, 11, 11, 11, 11, 11, 11, 11, 11, 11, 11, 11, 11, 11, 11, 11, 11, 11, 11, 11, 11, 11, 11, 11, 11, 11, 11, 12, 12, 12, 12, 12, 12, 12, 12, 12, 12, 12, 12, 12, 12, 12, 12, 12, 12, 12, 12, 12, 12, 12, 12, 12, 12, 12, 12, 12, 12, 12, 12, 12, 12, 12, 12, 12, 12, 12, 12, 12, 12, 12, 12, 12, 12, 12, 12, 12, 12, 12, 12, 12, 12, 12, 12, 12, 12, 12, 12, 12, 12, 12, 12, 12, 12, 12, 12, 12, 12, 12, 12, 12, 12, 12, 12, 12, 12, 12, 12, 12, 12, 12, 12, 12, 12, 12, 12, 12, 12, 12, 0, 0, 0, 0, 1, 1, 1, 1, 1, 1, 1, 1, 1, 1, 1, 1, 1, 1, 1, 1, 1, 2, 2, 2, 2, 2, 2, 3, 3, 3, 3, 3, 3, 4, 4, 4, 4, 4, 4, 4, 4, 4, 4, 4, 4, 5, 5, 6, 6, 6, 6, 6, 7, 7, 7, 7, 7, 7, 7, 7, 7, 7, 7, 7, 7, 7, 7, 7, 7, 7, 7, 7, 7, 7, 7, 7, 7, 7, 7, 7, 8, 8, 8, 8, 8, 8, 8, 8, 8, 9, 9, 9, 9, 9, 9, 9, 10, 10, 10, 10, 13, 13, 13, 13, 13, 13, 13, 13, 13, 13, 13, 13, 13, 13, 13, 13, 13, 13, 13, 13, 13, 13, 13, 13, 13, 13, 13, 13, 14, 15, 15, 16, 16]
def mLl : List Nat := [1, 2, 4, 3, 3, 4, 5, 4, 4, 3, 5, 1, 1, 6, 4, 3, 4, 1, 2, 2, 1, 1, 2, 5, 4, 4, 4, 2, 3, 3, 4, 5, 5, 5, 4, 5, 3, 2, 4, 1, 1, 1, 2, 2, 2, 3, 4, 1, 2, 3, 3, 5, 3, 2, 5, 2, 3, 2, 2, 2, 1, 2, 3, 2, 2, 2, 2, 1, 6, 6, 1, 6, 3, 1, 3, 5, 8, 5, 4, 3, 8, 2, 1, 7, 3, 3, 3, 3, 3, 6, 6, 2, 1, 3, 5, 4, 4, 4, 6, 4, 1, 1, 5, 5, 7, 2, 4, 6, 5, 3, 4, 1, 1, 2, 2, 3, 6, 3, 3, 3, 6, 7, 4, 7, 2, 2, 2, 1, 1, 2, 4, 5, 9, 6, 3, 8, 3, 6, 5, 6, 3, 3, 4, 6, 5, 3, 5, 5, 5, 4, 1, 2, 10, 3, 2, 1, 4, 1, 2, 3, 3, 1, 1, 1, 1, 1, 4, 1, 4, 5, 3, 1, 2, 2, 2, 4, 2, 1, 2, 2, 2, 4, 5, 1, 1, 3, 2, 2, 3, 2, 7, 6, 5, 5, 3, 1, 1, 1, 1, 3, 3, 4, 1, 1, 1, 7, 4, 3, 4, 6, 7, 5, 4, 6, 4, 7, 7, 2, 2, 2, 2, 2, 9, 5, 5, 9, 5, 5, 4, 4, 1, 1, 4, 1, 2, 1, 2, 3, 2, 4, 2, 5, 9, 2, 10, 4, 1, 1, 5, 2, 4, 6, 4, 4, 5, 7, 6, 5, 4, 7, 3, 6, 5, 5, 6, 4, 4, 5, 5, 5, 4, 4, 5, 5, 4, 4, 4, 8, 1, 2, 4, 2, 2]
def nA (mi : Nat) : Nat := nAl.getD mi 0
def mC (mi : Nat) : Nat := mCl.getD mi 99
def mL (mi : Nat) : Nat := mLl.getD mi 0
