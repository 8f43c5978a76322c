def RX0 : String := "CodeLifter$Blocks"
def TX0 : u_T := fun k => match k with
  | 0 => ("CodeLifter$Blocks", "listing", "LCodeLifter$Listing;", true)
  | 1 => ("CodeLifter$Blocks", "size", "I", false)
  | 2 => ("CodeLifter$Blocks", "first", "[I", true)
  | 3 => ("CodeLifter$Blocks", "last", "[I", true)
  | 4 => ("CodeLifter$Blocks", "of", "[I", true)
  | 5 => ("CodeLifter$Blocks", "onward", "[I", true)
  | 6 => ("CodeLifter$Blocks", "otherwise", "[I", true)
  | 7 => ("CodeLifter$Blocks", "catcher", "[I", true)
  | 8 => ("CodeLifter$Blocks", "nexts", "[J", true)
  | 9 => ("CodeLifter$Blocks", "edges", "I", false)
  | 10 => ("CodeLifter$Blocks", "firstEdge", "[I", true)
  | 11 => ("CodeLifter$Blocks", "source", "[I", true)
  | 12 => ("CodeLifter$Blocks", "target", "[I", true)
  | 13 => ("CodeLifter$Blocks", "throwing", "[Z", true)
  | 14 => ("CodeLifter$Blocks", "names", "I", false)
  | _ => ("CodeLifter$Blocks", "isCut", "[Z", true)
def tyX0 : Nat → FieldType := fun k => match k with
  | 0 => .object "CodeLifter$Listing"
  | 1 => .int
  | 2 => .array .int
  | 3 => .array .int
  | 4 => .array .int
  | 5 => .array .int
  | 6 => .array .int
  | 7 => .array .int
  | 8 => .array .long
  | 9 => .int
  | 10 => .array .int
  | 11 => .array .int
  | 12 => .array .int
  | 13 => .array .boolean
  | 14 => .int
  | _ => .array .boolean
abbrev wsX00 : List Cond := u_ws RX0 TX0 16
theorem nmX0 : ∀ a, a < 16 → ∀ b, b < 16 → a ≠ b → (TX0 a).2.1 ≠ (TX0 b).2.1 := by decide +kernel
theorem tyX0_ok : ∀ k, k < 16 → parseFieldDescriptor (TX0 k).2.2.1 = some (tyX0 k) := by decide +kernel
abbrev cX0_init : ByteArray := prog_2_method_1_code
def yX0_init : MethodName := ⟨RX0, "<init>", "(LCodeLifter$Listing;)V"⟩
abbrev cX0_cut : ByteArray := prog_2_method_2_code
def yX0_cut : MethodName := ⟨RX0, "cut", "()V"⟩
abbrev cX0_markCuts : ByteArray := prog_2_method_3_code
def yX0_markCuts : MethodName := ⟨RX0, "markCuts", "()V"⟩
abbrev cX0_join : ByteArray := prog_2_method_4_code
def yX0_join : MethodName := ⟨RX0, "join", "(I)V"⟩
abbrev cX0_catcherOf : ByteArray := prog_2_method_5_code
def yX0_catcherOf : MethodName := ⟨RX0, "catcherOf", "(I)I"⟩
abbrev cX0_lead : ByteArray := prog_2_method_6_code
def yX0_lead : MethodName := ⟨RX0, "lead", "(IIZ)V"⟩
abbrev cX0_edgeTo : ByteArray := prog_2_method_7_code
def yX0_edgeTo : MethodName := ⟨RX0, "edgeTo", "(II)I"⟩
abbrev cX0_leadingTo : ByteArray := prog_2_method_8_code
def yX0_leadingTo : MethodName := ⟨RX0, "leadingTo", "(I)J"⟩
abbrev cX0_way : ByteArray := prog_2_method_9_code
def yX0_way : MethodName := ⟨RX0, "way", "(II)I"⟩
def RX1 : String := "CodeLifter$Lifted"
def TX1 : u_T := fun k => match k with
  | 0 => ("CodeLifter$Lifted", "listing", "LCodeLifter$Listing;", true)
  | 1 => ("CodeLifter$Lifted", "blocks", "LCodeLifter$Blocks;", true)
  | 2 => ("CodeLifter$Lifted", "pool", "LCodeLifter$Pool;", true)
  | 3 => ("CodeLifter$Lifted", "size", "I", false)
  | 4 => ("CodeLifter$Lifted", "kind", "[I", true)
  | 5 => ("CodeLifter$Lifted", "which", "[I", true)
  | 6 => ("CodeLifter$Lifted", "expression", "[I", true)
  | 7 => ("CodeLifter$Lifted", "first", "[I", true)
  | 8 => ("CodeLifter$Lifted", "test", "[I", true)
  | 9 => ("CodeLifter$Lifted", "fresh", "I", false)
  | 10 => ("CodeLifter$Lifted", "unlike", "I", false)
  | 11 => ("CodeLifter$Lifted", "stack", "[I", true)
  | 12 => ("CodeLifter$Lifted", "height", "I", false)
  | _ => ("CodeLifter$Lifted", "isTold", "[Z", true)
def tyX1 : Nat → FieldType := fun k => match k with
  | 0 => .object "CodeLifter$Listing"
  | 1 => .object "CodeLifter$Blocks"
  | 2 => .object "CodeLifter$Pool"
  | 3 => .int
  | 4 => .array .int
  | 5 => .array .int
  | 6 => .array .int
  | 7 => .array .int
  | 8 => .array .int
  | 9 => .int
  | 10 => .int
  | 11 => .array .int
  | 12 => .int
  | _ => .array .boolean
abbrev wsX10 : List Cond := u_ws RX1 TX1 14
theorem nmX1 : ∀ a, a < 14 → ∀ b, b < 14 → a ≠ b → (TX1 a).2.1 ≠ (TX1 b).2.1 := by decide +kernel
theorem tyX1_ok : ∀ k, k < 14 → parseFieldDescriptor (TX1 k).2.2.1 = some (tyX1 k) := by decide +kernel
abbrev cX1_init : ByteArray := prog_3_method_1_code
def yX1_init : MethodName := ⟨RX1, "<init>", "(LCodeLifter$Listing;LCodeLifter$Blocks;LCodeLifter$Pool;)V"⟩
abbrev cX1_lift : ByteArray := prog_3_method_2_code
def yX1_lift : MethodName := ⟨RX1, "lift", "()V"⟩
abbrev cX1_step : ByteArray := prog_3_method_3_code
def yX1_step : MethodName := ⟨RX1, "step", "(II)V"⟩
abbrev cX1_operate : ByteArray := prog_3_method_4_code
def yX1_operate : MethodName := ⟨RX1, "operate", "(I)V"⟩
abbrev cX1_state : ByteArray := prog_3_method_5_code
def yX1_state : MethodName := ⟨RX1, "state", "(III)V"⟩
abbrev cX1_spill : ByteArray := prog_3_method_6_code
def yX1_spill : MethodName := ⟨RX1, "spill", "(I)V"⟩
abbrev cX1_putAside : ByteArray := prog_3_method_7_code
def yX1_putAside : MethodName := ⟨RX1, "putAside", "(I)I"⟩
abbrev cX1_add : ByteArray := prog_3_method_8_code
def yX1_add : MethodName := ⟨RX1, "add", "(III)V"⟩
abbrev cX1_drop : ByteArray := prog_3_method_9_code
def yX1_drop : MethodName := ⟨RX1, "drop", "(I)V"⟩
abbrev cX1_twice : ByteArray := prog_3_method_10_code
def yX1_twice : MethodName := ⟨RX1, "twice", "()V"⟩
abbrev cX1_exchange : ByteArray := prog_3_method_11_code
def yX1_exchange : MethodName := ⟨RX1, "exchange", "()V"⟩
abbrev cX1_handOver : ByteArray := prog_3_method_12_code
def yX1_handOver : MethodName := ⟨RX1, "handOver", "(I)V"⟩
abbrev cX1_isNeededAbove : ByteArray := prog_3_method_13_code
def yX1_isNeededAbove : MethodName := ⟨RX1, "isNeededAbove", "(II)Z"⟩
abbrev cX1_replaceAbove : ByteArray := prog_3_method_14_code
def yX1_replaceAbove : MethodName := ⟨RX1, "replaceAbove", "(III)V"⟩
abbrev cX1_push : ByteArray := prog_3_method_15_code
def yX1_push : MethodName := ⟨RX1, "push", "(I)V"⟩
abbrev cX1_pop : ByteArray := prog_3_method_16_code
def yX1_pop : MethodName := ⟨RX1, "pop", "()I"⟩
abbrev cX1_countUnlike : ByteArray := prog_3_method_17_code
def yX1_countUnlike : MethodName := ⟨RX1, "countUnlike", "()V"⟩
abbrev cX1_tellWithin : ByteArray := prog_3_method_18_code
def yX1_tellWithin : MethodName := ⟨RX1, "tellWithin", "(I)V"⟩
abbrev cX1_mostParts : ByteArray := prog_3_method_19_code
def yX1_mostParts : MethodName := ⟨RX1, "mostParts", "()I"⟩
abbrev cX1_fullest : ByteArray := prog_3_method_20_code
def yX1_fullest : MethodName := ⟨RX1, "fullest", "()I"⟩
def RX2 : String := "CodeLifter$Lines"
def TX2 : u_T := fun k => match k with
  | 0 => ("CodeLifter$Lines", "blocks", "LCodeLifter$Blocks;", true)
  | 1 => ("CodeLifter$Lines", "shape", "LCodeLifter$Shape;", true)
  | 2 => ("CodeLifter$Lines", "lifted", "LCodeLifter$Lifted;", true)
  | 3 => ("CodeLifter$Lines", "size", "I", false)
  | 4 => ("CodeLifter$Lines", "kind", "[I", true)
  | 5 => ("CodeLifter$Lines", "block", "[I", true)
  | 6 => ("CodeLifter$Lines", "depth", "[I", true)
  | 7 => ("CodeLifter$Lines", "link", "[I", true)
  | 8 => ("CodeLifter$Lines", "label", "[I", true)
  | 9 => ("CodeLifter$Lines", "loopStart", "[I", true)
  | 10 => ("CodeLifter$Lines", "blockEnd", "[I", true)
  | 11 => ("CodeLifter$Lines", "openers", "[I", true)
  | _ => ("CodeLifter$Lines", "nest", "I", false)
def tyX2 : Nat → FieldType := fun k => match k with
  | 0 => .object "CodeLifter$Blocks"
  | 1 => .object "CodeLifter$Shape"
  | 2 => .object "CodeLifter$Lifted"
  | 3 => .int
  | 4 => .array .int
  | 5 => .array .int
  | 6 => .array .int
  | 7 => .array .int
  | 8 => .array .int
  | 9 => .array .int
  | 10 => .array .int
  | 11 => .array .int
  | _ => .int
abbrev wsX20 : List Cond := u_ws RX2 TX2 13
theorem nmX2 : ∀ a, a < 13 → ∀ b, b < 13 → a ≠ b → (TX2 a).2.1 ≠ (TX2 b).2.1 := by decide +kernel
theorem tyX2_ok : ∀ k, k < 13 → parseFieldDescriptor (TX2 k).2.2.1 = some (tyX2 k) := by decide +kernel
abbrev cX2_init : ByteArray := prog_4_method_1_code
def yX2_init : MethodName := ⟨RX2, "<init>", "(LCodeLifter$Blocks;LCodeLifter$Shape;LCodeLifter$Lifted;)V"⟩
abbrev cX2_tellAll : ByteArray := prog_4_method_2_code
def yX2_tellAll : MethodName := ⟨RX2, "tellAll", "()V"⟩
abbrev cX2_tell : ByteArray := prog_4_method_3_code
def yX2_tell : MethodName := ⟨RX2, "tell", "(II)V"⟩
abbrev cX2_isMergeUnder : ByteArray := prog_4_method_4_code
def yX2_isMergeUnder : MethodName := ⟨RX2, "isMergeUnder", "(II)Z"⟩
abbrev cX2_tellStatements : ByteArray := prog_4_method_5_code
def yX2_tellStatements : MethodName := ⟨RX2, "tellStatements", "(I)V"⟩
abbrev cX2_tellEnd : ByteArray := prog_4_method_6_code
def yX2_tellEnd : MethodName := ⟨RX2, "tellEnd", "(II)V"⟩
abbrev cX2_goOn : ByteArray := prog_4_method_7_code
def yX2_goOn : MethodName := ⟨RX2, "goOn", "(III)V"⟩
abbrev cX2_openLine : ByteArray := prog_4_method_8_code
def yX2_openLine : MethodName := ⟨RX2, "openLine", "(II)V"⟩
abbrev cX2_closeLine : ByteArray := prog_4_method_9_code
def yX2_closeLine : MethodName := ⟨RX2, "closeLine", "(I)V"⟩
abbrev cX2_add : ByteArray := prog_4_method_10_code
def yX2_add : MethodName := ⟨RX2, "add", "(III)V"⟩
abbrev cX2_match : ByteArray := prog_4_method_11_code
def yX2_match : MethodName := ⟨RX2, "match", "()V"⟩
abbrev cX2_mark : ByteArray := prog_4_method_12_code
def yX2_mark : MethodName := ⟨RX2, "mark", "(I)V"⟩
abbrev cX2_leaveOut : ByteArray := prog_4_method_13_code
def yX2_leaveOut : MethodName := ⟨RX2, "leaveOut", "()V"⟩
abbrev cX2_endsAnyway : ByteArray := prog_4_method_14_code
def yX2_endsAnyway : MethodName := ⟨RX2, "endsAnyway", "(I)Z"⟩
abbrev cX2_close : ByteArray := prog_4_method_15_code
def yX2_close : MethodName := ⟨RX2, "close", "()V"⟩
abbrev cX2_whereCaught : ByteArray := prog_4_method_16_code
def yX2_whereCaught : MethodName := ⟨RX2, "whereCaught", "(I)I"⟩
abbrev cX2_deepest : ByteArray := prog_4_method_17_code
def yX2_deepest : MethodName := ⟨RX2, "deepest", "()I"⟩
abbrev cX2_ofKind : ByteArray := prog_4_method_18_code
def yX2_ofKind : MethodName := ⟨RX2, "ofKind", "(I)I"⟩
def RX3 : String := "CodeLifter$Listing"
def TX3 : u_T := fun k => match k with
  | 0 => ("CodeLifter$Listing", "size", "I", false)
  | 1 => ("CodeLifter$Listing", "handlers", "I", false)
  | 2 => ("CodeLifter$Listing", "sign", "[I", true)
  | 3 => ("CodeLifter$Listing", "number", "[I", true)
  | 4 => ("CodeLifter$Listing", "depth", "[I", true)
  | 5 => ("CodeLifter$Listing", "from", "[I", true)
  | 6 => ("CodeLifter$Listing", "to", "[I", true)
  | _ => ("CodeLifter$Listing", "goal", "[I", true)
def tyX3 : Nat → FieldType := fun k => match k with
  | 0 => .int
  | 1 => .int
  | 2 => .array .int
  | 3 => .array .int
  | 4 => .array .int
  | 5 => .array .int
  | 6 => .array .int
  | _ => .array .int
abbrev wsX30 : List Cond := u_ws RX3 TX3 8
theorem nmX3 : ∀ a, a < 8 → ∀ b, b < 8 → a ≠ b → (TX3 a).2.1 ≠ (TX3 b).2.1 := by decide +kernel
theorem tyX3_ok : ∀ k, k < 8 → parseFieldDescriptor (TX3 k).2.2.1 = some (tyX3 k) := by decide +kernel
abbrev cX3_init : ByteArray := prog_5_method_1_code
def yX3_init : MethodName := ⟨RX3, "<init>", "()V"⟩
abbrev cX3_copy : ByteArray := prog_5_method_2_code
def yX3_copy : MethodName := ⟨RX3, "copy", "(LCodeLifter$Listing;)V"⟩
abbrev cX3_judge : ByteArray := prog_5_method_3_code
def yX3_judge : MethodName := ⟨RX3, "judge", "()I"⟩
abbrev cX3_leadsInside : ByteArray := prog_5_method_4_code
def yX3_leadsInside : MethodName := ⟨RX3, "leadsInside", "()Z"⟩
abbrev cX3_lowestOpen : ByteArray := prog_5_method_5_code
def yX3_lowestOpen : MethodName := ⟨RX3, "lowestOpen", "(J)I"⟩
abbrev cX3_goOver : ByteArray := prog_5_method_6_code
def yX3_goOver : MethodName := ⟨RX3, "goOver", "(I)I"⟩
abbrev cX3_arrive : ByteArray := prog_5_method_7_code
def yX3_arrive : MethodName := ⟨RX3, "arrive", "(II)Z"⟩
abbrev cX3_depthBehind : ByteArray := prog_5_method_8_code
def yX3_depthBehind : MethodName := ⟨RX3, "depthBehind", "(I)I"⟩
abbrev cX3_goesOn : ByteArray := prog_5_method_9_code
def yX3_goesOn : MethodName := ⟨RX3, "goesOn", "(I)Z"⟩
abbrev cX3_ends : ByteArray := prog_5_method_10_code
def yX3_ends : MethodName := ⟨RX3, "ends", "(I)Z"⟩
abbrev cX3_goesElsewhere : ByteArray := prog_5_method_11_code
def yX3_goesElsewhere : MethodName := ⟨RX3, "goesElsewhere", "(I)Z"⟩
abbrev cX3_chooses : ByteArray := prog_5_method_12_code
def yX3_chooses : MethodName := ⟨RX3, "chooses", "(I)Z"⟩
abbrev cX3_canThrow : ByteArray := prog_5_method_13_code
def yX3_canThrow : MethodName := ⟨RX3, "canThrow", "(I)Z"⟩
abbrev cX3_handlerOf : ByteArray := prog_5_method_14_code
def yX3_handlerOf : MethodName := ⟨RX3, "handlerOf", "(I)I"⟩
abbrev cX3_highest : ByteArray := prog_5_method_15_code
def yX3_highest : MethodName := ⟨RX3, "highest", "()I"⟩
abbrev cX3_needs : ByteArray := prog_5_method_16_code
def yX3_needs : MethodName := ⟨RX3, "needs", "(I)I"⟩
abbrev cX3_gives : ByteArray := prog_5_method_17_code
def yX3_gives : MethodName := ⟨RX3, "gives", "(I)I"⟩
def RX4 : String := "CodeLifter$Liveness"
def TX4 : u_T := fun k => match k with
  | 0 => ("CodeLifter$Liveness", "listing", "LCodeLifter$Listing;", true)
  | 1 => ("CodeLifter$Liveness", "blocks", "LCodeLifter$Blocks;", true)
  | 2 => ("CodeLifter$Liveness", "begin", "[I", true)
  | 3 => ("CodeLifter$Liveness", "behind", "[I", true)
  | _ => ("CodeLifter$Liveness", "dead", "J", false)
def tyX4 : Nat → FieldType := fun k => match k with
  | 0 => .object "CodeLifter$Listing"
  | 1 => .object "CodeLifter$Blocks"
  | 2 => .array .int
  | 3 => .array .int
  | _ => .long
abbrev wsX40 : List Cond := u_ws RX4 TX4 5
theorem nmX4 : ∀ a, a < 5 → ∀ b, b < 5 → a ≠ b → (TX4 a).2.1 ≠ (TX4 b).2.1 := by decide +kernel
theorem tyX4_ok : ∀ k, k < 5 → parseFieldDescriptor (TX4 k).2.2.1 = some (tyX4 k) := by decide +kernel
abbrev cX4_init : ByteArray := prog_6_method_1_code
def yX4_init : MethodName := ⟨RX4, "<init>", "(LCodeLifter$Listing;LCodeLifter$Blocks;)V"⟩
abbrev cX4_flow : ByteArray := prog_6_method_2_code
def yX4_flow : MethodName := ⟨RX4, "flow", "()V"⟩
abbrev cX4_flowThrough : ByteArray := prog_6_method_3_code
def yX4_flowThrough : MethodName := ⟨RX4, "flowThrough", "(I)V"⟩
def RX5 : String := "CodeLifter$Machine"
def TX5 : u_T := fun k => match k with
  | 0 => ("CodeLifter$Machine", "listing", "LCodeLifter$Listing;", true)
  | 1 => ("CodeLifter$Machine", "blocks", "LCodeLifter$Blocks;", true)
  | 2 => ("CodeLifter$Machine", "pool", "LCodeLifter$Pool;", true)
  | 3 => ("CodeLifter$Machine", "lifted", "LCodeLifter$Lifted;", true)
  | 4 => ("CodeLifter$Machine", "lines", "LCodeLifter$Lines;", true)
  | 5 => ("CodeLifter$Machine", "variable", "[I", true)
  | 6 => ("CodeLifter$Machine", "slot", "[I", true)
  | 7 => ("CodeLifter$Machine", "fresh", "[I", true)
  | 8 => ("CodeLifter$Machine", "height", "I", false)
  | 9 => ("CodeLifter$Machine", "seed", "I", false)
  | 10 => ("CodeLifter$Machine", "limit", "I", false)
  | 11 => ("CodeLifter$Machine", "isThrown", "Z", false)
  | 12 => ("CodeLifter$Machine", "thrown", "I", false)
  | 13 => ("CodeLifter$Machine", "ending", "I", false)
  | 14 => ("CodeLifter$Machine", "entered", "I", false)
  | 15 => ("CodeLifter$Machine", "inputs", "I", false)
  | 16 => ("CodeLifter$Machine", "outputs", "I", false)
  | 17 => ("CodeLifter$Machine", "told", "I", false)
  | 18 => ("CodeLifter$Machine", "asked", "I", false)
  | _ => ("CodeLifter$Machine", "wanted", "I", false)
def tyX5 : Nat → FieldType := fun k => match k with
  | 0 => .object "CodeLifter$Listing"
  | 1 => .object "CodeLifter$Blocks"
  | 2 => .object "CodeLifter$Pool"
  | 3 => .object "CodeLifter$Lifted"
  | 4 => .object "CodeLifter$Lines"
  | 5 => .array .int
  | 6 => .array .int
  | 7 => .array .int
  | 8 => .int
  | 9 => .int
  | 10 => .int
  | 11 => .boolean
  | 12 => .int
  | 13 => .int
  | 14 => .int
  | 15 => .int
  | 16 => .int
  | 17 => .int
  | 18 => .int
  | _ => .int
abbrev wsX50 : List Cond := u_ws RX5 TX5 20
theorem nmX5 : ∀ a, a < 20 → ∀ b, b < 20 → a ≠ b → (TX5 a).2.1 ≠ (TX5 b).2.1 := by decide +kernel
theorem tyX5_ok : ∀ k, k < 20 → parseFieldDescriptor (TX5 k).2.2.1 = some (tyX5 k) := by decide +kernel
abbrev cX5_init : ByteArray := prog_7_method_1_code
def yX5_init : MethodName := ⟨RX5, "<init>", "(LCodeLifter$Listing;LCodeLifter$Blocks;LCodeLifter$Pool;LCodeLifter$Lifted;LCodeLifter$Lines;)V"⟩
abbrev cX5_begin : ByteArray := prog_7_method_2_code
def yX5_begin : MethodName := ⟨RX5, "begin", "(IIIII)V"⟩
abbrev cX5_goThroughCode : ByteArray := prog_7_method_3_code
def yX5_goThroughCode : MethodName := ⟨RX5, "goThroughCode", "()V"⟩
abbrev cX5_obey : ByteArray := prog_7_method_4_code
def yX5_obey : MethodName := ⟨RX5, "obey", "(I)I"⟩
abbrev cX5_shuffle : ByteArray := prog_7_method_5_code
def yX5_shuffle : MethodName := ⟨RX5, "shuffle", "(I)V"⟩
abbrev cX5_operate : ByteArray := prog_7_method_6_code
def yX5_operate : MethodName := ⟨RX5, "operate", "(I)V"⟩
abbrev cX5_throwFrom : ByteArray := prog_7_method_7_code
def yX5_throwFrom : MethodName := ⟨RX5, "throwFrom", "(II)I"⟩
abbrev cX5_goThroughLines : ByteArray := prog_7_method_8_code
def yX5_goThroughLines : MethodName := ⟨RX5, "goThroughLines", "()V"⟩
abbrev cX5_follow : ByteArray := prog_7_method_9_code
def yX5_follow : MethodName := ⟨RX5, "follow", "(I)I"⟩
abbrev cX5_perform : ByteArray := prog_7_method_10_code
def yX5_perform : MethodName := ⟨RX5, "perform", "(III)I"⟩
abbrev cX5_catchIn : ByteArray := prog_7_method_11_code
def yX5_catchIn : MethodName := ⟨RX5, "catchIn", "(II)I"⟩
abbrev cX5_value : ByteArray := prog_7_method_12_code
def yX5_value : MethodName := ⟨RX5, "value", "(II)I"⟩
abbrev cX5_enter : ByteArray := prog_7_method_13_code
def yX5_enter : MethodName := ⟨RX5, "enter", "()Z"⟩
abbrev cX5_draw : ByteArray := prog_7_method_14_code
def yX5_draw : MethodName := ⟨RX5, "draw", "()I"⟩
abbrev cX5_tellOut : ByteArray := prog_7_method_15_code
def yX5_tellOut : MethodName := ⟨RX5, "tellOut", "(I)V"⟩
abbrev cX5_throwOut : ByteArray := prog_7_method_16_code
def yX5_throwOut : MethodName := ⟨RX5, "throwOut", "(I)V"⟩
abbrev cX5_push : ByteArray := prog_7_method_17_code
def yX5_push : MethodName := ⟨RX5, "push", "(I)V"⟩
abbrev cX5_pop : ByteArray := prog_7_method_18_code
def yX5_pop : MethodName := ⟨RX5, "pop", "()I"⟩
def RX6 : String := "CodeLifter$Pen"
def TX6 : u_T := fun k => match k with
  | 0 => ("CodeLifter$Pen", "pool", "LCodeLifter$Pool;", true)
  | 1 => ("CodeLifter$Pen", "lifted", "LCodeLifter$Lifted;", true)
  | 2 => ("CodeLifter$Pen", "lines", "LCodeLifter$Lines;", true)
  | 3 => ("CodeLifter$Pen", "signs", "[I", true)
  | _ => ("CodeLifter$Pen", "width", "I", false)
def tyX6 : Nat → FieldType := fun k => match k with
  | 0 => .object "CodeLifter$Pool"
  | 1 => .object "CodeLifter$Lifted"
  | 2 => .object "CodeLifter$Lines"
  | 3 => .array .int
  | _ => .int
abbrev wsX60 : List Cond := u_ws RX6 TX6 5
theorem nmX6 : ∀ a, a < 5 → ∀ b, b < 5 → a ≠ b → (TX6 a).2.1 ≠ (TX6 b).2.1 := by decide +kernel
theorem tyX6_ok : ∀ k, k < 5 → parseFieldDescriptor (TX6 k).2.2.1 = some (tyX6 k) := by decide +kernel
abbrev cX6_init : ByteArray := prog_8_method_1_code
def yX6_init : MethodName := ⟨RX6, "<init>", "(LCodeLifter$Pool;LCodeLifter$Lifted;LCodeLifter$Lines;)V"⟩
abbrev cX6_signAt : ByteArray := prog_8_method_2_code
def yX6_signAt : MethodName := ⟨RX6, "signAt", "(I)I"⟩
abbrev cX6_widthOf : ByteArray := prog_8_method_3_code
def yX6_widthOf : MethodName := ⟨RX6, "widthOf", "(I)I"⟩
abbrev cX6_widthOfLine : ByteArray := prog_8_method_4_code
def yX6_widthOfLine : MethodName := ⟨RX6, "widthOfLine", "(I)I"⟩
abbrev cX6_writeBlock : ByteArray := prog_8_method_5_code
def yX6_writeBlock : MethodName := ⟨RX6, "writeBlock", "(Ljava/lang/String;ILjava/lang/String;)V"⟩
abbrev cX6_writeStatement : ByteArray := prog_8_method_6_code
def yX6_writeStatement : MethodName := ⟨RX6, "writeStatement", "(I)V"⟩
abbrev cX6_writeExpression : ByteArray := prog_8_method_7_code
def yX6_writeExpression : MethodName := ⟨RX6, "writeExpression", "(II)V"⟩
abbrev cX6_writeName : ByteArray := prog_8_method_8_code
def yX6_writeName : MethodName := ⟨RX6, "writeName", "(II)V"⟩
abbrev cX6_writeNumber : ByteArray := prog_8_method_9_code
def yX6_writeNumber : MethodName := ⟨RX6, "writeNumber", "(I)V"⟩
abbrev cX6_write : ByteArray := prog_8_method_10_code
def yX6_write : MethodName := ⟨RX6, "write", "(Ljava/lang/String;)V"⟩
abbrev cX6_writeSign : ByteArray := prog_8_method_11_code
def yX6_writeSign : MethodName := ⟨RX6, "writeSign", "(I)V"⟩
def RX7 : String := "CodeLifter$Pool"
def TX7 : u_T := fun k => match k with
  | 0 => ("CodeLifter$Pool", "size", "I", false)
  | 1 => ("CodeLifter$Pool", "sign", "[I", true)
  | 2 => ("CodeLifter$Pool", "left", "[I", true)
  | 3 => ("CodeLifter$Pool", "right", "[I", true)
  | 4 => ("CodeLifter$Pool", "parts", "[I", true)
  | _ => ("CodeLifter$Pool", "traits", "[I", true)
def tyX7 : Nat → FieldType := fun k => match k with
  | 0 => .int
  | 1 => .array .int
  | 2 => .array .int
  | 3 => .array .int
  | 4 => .array .int
  | _ => .array .int
abbrev wsX70 : List Cond := u_ws RX7 TX7 6
theorem nmX7 : ∀ a, a < 6 → ∀ b, b < 6 → a ≠ b → (TX7 a).2.1 ≠ (TX7 b).2.1 := by decide +kernel
theorem tyX7_ok : ∀ k, k < 6 → parseFieldDescriptor (TX7 k).2.2.1 = some (tyX7 k) := by decide +kernel
abbrev cX7_init : ByteArray := prog_9_method_1_code
def yX7_init : MethodName := ⟨RX7, "<init>", "()V"⟩
abbrev cX7_slotBit : ByteArray := prog_9_method_2_code
def yX7_slotBit : MethodName := ⟨RX7, "slotBit", "(I)I"⟩
abbrev cX7_make : ByteArray := prog_9_method_3_code
def yX7_make : MethodName := ⟨RX7, "make", "(III)I"⟩
abbrev cX7_hasEffects : ByteArray := prog_9_method_4_code
def yX7_hasEffects : MethodName := ⟨RX7, "hasEffects", "(I)Z"⟩
abbrev cX7_isName : ByteArray := prog_9_method_5_code
def yX7_isName : MethodName := ⟨RX7, "isName", "(I)Z"⟩
abbrev cX7_replace : ByteArray := prog_9_method_6_code
def yX7_replace : MethodName := ⟨RX7, "replace", "(IIII)I"⟩
def RX8 : String := "CodeLifter$Shape"
def TX8 : u_T := fun k => match k with
  | 0 => ("CodeLifter$Shape", "blocks", "LCodeLifter$Blocks;", true)
  | 1 => ("CodeLifter$Shape", "tangled", "Z", false)
  | 2 => ("CodeLifter$Shape", "reduced", "Z", false)
  | 3 => ("CodeLifter$Shape", "jumps", "I", false)
  | 4 => ("CodeLifter$Shape", "jump", "[Z", true)
  | 5 => ("CodeLifter$Shape", "back", "[Z", true)
  | 6 => ("CodeLifter$Shape", "order", "[I", true)
  | 7 => ("CodeLifter$Shape", "place", "[I", true)
  | 8 => ("CodeLifter$Shape", "dominators", "[J", true)
  | 9 => ("CodeLifter$Shape", "above", "[I", true)
  | 10 => ("CodeLifter$Shape", "loops", "J", false)
  | 11 => ("CodeLifter$Shape", "members", "[J", true)
  | 12 => ("CodeLifter$Shape", "merges", "J", false)
  | 13 => ("CodeLifter$Shape", "before", "[J", true)
  | 14 => ("CodeLifter$Shape", "open", "[I", true)
  | 15 => ("CodeLifter$Shape", "nextEdge", "[I", true)
  | 16 => ("CodeLifter$Shape", "candidate", "[I", true)
  | _ => ("CodeLifter$Shape", "candidates", "I", false)
def tyX8 : Nat → FieldType := fun k => match k with
  | 0 => .object "CodeLifter$Blocks"
  | 1 => .boolean
  | 2 => .boolean
  | 3 => .int
  | 4 => .array .boolean
  | 5 => .array .boolean
  | 6 => .array .int
  | 7 => .array .int
  | 8 => .array .long
  | 9 => .array .int
  | 10 => .long
  | 11 => .array .long
  | 12 => .long
  | 13 => .array .long
  | 14 => .array .int
  | 15 => .array .int
  | 16 => .array .int
  | _ => .int
abbrev wsX80 : List Cond := u_ws RX8 TX8 18
theorem nmX8 : ∀ a, a < 18 → ∀ b, b < 18 → a ≠ b → (TX8 a).2.1 ≠ (TX8 b).2.1 := by decide +kernel
theorem tyX8_ok : ∀ k, k < 18 → parseFieldDescriptor (TX8 k).2.2.1 = some (tyX8 k) := by decide +kernel
abbrev cX8_init : ByteArray := prog_10_method_1_code
def yX8_init : MethodName := ⟨RX8, "<init>", "(LCodeLifter$Blocks;)V"⟩
abbrev cX8_form : ByteArray := prog_10_method_2_code
def yX8_form : MethodName := ⟨RX8, "form", "()V"⟩
abbrev cX8_isReducedNow : ByteArray := prog_10_method_3_code
def yX8_isReducedNow : MethodName := ⟨RX8, "isReducedNow", "()Z"⟩
abbrev cX8_allAreComeTo : ByteArray := prog_10_method_4_code
def yX8_allAreComeTo : MethodName := ⟨RX8, "allAreComeTo", "()Z"⟩
abbrev cX8_findDominators : ByteArray := prog_10_method_5_code
def yX8_findDominators : MethodName := ⟨RX8, "findDominators", "()V"⟩
abbrev cX8_sharedBefore : ByteArray := prog_10_method_6_code
def yX8_sharedBefore : MethodName := ⟨RX8, "sharedBefore", "(I)J"⟩
abbrev cX8_isBack : ByteArray := prog_10_method_7_code
def yX8_isBack : MethodName := ⟨RX8, "isBack", "(I)Z"⟩
abbrev cX8_findCandidates : ByteArray := prog_10_method_8_code
def yX8_findCandidates : MethodName := ⟨RX8, "findCandidates", "()V"⟩
abbrev cX8_oneJumpIsEnough : ByteArray := prog_10_method_9_code
def yX8_oneJumpIsEnough : MethodName := ⟨RX8, "oneJumpIsEnough", "()Z"⟩
abbrev cX8_twoJumpsAreEnough : ByteArray := prog_10_method_10_code
def yX8_twoJumpsAreEnough : MethodName := ⟨RX8, "twoJumpsAreEnough", "()Z"⟩
abbrev cX8_findAbove : ByteArray := prog_10_method_11_code
def yX8_findAbove : MethodName := ⟨RX8, "findAbove", "()V"⟩
abbrev cX8_findLoops : ByteArray := prog_10_method_12_code
def yX8_findLoops : MethodName := ⟨RX8, "findLoops", "()V"⟩
abbrev cX8_comingBack : ByteArray := prog_10_method_13_code
def yX8_comingBack : MethodName := ⟨RX8, "comingBack", "(II)J"⟩
abbrev cX8_findMerges : ByteArray := prog_10_method_14_code
def yX8_findMerges : MethodName := ⟨RX8, "findMerges", "()V"⟩
abbrev cX8_innermost : ByteArray := prog_10_method_15_code
def yX8_innermost : MethodName := ⟨RX8, "innermost", "(I)I"⟩
abbrev cX8_loopsRound : ByteArray := prog_10_method_16_code
def yX8_loopsRound : MethodName := ⟨RX8, "loopsRound", "(I)I"⟩
abbrev cX8_mostLoops : ByteArray := prog_10_method_17_code
def yX8_mostLoops : MethodName := ⟨RX8, "mostLoops", "()I"⟩
def RX9 : String := "CodeLifter$Tape"
def TX9 : u_T := fun k => match k with
  | 0 => ("CodeLifter$Tape", "bytes", "[B", true)
  | 1 => ("CodeLifter$Tape", "length", "I", false)
  | _ => ("CodeLifter$Tape", "at", "I", false)
def tyX9 : Nat → FieldType := fun k => match k with
  | 0 => .array .byte
  | 1 => .int
  | _ => .int
abbrev wsX90 : List Cond := u_ws RX9 TX9 3
theorem nmX9 : ∀ a, a < 3 → ∀ b, b < 3 → a ≠ b → (TX9 a).2.1 ≠ (TX9 b).2.1 := by decide +kernel
theorem tyX9_ok : ∀ k, k < 3 → parseFieldDescriptor (TX9 k).2.2.1 = some (tyX9 k) := by decide +kernel
abbrev cX9_init : ByteArray := prog_11_method_1_code
def yX9_init : MethodName := ⟨RX9, "<init>", "()V"⟩
abbrev cX9_append : ByteArray := prog_11_method_2_code
def yX9_append : MethodName := ⟨RX9, "append", "(I)V"⟩
abbrev cX9_read : ByteArray := prog_11_method_3_code
def yX9_read : MethodName := ⟨RX9, "read", "(LCodeLifter$Listing;)Z"⟩
abbrev cX9_readInstruction : ByteArray := prog_11_method_4_code
def yX9_readInstruction : MethodName := ⟨RX9, "readInstruction", "(LCodeLifter$Listing;)Z"⟩
abbrev cX9_readHandler : ByteArray := prog_11_method_5_code
def yX9_readHandler : MethodName := ⟨RX9, "readHandler", "(LCodeLifter$Listing;)Z"⟩
abbrev cX9_readNumber : ByteArray := prog_11_method_6_code
def yX9_readNumber : MethodName := ⟨RX9, "readNumber", "(I)I"⟩
abbrev cX9_readLetter : ByteArray := prog_11_method_7_code
def yX9_readLetter : MethodName := ⟨RX9, "readLetter", "()I"⟩
abbrev cX9_isAtComma : ByteArray := prog_11_method_8_code
def yX9_isAtComma : MethodName := ⟨RX9, "isAtComma", "()Z"⟩
abbrev cX9_skipBlanks : ByteArray := prog_11_method_9_code
def yX9_skipBlanks : MethodName := ⟨RX9, "skipBlanks", "()V"⟩
abbrev cX9_current : ByteArray := prog_11_method_10_code
def yX9_current : MethodName := ⟨RX9, "current", "()I"⟩
def RX10 : String := "CodeLifter$Truths"
def TX10 : u_T := fun k => match k with
  | 0 => ("CodeLifter$Truths", "blocks", "LCodeLifter$Blocks;", true)
  | 1 => ("CodeLifter$Truths", "pool", "LCodeLifter$Pool;", true)
  | 2 => ("CodeLifter$Truths", "lifted", "LCodeLifter$Lifted;", true)
  | 3 => ("CodeLifter$Truths", "variable", "[Z", true)
  | 4 => ("CodeLifter$Truths", "slot", "[Z", true)
  | _ => ("CodeLifter$Truths", "fresh", "[Z", true)
def tyX10 : Nat → FieldType := fun k => match k with
  | 0 => .object "CodeLifter$Blocks"
  | 1 => .object "CodeLifter$Pool"
  | 2 => .object "CodeLifter$Lifted"
  | 3 => .array .boolean
  | 4 => .array .boolean
  | _ => .array .boolean
abbrev wsX100 : List Cond := u_ws RX10 TX10 6
theorem nmX10 : ∀ a, a < 6 → ∀ b, b < 6 → a ≠ b → (TX10 a).2.1 ≠ (TX10 b).2.1 := by decide +kernel
theorem tyX10_ok : ∀ k, k < 6 → parseFieldDescriptor (TX10 k).2.2.1 = some (tyX10 k) := by decide +kernel
abbrev cX10_init : ByteArray := prog_12_method_1_code
def yX10_init : MethodName := ⟨RX10, "<init>", "(LCodeLifter$Blocks;LCodeLifter$Pool;LCodeLifter$Lifted;)V"⟩
abbrev cX10_judge : ByteArray := prog_12_method_2_code
def yX10_judge : MethodName := ⟨RX10, "judge", "()V"⟩
abbrev cX10_assumeAll : ByteArray := prog_12_method_3_code
def yX10_assumeAll : MethodName := ⟨RX10, "assumeAll", "()V"⟩
abbrev cX10_holds : ByteArray := prog_12_method_4_code
def yX10_holds : MethodName := ⟨RX10, "holds", "(I)Z"⟩
abbrev cX10_isTaken : ByteArray := prog_12_method_5_code
def yX10_isTaken : MethodName := ⟨RX10, "isTaken", "(I)Z"⟩
abbrev cX10_deny : ByteArray := prog_12_method_6_code
def yX10_deny : MethodName := ⟨RX10, "deny", "(I)V"⟩
abbrev cX10_howMany : ByteArray := prog_12_method_7_code
def yX10_howMany : MethodName := ⟨RX10, "howMany", "()I"⟩
def RX11 : String := "CodeLifter"
def TX11 : u_T := fun k => match k with
  | 0 => ("CodeLifter", "tape", "LCodeLifter$Tape;", true)
  | 1 => ("CodeLifter", "listing", "LCodeLifter$Listing;", true)
  | 2 => ("CodeLifter", "draft", "LCodeLifter$Listing;", true)
  | 3 => ("CodeLifter", "blocks", "LCodeLifter$Blocks;", true)
  | 4 => ("CodeLifter", "shape", "LCodeLifter$Shape;", true)
  | 5 => ("CodeLifter", "pool", "LCodeLifter$Pool;", true)
  | 6 => ("CodeLifter", "lifted", "LCodeLifter$Lifted;", true)
  | 7 => ("CodeLifter", "truths", "LCodeLifter$Truths;", true)
  | 8 => ("CodeLifter", "liveness", "LCodeLifter$Liveness;", true)
  | 9 => ("CodeLifter", "lines", "LCodeLifter$Lines;", true)
  | 10 => ("CodeLifter", "machine", "LCodeLifter$Machine;", true)
  | 11 => ("CodeLifter", "pen", "LCodeLifter$Pen;", true)
  | _ => ("CodeLifter", "loaded", "Z", false)
def tyX11 : Nat → FieldType := fun k => match k with
  | 0 => .object "CodeLifter$Tape"
  | 1 => .object "CodeLifter$Listing"
  | 2 => .object "CodeLifter$Listing"
  | 3 => .object "CodeLifter$Blocks"
  | 4 => .object "CodeLifter$Shape"
  | 5 => .object "CodeLifter$Pool"
  | 6 => .object "CodeLifter$Lifted"
  | 7 => .object "CodeLifter$Truths"
  | 8 => .object "CodeLifter$Liveness"
  | 9 => .object "CodeLifter$Lines"
  | 10 => .object "CodeLifter$Machine"
  | 11 => .object "CodeLifter$Pen"
  | _ => .boolean
abbrev wsX110 : List Cond := u_ws RX11 TX11 13
theorem nmX11 : ∀ a, a < 13 → ∀ b, b < 13 → a ≠ b → (TX11 a).2.1 ≠ (TX11 b).2.1 := by decide +kernel
theorem tyX11_ok : ∀ k, k < 13 → parseFieldDescriptor (TX11 k).2.2.1 = some (tyX11 k) := by decide +kernel
abbrev cX11_init : ByteArray := prog_1_method_1_code
def yX11_init : MethodName := ⟨RX11, "<init>", "()V"⟩
abbrev cX11_feed : ByteArray := prog_1_method_2_code
def yX11_feed : MethodName := ⟨RX11, "feed", "(IIIII)I"⟩
abbrev cX11_end : ByteArray := prog_1_method_3_code
def yX11_end : MethodName := ⟨RX11, "end", "(I)Z"⟩
abbrev cX11_fault : ByteArray := prog_1_method_4_code
def yX11_fault : MethodName := ⟨RX11, "fault", "()I"⟩
abbrev cX11_code : ByteArray := prog_1_method_5_code
def yX11_code : MethodName := ⟨RX11, "code", "()I"⟩
abbrev cX11_put : ByteArray := prog_1_method_6_code
def yX11_put : MethodName := ⟨RX11, "put", "(III)I"⟩
abbrev cX11_count : ByteArray := prog_1_method_7_code
def yX11_count : MethodName := ⟨RX11, "count", "(I)I"⟩
abbrev cX11_instruction : ByteArray := prog_1_method_8_code
def yX11_instruction : MethodName := ⟨RX11, "instruction", "(II)I"⟩
abbrev cX11_block : ByteArray := prog_1_method_9_code
def yX11_block : MethodName := ⟨RX11, "block", "(II)I"⟩
abbrev cX11_edge : ByteArray := prog_1_method_10_code
def yX11_edge : MethodName := ⟨RX11, "edge", "(II)I"⟩
abbrev cX11_dominates : ByteArray := prog_1_method_11_code
def yX11_dominates : MethodName := ⟨RX11, "dominates", "(II)Z"⟩
abbrev cX11_loop : ByteArray := prog_1_method_12_code
def yX11_loop : MethodName := ⟨RX11, "loop", "(I)J"⟩
abbrev cX11_statement : ByteArray := prog_1_method_13_code
def yX11_statement : MethodName := ⟨RX11, "statement", "(III)I"⟩
abbrev cX11_condition : ByteArray := prog_1_method_14_code
def yX11_condition : MethodName := ⟨RX11, "condition", "(II)I"⟩
abbrev cX11_line : ByteArray := prog_1_method_15_code
def yX11_line : MethodName := ⟨RX11, "line", "(II)I"⟩
abbrev cX11_spell : ByteArray := prog_1_method_16_code
def yX11_spell : MethodName := ⟨RX11, "spell", "(II)I"⟩
abbrev cX11_type : ByteArray := prog_1_method_17_code
def yX11_type : MethodName := ⟨RX11, "type", "(II)I"⟩
abbrev cX11_run : ByteArray := prog_1_method_18_code
def yX11_run : MethodName := ⟨RX11, "run", "(IIIIII)I"⟩
abbrev cX11_output : ByteArray := prog_1_method_19_code
def yX11_output : MethodName := ⟨RX11, "output", "(IIIIII)I"⟩
abbrev cX11_comesTo : ByteArray := prog_1_method_20_code
def yX11_comesTo : MethodName := ⟨RX11, "comesTo", "(I)J"⟩
abbrev cX11_far : ByteArray := prog_1_method_21_code
def yX11_far : MethodName := ⟨RX11, "far", "(II)I"⟩
abbrev cX11_most : ByteArray := prog_1_method_22_code
def yX11_most : MethodName := ⟨RX11, "most", "(I)I"⟩
abbrev cX11_adoptDraft : ByteArray := prog_1_method_23_code
def yX11_adoptDraft : MethodName := ⟨RX11, "adoptDraft", "()V"⟩
abbrev cX11_isBlock : ByteArray := prog_1_method_24_code
def yX11_isBlock : MethodName := ⟨RX11, "isBlock", "(I)Z"⟩
abbrev cX11_isLine : ByteArray := prog_1_method_25_code
def yX11_isLine : MethodName := ⟨RX11, "isLine", "(I)Z"⟩
abbrev cX11_canRun : ByteArray := prog_1_method_26_code
def yX11_canRun : MethodName := ⟨RX11, "canRun", "(II)Z"⟩
abbrev cX11_goThrough : ByteArray := prog_1_method_27_code
def yX11_goThrough : MethodName := ⟨RX11, "goThrough", "(I)V"⟩
abbrev cX11_oneIf : ByteArray := prog_1_method_28_code
def yX11_oneIf : MethodName := ⟨RX11, "oneIf", "(Z)I"⟩
abbrev cX11_isIn : ByteArray := prog_1_method_29_code
def yX11_isIn : MethodName := ⟨RX11, "isIn", "(JI)Z"⟩
abbrev cX11_bytesIn : ByteArray := prog_1_method_30_code
def yX11_bytesIn : MethodName := ⟨RX11, "bytesIn", "(I)I"⟩
abbrev cX11_isInstruction : ByteArray := prog_1_method_31_code
def yX11_isInstruction : MethodName := ⟨RX11, "isInstruction", "(II)Z"⟩
abbrev cX11_isBare : ByteArray := prog_1_method_32_code
def yX11_isBare : MethodName := ⟨RX11, "isBare", "(I)Z"⟩
abbrev cX11_isBinary : ByteArray := prog_1_method_33_code
def yX11_isBinary : MethodName := ⟨RX11, "isBinary", "(I)Z"⟩
abbrev cX11_isUnary : ByteArray := prog_1_method_34_code
def yX11_isUnary : MethodName := ⟨RX11, "isUnary", "(I)Z"⟩
abbrev cX11_outcome : ByteArray := prog_1_method_35_code
def yX11_outcome : MethodName := ⟨RX11, "outcome", "(III)I"⟩
abbrev cX11_dividesByZero : ByteArray := prog_1_method_36_code
def yX11_dividesByZero : MethodName := ⟨RX11, "dividesByZero", "(II)Z"⟩
def RX12 : String := "CodeLifterModel"
def TX12 : u_T := fun k => match k with
  | 0 => ("CodeLifterModel", "thrown", "I", false)
  | 1 => ("CodeLifterModel", "tape", "[B", true)
  | 2 => ("CodeLifterModel", "length", "I", false)
  | 3 => ("CodeLifterModel", "at", "I", false)
  | 4 => ("CodeLifterModel", "signRead", "[I", true)
  | 5 => ("CodeLifterModel", "numberRead", "[I", true)
  | 6 => ("CodeLifterModel", "handlerRead", "[I", true)
  | 7 => ("CodeLifterModel", "codesRead", "I", false)
  | 8 => ("CodeLifterModel", "handlersRead", "I", false)
  | 9 => ("CodeLifterModel", "sign", "[I", true)
  | 10 => ("CodeLifterModel", "number", "[I", true)
  | 11 => ("CodeLifterModel", "handler", "[I", true)
  | 12 => ("CodeLifterModel", "trySign", "[I", true)
  | 13 => ("CodeLifterModel", "tryNumber", "[I", true)
  | 14 => ("CodeLifterModel", "tryHandler", "[I", true)
  | 15 => ("CodeLifterModel", "codes", "I", false)
  | 16 => ("CodeLifterModel", "handlers", "I", false)
  | 17 => ("CodeLifterModel", "tryCodes", "I", false)
  | 18 => ("CodeLifterModel", "tryHandlers", "I", false)
  | 19 => ("CodeLifterModel", "tryStack", "[I", true)
  | 20 => ("CodeLifterModel", "stack", "[I", true)
  | 21 => ("CodeLifterModel", "isThere", "Z", false)
  | 22 => ("CodeLifterModel", "first", "[I", true)
  | 23 => ("CodeLifterModel", "last", "[I", true)
  | 24 => ("CodeLifterModel", "blockOf", "[I", true)
  | 25 => ("CodeLifterModel", "throwsTo", "[I", true)
  | 26 => ("CodeLifterModel", "blocks", "I", false)
  | 27 => ("CodeLifterModel", "edgeFrom", "[I", true)
  | 28 => ("CodeLifterModel", "edgeTo", "[I", true)
  | 29 => ("CodeLifterModel", "edgeThrows", "[Z", true)
  | 30 => ("CodeLifterModel", "isJump", "[Z", true)
  | 31 => ("CodeLifterModel", "isBack", "[Z", true)
  | 32 => ("CodeLifterModel", "edges", "I", false)
  | 33 => ("CodeLifterModel", "dominators", "[J", true)
  | 34 => ("CodeLifterModel", "loops", "[J", true)
  | 35 => ("CodeLifterModel", "order", "[I", true)
  | 36 => ("CodeLifterModel", "above", "[I", true)
  | 37 => ("CodeLifterModel", "ordered", "I", false)
  | 38 => ("CodeLifterModel", "seen", "J", false)
  | 39 => ("CodeLifterModel", "jumps", "I", false)
  | 40 => ("CodeLifterModel", "isPlainly", "Z", false)
  | 41 => ("CodeLifterModel", "kind", "[I", true)
  | 42 => ("CodeLifterModel", "left", "[I", true)
  | 43 => ("CodeLifterModel", "right", "[I", true)
  | 44 => ("CodeLifterModel", "nodes", "I", false)
  | 45 => ("CodeLifterModel", "stateKind", "[I", true)
  | 46 => ("CodeLifterModel", "stateWhich", "[I", true)
  | 47 => ("CodeLifterModel", "stateOf", "[I", true)
  | 48 => ("CodeLifterModel", "stateFrom", "[I", true)
  | 49 => ("CodeLifterModel", "condition", "[I", true)
  | 50 => ("CodeLifterModel", "states", "I", false)
  | 51 => ("CodeLifterModel", "xs", "I", false)
  | 52 => ("CodeLifterModel", "lies", "[I", true)
  | 53 => ("CodeLifterModel", "lying", "I", false)
  | 54 => ("CodeLifterModel", "mostNames", "I", false)
  | 55 => ("CodeLifterModel", "isTruthVariable", "[Z", true)
  | 56 => ("CodeLifterModel", "isTruthT", "[Z", true)
  | 57 => ("CodeLifterModel", "isTruthX", "[Z", true)
  | 58 => ("CodeLifterModel", "liveIn", "[I", true)
  | 59 => ("CodeLifterModel", "liveOut", "[I", true)
  | 60 => ("CodeLifterModel", "isDead", "[Z", true)
  | 61 => ("CodeLifterModel", "lineKind", "[I", true)
  | 62 => ("CodeLifterModel", "lineBlock", "[I", true)
  | 63 => ("CodeLifterModel", "lineDeep", "[I", true)
  | 64 => ("CodeLifterModel", "lineOf", "[I", true)
  | 65 => ("CodeLifterModel", "lines", "I", false)
  | 66 => ("CodeLifterModel", "deepNow", "I", false)
  | 67 => ("CodeLifterModel", "isOut", "[Z", true)
  | 68 => ("CodeLifterModel", "spelled", "[I", true)
  | 69 => ("CodeLifterModel", "spells", "I", false)
  | 70 => ("CodeLifterModel", "met", "[I", true)
  | 71 => ("CodeLifterModel", "metMany", "I", false)
  | 72 => ("CodeLifterModel", "variable", "[I", true)
  | 73 => ("CodeLifterModel", "outputs", "[I", true)
  | 74 => ("CodeLifterModel", "outputMany", "I", false)
  | 75 => ("CodeLifterModel", "inputs", "I", false)
  | 76 => ("CodeLifterModel", "entered", "I", false)
  | 77 => ("CodeLifterModel", "ended", "I", false)
  | 78 => ("CodeLifterModel", "thrownOut", "I", false)
  | 79 => ("CodeLifterModel", "seed", "I", false)
  | 80 => ("CodeLifterModel", "mostBlocks", "I", false)
  | 81 => ("CodeLifterModel", "isThrown", "Z", false)
  | 82 => ("CodeLifterModel", "thrownValue", "I", false)
  | 83 => ("CodeLifterModel", "pile", "[I", true)
  | 84 => ("CodeLifterModel", "piled", "I", false)
  | 85 => ("CodeLifterModel", "nameT", "[I", true)
  | _ => ("CodeLifterModel", "nameX", "[I", true)
def tyX12 : Nat → FieldType := fun k => match k with
  | 0 => .int
  | 1 => .array .byte
  | 2 => .int
  | 3 => .int
  | 4 => .array .int
  | 5 => .array .int
  | 6 => .array .int
  | 7 => .int
  | 8 => .int
  | 9 => .array .int
  | 10 => .array .int
  | 11 => .array .int
  | 12 => .array .int
  | 13 => .array .int
  | 14 => .array .int
  | 15 => .int
  | 16 => .int
  | 17 => .int
  | 18 => .int
  | 19 => .array .int
  | 20 => .array .int
  | 21 => .boolean
  | 22 => .array .int
  | 23 => .array .int
  | 24 => .array .int
  | 25 => .array .int
  | 26 => .int
  | 27 => .array .int
  | 28 => .array .int
  | 29 => .array .boolean
  | 30 => .array .boolean
  | 31 => .array .boolean
  | 32 => .int
  | 33 => .array .long
  | 34 => .array .long
  | 35 => .array .int
  | 36 => .array .int
  | 37 => .int
  | 38 => .long
  | 39 => .int
  | 40 => .boolean
  | 41 => .array .int
  | 42 => .array .int
  | 43 => .array .int
  | 44 => .int
  | 45 => .array .int
  | 46 => .array .int
  | 47 => .array .int
  | 48 => .array .int
  | 49 => .array .int
  | 50 => .int
  | 51 => .int
  | 52 => .array .int
  | 53 => .int
  | 54 => .int
  | 55 => .array .boolean
  | 56 => .array .boolean
  | 57 => .array .boolean
  | 58 => .array .int
  | 59 => .array .int
  | 60 => .array .boolean
  | 61 => .array .int
  | 62 => .array .int
  | 63 => .array .int
  | 64 => .array .int
  | 65 => .int
  | 66 => .int
  | 67 => .array .boolean
  | 68 => .array .int
  | 69 => .int
  | 70 => .array .int
  | 71 => .int
  | 72 => .array .int
  | 73 => .array .int
  | 74 => .int
  | 75 => .int
  | 76 => .int
  | 77 => .int
  | 78 => .int
  | 79 => .int
  | 80 => .int
  | 81 => .boolean
  | 82 => .int
  | 83 => .array .int
  | 84 => .int
  | 85 => .array .int
  | _ => .array .int
abbrev wsX120 : List Cond := u_ws RX12 TX12 87
theorem nmX12 : ∀ a, a < 87 → ∀ b, b < 87 → a ≠ b → (TX12 a).2.1 ≠ (TX12 b).2.1 := by decide +kernel
theorem tyX12_ok : ∀ k, k < 87 → parseFieldDescriptor (TX12 k).2.2.1 = some (tyX12 k) := by decide +kernel
abbrev cX12_init : ByteArray := prog_14_method_1_code
def yX12_init : MethodName := ⟨RX12, "<init>", "()V"⟩
abbrev cX12_thrown : ByteArray := prog_14_method_2_code
def yX12_thrown : MethodName := ⟨RX12, "thrown", "()I"⟩
abbrev cX12_isIn : ByteArray := prog_14_method_3_code
def yX12_isIn : MethodName := ⟨RX12, "isIn", "(JJJ)Z"⟩
abbrev cX12_has : ByteArray := prog_14_method_4_code
def yX12_has : MethodName := ⟨RX12, "has", "(JI)Z"⟩
abbrev cX12_ones : ByteArray := prog_14_method_5_code
def yX12_ones : MethodName := ⟨RX12, "ones", "(J)I"⟩
abbrev cX12_bytesOf : ByteArray := prog_14_method_6_code
def yX12_bytesOf : MethodName := ⟨RX12, "bytesOf", "(I)I"⟩
abbrev cX12_brings : ByteArray := prog_14_method_7_code
def yX12_brings : MethodName := ⟨RX12, "brings", "(I)V"⟩
abbrev cX12_feed : ByteArray := prog_14_method_8_code
def yX12_feed : MethodName := ⟨RX12, "feed", "(IIIII)I"⟩
abbrev cX12_end : ByteArray := prog_14_method_9_code
def yX12_end : MethodName := ⟨RX12, "end", "(I)Z"⟩
abbrev cX12_here : ByteArray := prog_14_method_10_code
def yX12_here : MethodName := ⟨RX12, "here", "()I"⟩
abbrev cX12_look : ByteArray := prog_14_method_11_code
def yX12_look : MethodName := ⟨RX12, "look", "()I"⟩
abbrev cX12_isDigit : ByteArray := prog_14_method_12_code
def yX12_isDigit : MethodName := ⟨RX12, "isDigit", "()Z"⟩
abbrev cX12_reads : ByteArray := prog_14_method_13_code
def yX12_reads : MethodName := ⟨RX12, "reads", "(I)Z"⟩
abbrev cX12_number : ByteArray := prog_14_method_14_code
def yX12_number : MethodName := ⟨RX12, "number", "(I)I"⟩
abbrev cX12_isPlain : ByteArray := prog_14_method_15_code
def yX12_isPlain : MethodName := ⟨RX12, "isPlain", "(I)Z"⟩
abbrev cX12_isOneOf : ByteArray := prog_14_method_16_code
def yX12_isOneOf : MethodName := ⟨RX12, "isOneOf", "(ILjava/lang/String;)Z"⟩
abbrev cX12_letter : ByteArray := prog_14_method_17_code
def yX12_letter : MethodName := ⟨RX12, "letter", "()I"⟩
abbrev cX12_instruction : ByteArray := prog_14_method_18_code
def yX12_instruction : MethodName := ⟨RX12, "instruction", "(I)Z"⟩
abbrev cX12_handler : ByteArray := prog_14_method_19_code
def yX12_handler : MethodName := ⟨RX12, "handler", "()Z"⟩
abbrev cX12_isText : ByteArray := prog_14_method_20_code
def yX12_isText : MethodName := ⟨RX12, "isText", "()Z"⟩
abbrev cX12_fault : ByteArray := prog_14_method_21_code
def yX12_fault : MethodName := ⟨RX12, "fault", "()I"⟩
abbrev cX12_pops : ByteArray := prog_14_method_22_code
def yX12_pops : MethodName := ⟨RX12, "pops", "(I)I"⟩
abbrev cX12_pushes : ByteArray := prog_14_method_23_code
def yX12_pushes : MethodName := ⟨RX12, "pushes", "(I)I"⟩
abbrev cX12_canThrow : ByteArray := prog_14_method_24_code
def yX12_canThrow : MethodName := ⟨RX12, "canThrow", "(I)Z"⟩
abbrev cX12_goesOn : ByteArray := prog_14_method_25_code
def yX12_goesOn : MethodName := ⟨RX12, "goesOn", "(I)Z"⟩
abbrev cX12_goesTo : ByteArray := prog_14_method_26_code
def yX12_goesTo : MethodName := ⟨RX12, "goesTo", "(I)Z"⟩
abbrev cX12_handlerOf : ByteArray := prog_14_method_27_code
def yX12_handlerOf : MethodName := ⟨RX12, "handlerOf", "([III)I"⟩
abbrev cX12_wrong : ByteArray := prog_14_method_28_code
def yX12_wrong : MethodName := ⟨RX12, "wrong", "()I"⟩
abbrev cX12_goesThrough : ByteArray := prog_14_method_29_code
def yX12_goesThrough : MethodName := ⟨RX12, "goesThrough", "(I)I"⟩
abbrev cX12_comes : ByteArray := prog_14_method_30_code
def yX12_comes : MethodName := ⟨RX12, "comes", "(II)Z"⟩
abbrev cX12_tries : ByteArray := prog_14_method_31_code
def yX12_tries : MethodName := ⟨RX12, "tries", "([I[II[II)V"⟩
abbrev cX12_takes : ByteArray := prog_14_method_32_code
def yX12_takes : MethodName := ⟨RX12, "takes", "()I"⟩
abbrev cX12_code : ByteArray := prog_14_method_33_code
def yX12_code : MethodName := ⟨RX12, "code", "()I"⟩
abbrev cX12_isCode : ByteArray := prog_14_method_34_code
def yX12_isCode : MethodName := ⟨RX12, "isCode", "(II)Z"⟩
abbrev cX12_put : ByteArray := prog_14_method_35_code
def yX12_put : MethodName := ⟨RX12, "put", "(III)I"⟩
abbrev cX12_isCome : ByteArray := prog_14_method_36_code
def yX12_isCome : MethodName := ⟨RX12, "isCome", "(I)Z"⟩
abbrev cX12_isCutAhead : ByteArray := prog_14_method_37_code
def yX12_isCutAhead : MethodName := ⟨RX12, "isCutAhead", "(I)Z"⟩
abbrev cX12_laysBlocks : ByteArray := prog_14_method_38_code
def yX12_laysBlocks : MethodName := ⟨RX12, "laysBlocks", "()V"⟩
abbrev cX12_laysEdge : ByteArray := prog_14_method_39_code
def yX12_laysEdge : MethodName := ⟨RX12, "laysEdge", "(IIZ)V"⟩
abbrev cX12_laysEdges : ByteArray := prog_14_method_40_code
def yX12_laysEdges : MethodName := ⟨RX12, "laysEdges", "()V"⟩
abbrev cX12_reached : ByteArray := prog_14_method_41_code
def yX12_reached : MethodName := ⟨RX12, "reached", "(IJ)J"⟩
abbrev cX12_all : ByteArray := prog_14_method_42_code
def yX12_all : MethodName := ⟨RX12, "all", "()J"⟩
abbrev cX12_laysDominators : ByteArray := prog_14_method_43_code
def yX12_laysDominators : MethodName := ⟨RX12, "laysDominators", "()V"⟩
abbrev cX12_isReduced : ByteArray := prog_14_method_44_code
def yX12_isReduced : MethodName := ⟨RX12, "isReduced", "()Z"⟩
abbrev cX12_isEntry : ByteArray := prog_14_method_45_code
def yX12_isEntry : MethodName := ⟨RX12, "isEntry", "(IJ)Z"⟩
abbrev cX12_isGoodSo : ByteArray := prog_14_method_46_code
def yX12_isGoodSo : MethodName := ⟨RX12, "isGoodSo", "()Z"⟩
abbrev cX12_laysJumps : ByteArray := prog_14_method_47_code
def yX12_laysJumps : MethodName := ⟨RX12, "laysJumps", "()V"⟩
abbrev cX12_hasSecond : ByteArray := prog_14_method_48_code
def yX12_hasSecond : MethodName := ⟨RX12, "hasSecond", "(I)Z"⟩
abbrev cX12_laysOrder : ByteArray := prog_14_method_49_code
def yX12_laysOrder : MethodName := ⟨RX12, "laysOrder", "()V"⟩
abbrev cX12_leaves : ByteArray := prog_14_method_50_code
def yX12_leaves : MethodName := ⟨RX12, "leaves", "(I)V"⟩
abbrev cX12_laysAbove : ByteArray := prog_14_method_51_code
def yX12_laysAbove : MethodName := ⟨RX12, "laysAbove", "()V"⟩
abbrev cX12_laysLoops : ByteArray := prog_14_method_52_code
def yX12_laysLoops : MethodName := ⟨RX12, "laysLoops", "()V"⟩
abbrev cX12_comeTo : ByteArray := prog_14_method_53_code
def yX12_comeTo : MethodName := ⟨RX12, "comeTo", "(II)J"⟩
abbrev cX12_isMerge : ByteArray := prog_14_method_54_code
def yX12_isMerge : MethodName := ⟨RX12, "isMerge", "(I)Z"⟩
abbrev cX12_makes : ByteArray := prog_14_method_55_code
def yX12_makes : MethodName := ⟨RX12, "makes", "(III)I"⟩
abbrev cX12_isBoth : ByteArray := prog_14_method_56_code
def yX12_isBoth : MethodName := ⟨RX12, "isBoth", "(I)Z"⟩
abbrev cX12_isOne : ByteArray := prog_14_method_57_code
def yX12_isOne : MethodName := ⟨RX12, "isOne", "(I)Z"⟩
abbrev cX12_isName : ByteArray := prog_14_method_58_code
def yX12_isName : MethodName := ⟨RX12, "isName", "(I)Z"⟩
abbrev cX12_hasEffects : ByteArray := prog_14_method_59_code
def yX12_hasEffects : MethodName := ⟨RX12, "hasEffects", "(I)Z"⟩
abbrev cX12_hasName : ByteArray := prog_14_method_60_code
def yX12_hasName : MethodName := ⟨RX12, "hasName", "(III)Z"⟩
abbrev cX12_with : ByteArray := prog_14_method_61_code
def yX12_with : MethodName := ⟨RX12, "with", "(III)I"⟩
abbrev cX12_within : ByteArray := prog_14_method_62_code
def yX12_within : MethodName := ⟨RX12, "within", "(I)I"⟩
abbrev cX12_areAlike : ByteArray := prog_14_method_63_code
def yX12_areAlike : MethodName := ⟨RX12, "areAlike", "(II)Z"⟩
abbrev cX12_states : ByteArray := prog_14_method_64_code
def yX12_states : MethodName := ⟨RX12, "states", "(III)V"⟩
abbrev cX12_freshX : ByteArray := prog_14_method_65_code
def yX12_freshX : MethodName := ⟨RX12, "freshX", "(I)I"⟩
abbrev cX12_settles : ByteArray := prog_14_method_66_code
def yX12_settles : MethodName := ⟨RX12, "settles", "(II)V"⟩
abbrev cX12_pops_ : ByteArray := prog_14_method_67_code
def yX12_pops_ : MethodName := ⟨RX12, "pops", "()I"⟩
abbrev cX12_lays : ByteArray := prog_14_method_68_code
def yX12_lays : MethodName := ⟨RX12, "lays", "(I)V"⟩
abbrev cX12_alone : ByteArray := prog_14_method_69_code
def yX12_alone : MethodName := ⟨RX12, "alone", "(I)V"⟩
abbrev cX12_doubles : ByteArray := prog_14_method_70_code
def yX12_doubles : MethodName := ⟨RX12, "doubles", "()V"⟩
abbrev cX12_changes : ByteArray := prog_14_method_71_code
def yX12_changes : MethodName := ⟨RX12, "changes", "()V"⟩
abbrev cX12_lifts : ByteArray := prog_14_method_72_code
def yX12_lifts : MethodName := ⟨RX12, "lifts", "(II)V"⟩
abbrev cX12_tells : ByteArray := prog_14_method_73_code
def yX12_tells : MethodName := ⟨RX12, "tells", "(II)V"⟩
abbrev cX12_endsBlock : ByteArray := prog_14_method_74_code
def yX12_endsBlock : MethodName := ⟨RX12, "endsBlock", "(I)V"⟩
abbrev cX12_isForked : ByteArray := prog_14_method_75_code
def yX12_isForked : MethodName := ⟨RX12, "isForked", "(I)Z"⟩
abbrev cX12_laysStatements : ByteArray := prog_14_method_76_code
def yX12_laysStatements : MethodName := ⟨RX12, "laysStatements", "()V"⟩
abbrev cX12_isTruth : ByteArray := prog_14_method_77_code
def yX12_isTruth : MethodName := ⟨RX12, "isTruth", "(I)Z"⟩
abbrev cX12_laysTypes : ByteArray := prog_14_method_78_code
def yX12_laysTypes : MethodName := ⟨RX12, "laysTypes", "()V"⟩
abbrev cX12_isLess : ByteArray := prog_14_method_79_code
def yX12_isLess : MethodName := ⟨RX12, "isLess", "(I)Z"⟩
abbrev cX12_behind : ByteArray := prog_14_method_80_code
def yX12_behind : MethodName := ⟨RX12, "behind", "(I)I"⟩
abbrev cX12_liveAhead : ByteArray := prog_14_method_81_code
def yX12_liveAhead : MethodName := ⟨RX12, "liveAhead", "(I)I"⟩
abbrev cX12_laysLive : ByteArray := prog_14_method_82_code
def yX12_laysLive : MethodName := ⟨RX12, "laysLive", "()V"⟩
abbrev cX12_line : ByteArray := prog_14_method_83_code
def yX12_line : MethodName := ⟨RX12, "line", "(III)V"⟩
abbrev cX12_opens : ByteArray := prog_14_method_84_code
def yX12_opens : MethodName := ⟨RX12, "opens", "(II)V"⟩
abbrev cX12_closes : ByteArray := prog_14_method_85_code
def yX12_closes : MethodName := ⟨RX12, "closes", "(II)V"⟩
abbrev cX12_tells_ : ByteArray := prog_14_method_86_code
def yX12_tells_ : MethodName := ⟨RX12, "tells", "(I)V"⟩
abbrev cX12_merges : ByteArray := prog_14_method_87_code
def yX12_merges : MethodName := ⟨RX12, "merges", "(II)V"⟩
abbrev cX12_inner : ByteArray := prog_14_method_88_code
def yX12_inner : MethodName := ⟨RX12, "inner", "(I)V"⟩
abbrev cX12_edgeOf : ByteArray := prog_14_method_89_code
def yX12_edgeOf : MethodName := ⟨RX12, "edgeOf", "(II)I"⟩
abbrev cX12_goes : ByteArray := prog_14_method_90_code
def yX12_goes : MethodName := ⟨RX12, "goes", "(II)V"⟩
abbrev cX12_endOfIf : ByteArray := prog_14_method_91_code
def yX12_endOfIf : MethodName := ⟨RX12, "endOfIf", "(I)I"⟩
abbrev cX12_isIdle : ByteArray := prog_14_method_92_code
def yX12_isIdle : MethodName := ⟨RX12, "isIdle", "(I)Z"⟩
abbrev cX12_thins : ByteArray := prog_14_method_93_code
def yX12_thins : MethodName := ⟨RX12, "thins", "()V"⟩
abbrev cX12_laysLines : ByteArray := prog_14_method_94_code
def yX12_laysLines : MethodName := ⟨RX12, "laysLines", "()V"⟩
abbrev cX12_lays_ : ByteArray := prog_14_method_95_code
def yX12_lays_ : MethodName := ⟨RX12, "lays", "()V"⟩
abbrev cX12_writes : ByteArray := prog_14_method_96_code
def yX12_writes : MethodName := ⟨RX12, "writes", "(I)V"⟩
abbrev cX12_writesWord : ByteArray := prog_14_method_97_code
def yX12_writesWord : MethodName := ⟨RX12, "writesWord", "(Ljava/lang/String;)V"⟩
abbrev cX12_writesNumber : ByteArray := prog_14_method_98_code
def yX12_writesNumber : MethodName := ⟨RX12, "writesNumber", "(I)V"⟩
abbrev cX12_writesName : ByteArray := prog_14_method_99_code
def yX12_writesName : MethodName := ⟨RX12, "writesName", "(II)V"⟩
abbrev cX12_spells : ByteArray := prog_14_method_100_code
def yX12_spells : MethodName := ⟨RX12, "spells", "(I)V"⟩
abbrev cX12_spellsStatement : ByteArray := prog_14_method_101_code
def yX12_spellsStatement : MethodName := ⟨RX12, "spellsStatement", "(I)V"⟩
abbrev cX12_spellsBlock : ByteArray := prog_14_method_102_code
def yX12_spellsBlock : MethodName := ⟨RX12, "spellsBlock", "(Ljava/lang/String;II)V"⟩
abbrev cX12_spellsLine : ByteArray := prog_14_method_103_code
def yX12_spellsLine : MethodName := ⟨RX12, "spellsLine", "(I)V"⟩
abbrev cX12_told : ByteArray := prog_14_method_104_code
def yX12_told : MethodName := ⟨RX12, "told", "(I)I"⟩
abbrev cX12_isLine : ByteArray := prog_14_method_105_code
def yX12_isLine : MethodName := ⟨RX12, "isLine", "(I)Z"⟩
abbrev cX12_spell : ByteArray := prog_14_method_106_code
def yX12_spell : MethodName := ⟨RX12, "spell", "(II)I"⟩
abbrev cX12_line_ : ByteArray := prog_14_method_107_code
def yX12_line_ : MethodName := ⟨RX12, "line", "(II)I"⟩
abbrev cX12_isBlock : ByteArray := prog_14_method_108_code
def yX12_isBlock : MethodName := ⟨RX12, "isBlock", "(I)Z"⟩
abbrev cX12_condition : ByteArray := prog_14_method_109_code
def yX12_condition : MethodName := ⟨RX12, "condition", "(II)I"⟩
abbrev cX12_statement : ByteArray := prog_14_method_110_code
def yX12_statement : MethodName := ⟨RX12, "statement", "(III)I"⟩
abbrev cX12_countLoops : ByteArray := prog_14_method_111_code
def yX12_countLoops : MethodName := ⟨RX12, "countLoops", "()I"⟩
abbrev cX12_countMerges : ByteArray := prog_14_method_112_code
def yX12_countMerges : MethodName := ⟨RX12, "countMerges", "()I"⟩
abbrev cX12_countDead : ByteArray := prog_14_method_113_code
def yX12_countDead : MethodName := ⟨RX12, "countDead", "()I"⟩
abbrev cX12_meets : ByteArray := prog_14_method_114_code
def yX12_meets : MethodName := ⟨RX12, "meets", "(I)V"⟩
abbrev cX12_unlike : ByteArray := prog_14_method_115_code
def yX12_unlike : MethodName := ⟨RX12, "unlike", "()I"⟩
abbrev cX12_count : ByteArray := prog_14_method_116_code
def yX12_count : MethodName := ⟨RX12, "count", "(I)I"⟩
abbrev cX12_instruction_ : ByteArray := prog_14_method_117_code
def yX12_instruction_ : MethodName := ⟨RX12, "instruction", "(II)I"⟩
abbrev cX12_loopsOf : ByteArray := prog_14_method_118_code
def yX12_loopsOf : MethodName := ⟨RX12, "loopsOf", "(I)I"⟩
abbrev cX12_innermost : ByteArray := prog_14_method_119_code
def yX12_innermost : MethodName := ⟨RX12, "innermost", "(I)I"⟩
abbrev cX12_block : ByteArray := prog_14_method_120_code
def yX12_block : MethodName := ⟨RX12, "block", "(II)I"⟩
abbrev cX12_edge : ByteArray := prog_14_method_121_code
def yX12_edge : MethodName := ⟨RX12, "edge", "(II)I"⟩
abbrev cX12_dominates : ByteArray := prog_14_method_122_code
def yX12_dominates : MethodName := ⟨RX12, "dominates", "(II)Z"⟩
abbrev cX12_loop : ByteArray := prog_14_method_123_code
def yX12_loop : MethodName := ⟨RX12, "loop", "(I)J"⟩
abbrev cX12_type : ByteArray := prog_14_method_124_code
def yX12_type : MethodName := ⟨RX12, "type", "(II)I"⟩
abbrev cX12_comesTo : ByteArray := prog_14_method_125_code
def yX12_comesTo : MethodName := ⟨RX12, "comesTo", "(I)J"⟩
abbrev cX12_far : ByteArray := prog_14_method_126_code
def yX12_far : MethodName := ⟨RX12, "far", "(II)I"⟩
abbrev cX12_mostLines : ByteArray := prog_14_method_127_code
def yX12_mostLines : MethodName := ⟨RX12, "mostLines", "(I)I"⟩
abbrev cX12_deepest : ByteArray := prog_14_method_128_code
def yX12_deepest : MethodName := ⟨RX12, "deepest", "()I"⟩
abbrev cX12_mostLoops : ByteArray := prog_14_method_129_code
def yX12_mostLoops : MethodName := ⟨RX12, "mostLoops", "()I"⟩
abbrev cX12_mostWithin : ByteArray := prog_14_method_130_code
def yX12_mostWithin : MethodName := ⟨RX12, "mostWithin", "()I"⟩
abbrev cX12_mostOnStack : ByteArray := prog_14_method_131_code
def yX12_mostOnStack : MethodName := ⟨RX12, "mostOnStack", "()I"⟩
abbrev cX12_longestBlock : ByteArray := prog_14_method_132_code
def yX12_longestBlock : MethodName := ⟨RX12, "longestBlock", "()I"⟩
abbrev cX12_truths : ByteArray := prog_14_method_133_code
def yX12_truths : MethodName := ⟨RX12, "truths", "()I"⟩
abbrev cX12_most : ByteArray := prog_14_method_134_code
def yX12_most : MethodName := ⟨RX12, "most", "(I)I"⟩
abbrev cX12_begins : ByteArray := prog_14_method_135_code
def yX12_begins : MethodName := ⟨RX12, "begins", "(IIII)V"⟩
abbrev cX12_input : ByteArray := prog_14_method_136_code
def yX12_input : MethodName := ⟨RX12, "input", "()I"⟩
abbrev cX12_outputs : ByteArray := prog_14_method_137_code
def yX12_outputs : MethodName := ⟨RX12, "outputs", "(I)V"⟩
abbrev cX12_enters : ByteArray := prog_14_method_138_code
def yX12_enters : MethodName := ⟨RX12, "enters", "()V"⟩
abbrev cX12_throwsIt : ByteArray := prog_14_method_139_code
def yX12_throwsIt : MethodName := ⟨RX12, "throwsIt", "(I)V"⟩
abbrev cX12_result : ByteArray := prog_14_method_140_code
def yX12_result : MethodName := ⟨RX12, "result", "(III)I"⟩
abbrev cX12_next : ByteArray := prog_14_method_141_code
def yX12_next : MethodName := ⟨RX12, "next", "(I)I"⟩
abbrev cX12_caught : ByteArray := prog_14_method_142_code
def yX12_caught : MethodName := ⟨RX12, "caught", "(I)I"⟩
abbrev cX12_runsCode : ByteArray := prog_14_method_143_code
def yX12_runsCode : MethodName := ⟨RX12, "runsCode", "()V"⟩
abbrev cX12_valueOf : ByteArray := prog_14_method_144_code
def yX12_valueOf : MethodName := ⟨RX12, "valueOf", "(I)I"⟩
abbrev cX12_endOf : ByteArray := prog_14_method_145_code
def yX12_endOf : MethodName := ⟨RX12, "endOf", "(II)I"⟩
abbrev cX12_lineWith : ByteArray := prog_14_method_146_code
def yX12_lineWith : MethodName := ⟨RX12, "lineWith", "(II)I"⟩
abbrev cX12_otherwiseOf : ByteArray := prog_14_method_147_code
def yX12_otherwiseOf : MethodName := ⟨RX12, "otherwiseOf", "(I)I"⟩
abbrev cX12_states_ : ByteArray := prog_14_method_148_code
def yX12_states_ : MethodName := ⟨RX12, "states", "(II)I"⟩
abbrev cX12_puts : ByteArray := prog_14_method_149_code
def yX12_puts : MethodName := ⟨RX12, "puts", "(II)V"⟩
abbrev cX12_caughtLine : ByteArray := prog_14_method_150_code
def yX12_caughtLine : MethodName := ⟨RX12, "caughtLine", "(II)I"⟩
abbrev cX12_wayTo : ByteArray := prog_14_method_151_code
def yX12_wayTo : MethodName := ⟨RX12, "wayTo", "(II)I"⟩
abbrev cX12_nextLine : ByteArray := prog_14_method_152_code
def yX12_nextLine : MethodName := ⟨RX12, "nextLine", "(I)I"⟩
abbrev cX12_runsLines : ByteArray := prog_14_method_153_code
def yX12_runsLines : MethodName := ⟨RX12, "runsLines", "()V"⟩
abbrev cX12_hasRun : ByteArray := prog_14_method_154_code
def yX12_hasRun : MethodName := ⟨RX12, "hasRun", "(IIIII)Z"⟩
abbrev cX12_folded : ByteArray := prog_14_method_155_code
def yX12_folded : MethodName := ⟨RX12, "folded", "()I"⟩
abbrev cX12_run : ByteArray := prog_14_method_156_code
def yX12_run : MethodName := ⟨RX12, "run", "(IIIIII)I"⟩
abbrev cX12_output : ByteArray := prog_14_method_157_code
def yX12_output : MethodName := ⟨RX12, "output", "(IIIIII)I"⟩
def RJx145de : String := "java/io/Serializable"
def TJx145de : u_T := fun k => match k with
  | _ => ("", "", "", false)
def tyJx145de : Nat → FieldType := fun k => match k with
  | _ => .int
abbrev wsJx145de0 : List Cond := u_ws RJx145de TJx145de 0
theorem nmJx145de : ∀ a, a < 0 → ∀ b, b < 0 → a ≠ b → (TJx145de a).2.1 ≠ (TJx145de b).2.1 := by decide +kernel
theorem tyJx145de_ok : ∀ k, k < 0 → parseFieldDescriptor (TJx145de k).2.2.1 = some (tyJx145de k) := by decide +kernel
def RJx9f9b0 : String := "java/lang/CharSequence"
def TJx9f9b0 : u_T := fun k => match k with
  | _ => ("", "", "", false)
def tyJx9f9b0 : Nat → FieldType := fun k => match k with
  | _ => .int
abbrev wsJx9f9b00 : List Cond := u_ws RJx9f9b0 TJx9f9b0 0
theorem nmJx9f9b0 : ∀ a, a < 0 → ∀ b, b < 0 → a ≠ b → (TJx9f9b0 a).2.1 ≠ (TJx9f9b0 b).2.1 := by decide +kernel
theorem tyJx9f9b0_ok : ∀ k, k < 0 → parseFieldDescriptor (TJx9f9b0 k).2.2.1 = some (tyJx9f9b0 k) := by decide +kernel
def RJxb160c : String := "java/lang/Comparable"
def TJxb160c : u_T := fun k => match k with
  | _ => ("", "", "", false)
def tyJxb160c : Nat → FieldType := fun k => match k with
  | _ => .int
abbrev wsJxb160c0 : List Cond := u_ws RJxb160c TJxb160c 0
theorem nmJxb160c : ∀ a, a < 0 → ∀ b, b < 0 → a ≠ b → (TJxb160c a).2.1 ≠ (TJxb160c b).2.1 := by decide +kernel
theorem tyJxb160c_ok : ∀ k, k < 0 → parseFieldDescriptor (TJxb160c k).2.2.1 = some (tyJxb160c k) := by decide +kernel
def RJxd2413 : String := "java/lang/Number"
def TJxd2413 : u_T := fun k => match k with
  | _ => ("", "", "", false)
def tyJxd2413 : Nat → FieldType := fun k => match k with
  | _ => .int
abbrev wsJxd24130 : List Cond := u_ws RJxd2413 TJxd2413 0
theorem nmJxd2413 : ∀ a, a < 0 → ∀ b, b < 0 → a ≠ b → (TJxd2413 a).2.1 ≠ (TJxd2413 b).2.1 := by decide +kernel
theorem tyJxd2413_ok : ∀ k, k < 0 → parseFieldDescriptor (TJxd2413 k).2.2.1 = some (tyJxd2413 k) := by decide +kernel
def RJxfd54e : String := "java/lang/constant/Constable"
def TJxfd54e : u_T := fun k => match k with
  | _ => ("", "", "", false)
def tyJxfd54e : Nat → FieldType := fun k => match k with
  | _ => .int
abbrev wsJxfd54e0 : List Cond := u_ws RJxfd54e TJxfd54e 0
theorem nmJxfd54e : ∀ a, a < 0 → ∀ b, b < 0 → a ≠ b → (TJxfd54e a).2.1 ≠ (TJxfd54e b).2.1 := by decide +kernel
theorem tyJxfd54e_ok : ∀ k, k < 0 → parseFieldDescriptor (TJxfd54e k).2.2.1 = some (tyJxfd54e k) := by decide +kernel
def RJx3cf43 : String := "java/lang/constant/ConstantDesc"
def TJx3cf43 : u_T := fun k => match k with
  | _ => ("", "", "", false)
def tyJx3cf43 : Nat → FieldType := fun k => match k with
  | _ => .int
abbrev wsJx3cf430 : List Cond := u_ws RJx3cf43 TJx3cf43 0
theorem nmJx3cf43 : ∀ a, a < 0 → ∀ b, b < 0 → a ≠ b → (TJx3cf43 a).2.1 ≠ (TJx3cf43 b).2.1 := by decide +kernel
theorem tyJx3cf43_ok : ∀ k, k < 0 → parseFieldDescriptor (TJx3cf43 k).2.2.1 = some (tyJx3cf43 k) := by decide +kernel
def RL : String := "CodeLifterLaw"
abbrev cL_instruction : ByteArray := method_3_code
def yL_instruction : MethodName := ⟨RL, "instruction", "(LCodeLifter;II[J)I"⟩
abbrev cL_block : ByteArray := method_4_code
def yL_block : MethodName := ⟨RL, "block", "(LCodeLifter;II[J)I"⟩
abbrev cL_law : ByteArray := code
def yL_law : MethodName := ⟨RL, "law", "([I)Z"⟩
theorem dX0_init_0 : decode cX0_init 0 = .ok (.aload_n 0, 1) := by decide +kernel
theorem dX0_init_1 : decode cX0_init 1 = .ok (.invokespecial 3, 3) := by decide +kernel
theorem dX0_init_4 : decode cX0_init 4 = .ok (.aload_n 0, 1) := by decide +kernel
theorem dX0_init_5 : decode cX0_init 5 = .ok (.bipush 40, 2) := by decide +kernel
theorem dX0_init_7 : decode cX0_init 7 = .ok (.newarray .int, 2) := by decide +kernel
theorem dX0_init_9 : decode cX0_init 9 = .ok (.putfield 9, 3) := by decide +kernel
theorem dX0_init_12 : decode cX0_init 12 = .ok (.aload_n 0, 1) := by decide +kernel
theorem dX0_init_13 : decode cX0_init 13 = .ok (.bipush 40, 2) := by decide +kernel
theorem dX0_init_15 : decode cX0_init 15 = .ok (.newarray .int, 2) := by decide +kernel
theorem dX0_init_17 : decode cX0_init 17 = .ok (.putfield 15, 3) := by decide +kernel
theorem dX0_init_20 : decode cX0_init 20 = .ok (.aload_n 0, 1) := by decide +kernel
theorem dX0_init_21 : decode cX0_init 21 = .ok (.bipush 40, 2) := by decide +kernel
theorem dX0_init_23 : decode cX0_init 23 = .ok (.newarray .int, 2) := by decide +kernel
theorem dX0_init_25 : decode cX0_init 25 = .ok (.putfield 18, 3) := by decide +kernel
theorem dX0_init_28 : decode cX0_init 28 = .ok (.aload_n 0, 1) := by decide +kernel
theorem dX0_init_29 : decode cX0_init 29 = .ok (.bipush 40, 2) := by decide +kernel
theorem dX0_init_31 : decode cX0_init 31 = .ok (.newarray .int, 2) := by decide +kernel
theorem dX0_init_33 : decode cX0_init 33 = .ok (.putfield 21, 3) := by decide +kernel
theorem dX0_init_36 : decode cX0_init 36 = .ok (.aload_n 0, 1) := by decide +kernel
theorem dX0_init_37 : decode cX0_init 37 = .ok (.bipush 40, 2) := by decide +kernel
theorem dX0_init_39 : decode cX0_init 39 = .ok (.newarray .int, 2) := by decide +kernel
theorem dX0_init_41 : decode cX0_init 41 = .ok (.putfield 24, 3) := by decide +kernel
theorem dX0_init_44 : decode cX0_init 44 = .ok (.aload_n 0, 1) := by decide +kernel
theorem dX0_init_45 : decode cX0_init 45 = .ok (.bipush 40, 2) := by decide +kernel
theorem dX0_init_47 : decode cX0_init 47 = .ok (.newarray .int, 2) := by decide +kernel
theorem dX0_init_49 : decode cX0_init 49 = .ok (.putfield 27, 3) := by decide +kernel
theorem dX0_init_52 : decode cX0_init 52 = .ok (.aload_n 0, 1) := by decide +kernel
theorem dX0_init_53 : decode cX0_init 53 = .ok (.bipush 40, 2) := by decide +kernel
theorem dX0_init_55 : decode cX0_init 55 = .ok (.newarray .long, 2) := by decide +kernel
theorem dX0_init_57 : decode cX0_init 57 = .ok (.putfield 30, 3) := by decide +kernel
theorem dX0_init_60 : decode cX0_init 60 = .ok (.aload_n 0, 1) := by decide +kernel
theorem dX0_init_61 : decode cX0_init 61 = .ok (.bipush 41, 2) := by decide +kernel
theorem dX0_init_63 : decode cX0_init 63 = .ok (.newarray .int, 2) := by decide +kernel
theorem dX0_init_65 : decode cX0_init 65 = .ok (.putfield 34, 3) := by decide +kernel
theorem dX0_init_68 : decode cX0_init 68 = .ok (.aload_n 0, 1) := by decide +kernel
theorem dX0_init_69 : decode cX0_init 69 = .ok (.bipush 120, 2) := by decide +kernel
theorem dX0_init_71 : decode cX0_init 71 = .ok (.newarray .int, 2) := by decide +kernel
theorem dX0_init_73 : decode cX0_init 73 = .ok (.putfield 37, 3) := by decide +kernel
theorem dX0_init_76 : decode cX0_init 76 = .ok (.aload_n 0, 1) := by decide +kernel
theorem dX0_init_77 : decode cX0_init 77 = .ok (.bipush 120, 2) := by decide +kernel
theorem dX0_init_79 : decode cX0_init 79 = .ok (.newarray .int, 2) := by decide +kernel
theorem dX0_init_81 : decode cX0_init 81 = .ok (.putfield 40, 3) := by decide +kernel
theorem dX0_init_84 : decode cX0_init 84 = .ok (.aload_n 0, 1) := by decide +kernel
theorem dX0_init_85 : decode cX0_init 85 = .ok (.bipush 120, 2) := by decide +kernel
theorem dX0_init_87 : decode cX0_init 87 = .ok (.newarray .boolean, 2) := by decide +kernel
theorem dX0_init_89 : decode cX0_init 89 = .ok (.putfield 43, 3) := by decide +kernel
theorem dX0_init_92 : decode cX0_init 92 = .ok (.aload_n 0, 1) := by decide +kernel
theorem dX0_init_93 : decode cX0_init 93 = .ok (.bipush 41, 2) := by decide +kernel
theorem dX0_init_95 : decode cX0_init 95 = .ok (.newarray .boolean, 2) := by decide +kernel
theorem dX0_init_97 : decode cX0_init 97 = .ok (.putfield 47, 3) := by decide +kernel
theorem dX0_init_100 : decode cX0_init 100 = .ok (.aload_n 0, 1) := by decide +kernel
theorem dX0_init_101 : decode cX0_init 101 = .ok (.aload_n 1, 1) := by decide +kernel
theorem dX0_init_102 : decode cX0_init 102 = .ok (.putfield 50, 3) := by decide +kernel
theorem dX0_init_105 : decode cX0_init 105 = .ok (.return_, 1) := by decide +kernel
theorem dX1_init_0 : decode cX1_init 0 = .ok (.aload_n 0, 1) := by decide +kernel
theorem dX1_init_1 : decode cX1_init 1 = .ok (.invokespecial 3, 3) := by decide +kernel
theorem dX1_init_4 : decode cX1_init 4 = .ok (.aload_n 0, 1) := by decide +kernel
theorem dX1_init_5 : decode cX1_init 5 = .ok (.sipush 320, 3) := by decide +kernel
theorem dX1_init_8 : decode cX1_init 8 = .ok (.newarray .int, 2) := by decide +kernel
theorem dX1_init_10 : decode cX1_init 10 = .ok (.putfield 9, 3) := by decide +kernel
theorem dX1_init_13 : decode cX1_init 13 = .ok (.aload_n 0, 1) := by decide +kernel
theorem dX1_init_14 : decode cX1_init 14 = .ok (.sipush 320, 3) := by decide +kernel
theorem dX1_init_17 : decode cX1_init 17 = .ok (.newarray .int, 2) := by decide +kernel
theorem dX1_init_19 : decode cX1_init 19 = .ok (.putfield 15, 3) := by decide +kernel
theorem dX1_init_22 : decode cX1_init 22 = .ok (.aload_n 0, 1) := by decide +kernel
theorem dX1_init_23 : decode cX1_init 23 = .ok (.sipush 320, 3) := by decide +kernel
theorem dX1_init_26 : decode cX1_init 26 = .ok (.newarray .int, 2) := by decide +kernel
theorem dX1_init_28 : decode cX1_init 28 = .ok (.putfield 18, 3) := by decide +kernel
theorem dX1_init_31 : decode cX1_init 31 = .ok (.aload_n 0, 1) := by decide +kernel
theorem dX1_init_32 : decode cX1_init 32 = .ok (.bipush 41, 2) := by decide +kernel
theorem dX1_init_34 : decode cX1_init 34 = .ok (.newarray .int, 2) := by decide +kernel
theorem dX1_init_36 : decode cX1_init 36 = .ok (.putfield 21, 3) := by decide +kernel
theorem dX1_init_39 : decode cX1_init 39 = .ok (.aload_n 0, 1) := by decide +kernel
theorem dX1_init_40 : decode cX1_init 40 = .ok (.bipush 40, 2) := by decide +kernel
theorem dX1_init_42 : decode cX1_init 42 = .ok (.newarray .int, 2) := by decide +kernel
theorem dX1_init_44 : decode cX1_init 44 = .ok (.putfield 24, 3) := by decide +kernel
theorem dX1_init_47 : decode cX1_init 47 = .ok (.aload_n 0, 1) := by decide +kernel
theorem dX1_init_48 : decode cX1_init 48 = .ok (.bipush 8, 2) := by decide +kernel
theorem dX1_init_50 : decode cX1_init 50 = .ok (.newarray .int, 2) := by decide +kernel
theorem dX1_init_52 : decode cX1_init 52 = .ok (.putfield 27, 3) := by decide +kernel
theorem dX1_init_55 : decode cX1_init 55 = .ok (.aload_n 0, 1) := by decide +kernel
theorem dX1_init_56 : decode cX1_init 56 = .ok (.sipush 512, 3) := by decide +kernel
theorem dX1_init_59 : decode cX1_init 59 = .ok (.newarray .boolean, 2) := by decide +kernel
theorem dX1_init_61 : decode cX1_init 61 = .ok (.putfield 30, 3) := by decide +kernel
theorem dX1_init_64 : decode cX1_init 64 = .ok (.aload_n 0, 1) := by decide +kernel
theorem dX1_init_65 : decode cX1_init 65 = .ok (.aload_n 1, 1) := by decide +kernel
theorem dX1_init_66 : decode cX1_init 66 = .ok (.putfield 34, 3) := by decide +kernel
theorem dX1_init_69 : decode cX1_init 69 = .ok (.aload_n 0, 1) := by decide +kernel
theorem dX1_init_70 : decode cX1_init 70 = .ok (.aload_n 2, 1) := by decide +kernel
theorem dX1_init_71 : decode cX1_init 71 = .ok (.putfield 38, 3) := by decide +kernel
theorem dX1_init_74 : decode cX1_init 74 = .ok (.aload_n 0, 1) := by decide +kernel
theorem dX1_init_75 : decode cX1_init 75 = .ok (.aload_n 3, 1) := by decide +kernel
theorem dX1_init_76 : decode cX1_init 76 = .ok (.putfield 42, 3) := by decide +kernel
theorem dX1_init_79 : decode cX1_init 79 = .ok (.return_, 1) := by decide +kernel
theorem dX2_init_0 : decode cX2_init 0 = .ok (.aload_n 0, 1) := by decide +kernel
theorem dX2_init_1 : decode cX2_init 1 = .ok (.invokespecial 3, 3) := by decide +kernel
theorem dX2_init_4 : decode cX2_init 4 = .ok (.aload_n 0, 1) := by decide +kernel
theorem dX2_init_5 : decode cX2_init 5 = .ok (.sipush 800, 3) := by decide +kernel
theorem dX2_init_8 : decode cX2_init 8 = .ok (.newarray .int, 2) := by decide +kernel
theorem dX2_init_10 : decode cX2_init 10 = .ok (.putfield 9, 3) := by decide +kernel
theorem dX2_init_13 : decode cX2_init 13 = .ok (.aload_n 0, 1) := by decide +kernel
theorem dX2_init_14 : decode cX2_init 14 = .ok (.sipush 800, 3) := by decide +kernel
theorem dX2_init_17 : decode cX2_init 17 = .ok (.newarray .int, 2) := by decide +kernel
theorem dX2_init_19 : decode cX2_init 19 = .ok (.putfield 15, 3) := by decide +kernel
theorem dX2_init_22 : decode cX2_init 22 = .ok (.aload_n 0, 1) := by decide +kernel
theorem dX2_init_23 : decode cX2_init 23 = .ok (.sipush 800, 3) := by decide +kernel
theorem dX2_init_26 : decode cX2_init 26 = .ok (.newarray .int, 2) := by decide +kernel
theorem dX2_init_28 : decode cX2_init 28 = .ok (.putfield 18, 3) := by decide +kernel
theorem dX2_init_31 : decode cX2_init 31 = .ok (.aload_n 0, 1) := by decide +kernel
theorem dX2_init_32 : decode cX2_init 32 = .ok (.sipush 800, 3) := by decide +kernel
theorem dX2_init_35 : decode cX2_init 35 = .ok (.newarray .int, 2) := by decide +kernel
theorem dX2_init_37 : decode cX2_init 37 = .ok (.putfield 21, 3) := by decide +kernel
theorem dX2_init_40 : decode cX2_init 40 = .ok (.aload_n 0, 1) := by decide +kernel
theorem dX2_init_41 : decode cX2_init 41 = .ok (.bipush 40, 2) := by decide +kernel
theorem dX2_init_43 : decode cX2_init 43 = .ok (.newarray .int, 2) := by decide +kernel
theorem dX2_init_45 : decode cX2_init 45 = .ok (.putfield 24, 3) := by decide +kernel
theorem dX2_init_48 : decode cX2_init 48 = .ok (.aload_n 0, 1) := by decide +kernel
theorem dX2_init_49 : decode cX2_init 49 = .ok (.bipush 40, 2) := by decide +kernel
theorem dX2_init_51 : decode cX2_init 51 = .ok (.newarray .int, 2) := by decide +kernel
theorem dX2_init_53 : decode cX2_init 53 = .ok (.putfield 27, 3) := by decide +kernel
theorem dX2_init_56 : decode cX2_init 56 = .ok (.aload_n 0, 1) := by decide +kernel
theorem dX2_init_57 : decode cX2_init 57 = .ok (.bipush 40, 2) := by decide +kernel
theorem dX2_init_59 : decode cX2_init 59 = .ok (.newarray .int, 2) := by decide +kernel
theorem dX2_init_61 : decode cX2_init 61 = .ok (.putfield 30, 3) := by decide +kernel
theorem dX2_init_64 : decode cX2_init 64 = .ok (.aload_n 0, 1) := by decide +kernel
theorem dX2_init_65 : decode cX2_init 65 = .ok (.bipush 120, 2) := by decide +kernel
theorem dX2_init_67 : decode cX2_init 67 = .ok (.newarray .int, 2) := by decide +kernel
theorem dX2_init_69 : decode cX2_init 69 = .ok (.putfield 33, 3) := by decide +kernel
theorem dX2_init_72 : decode cX2_init 72 = .ok (.aload_n 0, 1) := by decide +kernel
theorem dX2_init_73 : decode cX2_init 73 = .ok (.aload_n 1, 1) := by decide +kernel
theorem dX2_init_74 : decode cX2_init 74 = .ok (.putfield 36, 3) := by decide +kernel
theorem dX2_init_77 : decode cX2_init 77 = .ok (.aload_n 0, 1) := by decide +kernel
theorem dX2_init_78 : decode cX2_init 78 = .ok (.aload_n 2, 1) := by decide +kernel
theorem dX2_init_79 : decode cX2_init 79 = .ok (.putfield 40, 3) := by decide +kernel
theorem dX2_init_82 : decode cX2_init 82 = .ok (.aload_n 0, 1) := by decide +kernel
theorem dX2_init_83 : decode cX2_init 83 = .ok (.aload_n 3, 1) := by decide +kernel
theorem dX2_init_84 : decode cX2_init 84 = .ok (.putfield 44, 3) := by decide +kernel
theorem dX2_init_87 : decode cX2_init 87 = .ok (.return_, 1) := by decide +kernel
theorem dX3_init_0 : decode cX3_init 0 = .ok (.aload_n 0, 1) := by decide +kernel
theorem dX3_init_1 : decode cX3_init 1 = .ok (.invokespecial 3, 3) := by decide +kernel
theorem dX3_init_4 : decode cX3_init 4 = .ok (.aload_n 0, 1) := by decide +kernel
theorem dX3_init_5 : decode cX3_init 5 = .ok (.bipush 40, 2) := by decide +kernel
theorem dX3_init_7 : decode cX3_init 7 = .ok (.newarray .int, 2) := by decide +kernel
theorem dX3_init_9 : decode cX3_init 9 = .ok (.putfield 9, 3) := by decide +kernel
theorem dX3_init_12 : decode cX3_init 12 = .ok (.aload_n 0, 1) := by decide +kernel
theorem dX3_init_13 : decode cX3_init 13 = .ok (.bipush 40, 2) := by decide +kernel
theorem dX3_init_15 : decode cX3_init 15 = .ok (.newarray .int, 2) := by decide +kernel
theorem dX3_init_17 : decode cX3_init 17 = .ok (.putfield 15, 3) := by decide +kernel
theorem dX3_init_20 : decode cX3_init 20 = .ok (.aload_n 0, 1) := by decide +kernel
theorem dX3_init_21 : decode cX3_init 21 = .ok (.bipush 40, 2) := by decide +kernel
theorem dX3_init_23 : decode cX3_init 23 = .ok (.newarray .int, 2) := by decide +kernel
theorem dX3_init_25 : decode cX3_init 25 = .ok (.putfield 18, 3) := by decide +kernel
theorem dX3_init_28 : decode cX3_init 28 = .ok (.aload_n 0, 1) := by decide +kernel
theorem dX3_init_29 : decode cX3_init 29 = .ok (.iconst 3, 1) := by decide +kernel
theorem dX3_init_30 : decode cX3_init 30 = .ok (.newarray .int, 2) := by decide +kernel
theorem dX3_init_32 : decode cX3_init 32 = .ok (.putfield 21, 3) := by decide +kernel
theorem dX3_init_35 : decode cX3_init 35 = .ok (.aload_n 0, 1) := by decide +kernel
theorem dX3_init_36 : decode cX3_init 36 = .ok (.iconst 3, 1) := by decide +kernel
theorem dX3_init_37 : decode cX3_init 37 = .ok (.newarray .int, 2) := by decide +kernel
theorem dX3_init_39 : decode cX3_init 39 = .ok (.putfield 24, 3) := by decide +kernel
theorem dX3_init_42 : decode cX3_init 42 = .ok (.aload_n 0, 1) := by decide +kernel
theorem dX3_init_43 : decode cX3_init 43 = .ok (.iconst 3, 1) := by decide +kernel
theorem dX3_init_44 : decode cX3_init 44 = .ok (.newarray .int, 2) := by decide +kernel
theorem dX3_init_46 : decode cX3_init 46 = .ok (.putfield 27, 3) := by decide +kernel
theorem dX3_init_49 : decode cX3_init 49 = .ok (.return_, 1) := by decide +kernel
theorem dX4_init_0 : decode cX4_init 0 = .ok (.aload_n 0, 1) := by decide +kernel
theorem dX4_init_1 : decode cX4_init 1 = .ok (.invokespecial 3, 3) := by decide +kernel
theorem dX4_init_4 : decode cX4_init 4 = .ok (.aload_n 0, 1) := by decide +kernel
theorem dX4_init_5 : decode cX4_init 5 = .ok (.bipush 40, 2) := by decide +kernel
theorem dX4_init_7 : decode cX4_init 7 = .ok (.newarray .int, 2) := by decide +kernel
theorem dX4_init_9 : decode cX4_init 9 = .ok (.putfield 9, 3) := by decide +kernel
theorem dX4_init_12 : decode cX4_init 12 = .ok (.aload_n 0, 1) := by decide +kernel
theorem dX4_init_13 : decode cX4_init 13 = .ok (.bipush 40, 2) := by decide +kernel
theorem dX4_init_15 : decode cX4_init 15 = .ok (.newarray .int, 2) := by decide +kernel
theorem dX4_init_17 : decode cX4_init 17 = .ok (.putfield 15, 3) := by decide +kernel
theorem dX4_init_20 : decode cX4_init 20 = .ok (.aload_n 0, 1) := by decide +kernel
theorem dX4_init_21 : decode cX4_init 21 = .ok (.aload_n 1, 1) := by decide +kernel
theorem dX4_init_22 : decode cX4_init 22 = .ok (.putfield 18, 3) := by decide +kernel
theorem dX4_init_25 : decode cX4_init 25 = .ok (.aload_n 0, 1) := by decide +kernel
theorem dX4_init_26 : decode cX4_init 26 = .ok (.aload_n 2, 1) := by decide +kernel
theorem dX4_init_27 : decode cX4_init 27 = .ok (.putfield 22, 3) := by decide +kernel
theorem dX4_init_30 : decode cX4_init 30 = .ok (.return_, 1) := by decide +kernel
theorem dX5_init_0 : decode cX5_init 0 = .ok (.aload_n 0, 1) := by decide +kernel
theorem dX5_init_1 : decode cX5_init 1 = .ok (.invokespecial 3, 3) := by decide +kernel
theorem dX5_init_4 : decode cX5_init 4 = .ok (.aload_n 0, 1) := by decide +kernel
theorem dX5_init_5 : decode cX5_init 5 = .ok (.bipush 6, 2) := by decide +kernel
theorem dX5_init_7 : decode cX5_init 7 = .ok (.newarray .int, 2) := by decide +kernel
theorem dX5_init_9 : decode cX5_init 9 = .ok (.putfield 9, 3) := by decide +kernel
theorem dX5_init_12 : decode cX5_init 12 = .ok (.aload_n 0, 1) := by decide +kernel
theorem dX5_init_13 : decode cX5_init 13 = .ok (.bipush 8, 2) := by decide +kernel
theorem dX5_init_15 : decode cX5_init 15 = .ok (.newarray .int, 2) := by decide +kernel
theorem dX5_init_17 : decode cX5_init 17 = .ok (.putfield 15, 3) := by decide +kernel
theorem dX5_init_20 : decode cX5_init 20 = .ok (.aload_n 0, 1) := by decide +kernel
theorem dX5_init_21 : decode cX5_init 21 = .ok (.sipush 161, 3) := by decide +kernel
theorem dX5_init_24 : decode cX5_init 24 = .ok (.newarray .int, 2) := by decide +kernel
theorem dX5_init_26 : decode cX5_init 26 = .ok (.putfield 18, 3) := by decide +kernel
theorem dX5_init_29 : decode cX5_init 29 = .ok (.aload_n 0, 1) := by decide +kernel
theorem dX5_init_30 : decode cX5_init 30 = .ok (.aload_n 1, 1) := by decide +kernel
theorem dX5_init_31 : decode cX5_init 31 = .ok (.putfield 21, 3) := by decide +kernel
theorem dX5_init_34 : decode cX5_init 34 = .ok (.aload_n 0, 1) := by decide +kernel
theorem dX5_init_35 : decode cX5_init 35 = .ok (.aload_n 2, 1) := by decide +kernel
theorem dX5_init_36 : decode cX5_init 36 = .ok (.putfield 25, 3) := by decide +kernel
theorem dX5_init_39 : decode cX5_init 39 = .ok (.aload_n 0, 1) := by decide +kernel
theorem dX5_init_40 : decode cX5_init 40 = .ok (.aload_n 3, 1) := by decide +kernel
theorem dX5_init_41 : decode cX5_init 41 = .ok (.putfield 29, 3) := by decide +kernel
theorem dX5_init_44 : decode cX5_init 44 = .ok (.aload_n 0, 1) := by decide +kernel
theorem dX5_init_45 : decode cX5_init 45 = .ok (.aload 4, 2) := by decide +kernel
theorem dX5_init_47 : decode cX5_init 47 = .ok (.putfield 33, 3) := by decide +kernel
theorem dX5_init_50 : decode cX5_init 50 = .ok (.aload_n 0, 1) := by decide +kernel
theorem dX5_init_51 : decode cX5_init 51 = .ok (.aload 5, 2) := by decide +kernel
theorem dX5_init_53 : decode cX5_init 53 = .ok (.putfield 37, 3) := by decide +kernel
theorem dX5_init_56 : decode cX5_init 56 = .ok (.return_, 1) := by decide +kernel
theorem dX6_init_0 : decode cX6_init 0 = .ok (.aload_n 0, 1) := by decide +kernel
theorem dX6_init_1 : decode cX6_init 1 = .ok (.invokespecial 3, 3) := by decide +kernel
theorem dX6_init_4 : decode cX6_init 4 = .ok (.aload_n 0, 1) := by decide +kernel
theorem dX6_init_5 : decode cX6_init 5 = .ok (.sipush 400, 3) := by decide +kernel
theorem dX6_init_8 : decode cX6_init 8 = .ok (.newarray .int, 2) := by decide +kernel
theorem dX6_init_10 : decode cX6_init 10 = .ok (.putfield 9, 3) := by decide +kernel
theorem dX6_init_13 : decode cX6_init 13 = .ok (.aload_n 0, 1) := by decide +kernel
theorem dX6_init_14 : decode cX6_init 14 = .ok (.aload_n 1, 1) := by decide +kernel
theorem dX6_init_15 : decode cX6_init 15 = .ok (.putfield 15, 3) := by decide +kernel
theorem dX6_init_18 : decode cX6_init 18 = .ok (.aload_n 0, 1) := by decide +kernel
theorem dX6_init_19 : decode cX6_init 19 = .ok (.aload_n 2, 1) := by decide +kernel
theorem dX6_init_20 : decode cX6_init 20 = .ok (.putfield 19, 3) := by decide +kernel
theorem dX6_init_23 : decode cX6_init 23 = .ok (.aload_n 0, 1) := by decide +kernel
theorem dX6_init_24 : decode cX6_init 24 = .ok (.aload_n 3, 1) := by decide +kernel
theorem dX6_init_25 : decode cX6_init 25 = .ok (.putfield 23, 3) := by decide +kernel
theorem dX6_init_28 : decode cX6_init 28 = .ok (.return_, 1) := by decide +kernel
theorem dX7_init_0 : decode cX7_init 0 = .ok (.aload_n 0, 1) := by decide +kernel
theorem dX7_init_1 : decode cX7_init 1 = .ok (.invokespecial 3, 3) := by decide +kernel
theorem dX7_init_4 : decode cX7_init 4 = .ok (.aload_n 0, 1) := by decide +kernel
theorem dX7_init_5 : decode cX7_init 5 = .ok (.sipush 512, 3) := by decide +kernel
theorem dX7_init_8 : decode cX7_init 8 = .ok (.newarray .int, 2) := by decide +kernel
theorem dX7_init_10 : decode cX7_init 10 = .ok (.putfield 9, 3) := by decide +kernel
theorem dX7_init_13 : decode cX7_init 13 = .ok (.aload_n 0, 1) := by decide +kernel
theorem dX7_init_14 : decode cX7_init 14 = .ok (.sipush 512, 3) := by decide +kernel
theorem dX7_init_17 : decode cX7_init 17 = .ok (.newarray .int, 2) := by decide +kernel
theorem dX7_init_19 : decode cX7_init 19 = .ok (.putfield 15, 3) := by decide +kernel
theorem dX7_init_22 : decode cX7_init 22 = .ok (.aload_n 0, 1) := by decide +kernel
theorem dX7_init_23 : decode cX7_init 23 = .ok (.sipush 512, 3) := by decide +kernel
theorem dX7_init_26 : decode cX7_init 26 = .ok (.newarray .int, 2) := by decide +kernel
theorem dX7_init_28 : decode cX7_init 28 = .ok (.putfield 18, 3) := by decide +kernel
theorem dX7_init_31 : decode cX7_init 31 = .ok (.aload_n 0, 1) := by decide +kernel
theorem dX7_init_32 : decode cX7_init 32 = .ok (.sipush 512, 3) := by decide +kernel
theorem dX7_init_35 : decode cX7_init 35 = .ok (.newarray .int, 2) := by decide +kernel
theorem dX7_init_37 : decode cX7_init 37 = .ok (.putfield 21, 3) := by decide +kernel
theorem dX7_init_40 : decode cX7_init 40 = .ok (.aload_n 0, 1) := by decide +kernel
theorem dX7_init_41 : decode cX7_init 41 = .ok (.sipush 512, 3) := by decide +kernel
theorem dX7_init_44 : decode cX7_init 44 = .ok (.newarray .int, 2) := by decide +kernel
theorem dX7_init_46 : decode cX7_init 46 = .ok (.putfield 24, 3) := by decide +kernel
theorem dX7_init_49 : decode cX7_init 49 = .ok (.return_, 1) := by decide +kernel
theorem dX8_init_0 : decode cX8_init 0 = .ok (.aload_n 0, 1) := by decide +kernel
theorem dX8_init_1 : decode cX8_init 1 = .ok (.invokespecial 3, 3) := by decide +kernel
theorem dX8_init_4 : decode cX8_init 4 = .ok (.aload_n 0, 1) := by decide +kernel
theorem dX8_init_5 : decode cX8_init 5 = .ok (.bipush 120, 2) := by decide +kernel
theorem dX8_init_7 : decode cX8_init 7 = .ok (.newarray .boolean, 2) := by decide +kernel
theorem dX8_init_9 : decode cX8_init 9 = .ok (.putfield 9, 3) := by decide +kernel
theorem dX8_init_12 : decode cX8_init 12 = .ok (.aload_n 0, 1) := by decide +kernel
theorem dX8_init_13 : decode cX8_init 13 = .ok (.bipush 120, 2) := by decide +kernel
theorem dX8_init_15 : decode cX8_init 15 = .ok (.newarray .boolean, 2) := by decide +kernel
theorem dX8_init_17 : decode cX8_init 17 = .ok (.putfield 15, 3) := by decide +kernel
theorem dX8_init_20 : decode cX8_init 20 = .ok (.aload_n 0, 1) := by decide +kernel
theorem dX8_init_21 : decode cX8_init 21 = .ok (.bipush 40, 2) := by decide +kernel
theorem dX8_init_23 : decode cX8_init 23 = .ok (.newarray .int, 2) := by decide +kernel
theorem dX8_init_25 : decode cX8_init 25 = .ok (.putfield 18, 3) := by decide +kernel
theorem dX8_init_28 : decode cX8_init 28 = .ok (.aload_n 0, 1) := by decide +kernel
theorem dX8_init_29 : decode cX8_init 29 = .ok (.bipush 40, 2) := by decide +kernel
theorem dX8_init_31 : decode cX8_init 31 = .ok (.newarray .int, 2) := by decide +kernel
theorem dX8_init_33 : decode cX8_init 33 = .ok (.putfield 22, 3) := by decide +kernel
theorem dX8_init_36 : decode cX8_init 36 = .ok (.aload_n 0, 1) := by decide +kernel
theorem dX8_init_37 : decode cX8_init 37 = .ok (.bipush 40, 2) := by decide +kernel
theorem dX8_init_39 : decode cX8_init 39 = .ok (.newarray .long, 2) := by decide +kernel
theorem dX8_init_41 : decode cX8_init 41 = .ok (.putfield 25, 3) := by decide +kernel
theorem dX8_init_44 : decode cX8_init 44 = .ok (.aload_n 0, 1) := by decide +kernel
theorem dX8_init_45 : decode cX8_init 45 = .ok (.bipush 40, 2) := by decide +kernel
theorem dX8_init_47 : decode cX8_init 47 = .ok (.newarray .int, 2) := by decide +kernel
theorem dX8_init_49 : decode cX8_init 49 = .ok (.putfield 29, 3) := by decide +kernel
theorem dX8_init_52 : decode cX8_init 52 = .ok (.aload_n 0, 1) := by decide +kernel
theorem dX8_init_53 : decode cX8_init 53 = .ok (.bipush 40, 2) := by decide +kernel
theorem dX8_init_55 : decode cX8_init 55 = .ok (.newarray .long, 2) := by decide +kernel
theorem dX8_init_57 : decode cX8_init 57 = .ok (.putfield 32, 3) := by decide +kernel
theorem dX8_init_60 : decode cX8_init 60 = .ok (.aload_n 0, 1) := by decide +kernel
theorem dX8_init_61 : decode cX8_init 61 = .ok (.bipush 40, 2) := by decide +kernel
theorem dX8_init_63 : decode cX8_init 63 = .ok (.newarray .long, 2) := by decide +kernel
theorem dX8_init_65 : decode cX8_init 65 = .ok (.putfield 35, 3) := by decide +kernel
theorem dX8_init_68 : decode cX8_init 68 = .ok (.aload_n 0, 1) := by decide +kernel
theorem dX8_init_69 : decode cX8_init 69 = .ok (.bipush 40, 2) := by decide +kernel
theorem dX8_init_71 : decode cX8_init 71 = .ok (.newarray .int, 2) := by decide +kernel
theorem dX8_init_73 : decode cX8_init 73 = .ok (.putfield 38, 3) := by decide +kernel
theorem dX8_init_76 : decode cX8_init 76 = .ok (.aload_n 0, 1) := by decide +kernel
theorem dX8_init_77 : decode cX8_init 77 = .ok (.bipush 40, 2) := by decide +kernel
theorem dX8_init_79 : decode cX8_init 79 = .ok (.newarray .int, 2) := by decide +kernel
theorem dX8_init_81 : decode cX8_init 81 = .ok (.putfield 41, 3) := by decide +kernel
theorem dX8_init_84 : decode cX8_init 84 = .ok (.aload_n 0, 1) := by decide +kernel
theorem dX8_init_85 : decode cX8_init 85 = .ok (.bipush 120, 2) := by decide +kernel
theorem dX8_init_87 : decode cX8_init 87 = .ok (.newarray .int, 2) := by decide +kernel
theorem dX8_init_89 : decode cX8_init 89 = .ok (.putfield 44, 3) := by decide +kernel
theorem dX8_init_92 : decode cX8_init 92 = .ok (.aload_n 0, 1) := by decide +kernel
theorem dX8_init_93 : decode cX8_init 93 = .ok (.aload_n 1, 1) := by decide +kernel
theorem dX8_init_94 : decode cX8_init 94 = .ok (.putfield 47, 3) := by decide +kernel
theorem dX8_init_97 : decode cX8_init 97 = .ok (.return_, 1) := by decide +kernel
theorem dX9_init_0 : decode cX9_init 0 = .ok (.aload_n 0, 1) := by decide +kernel
theorem dX9_init_1 : decode cX9_init 1 = .ok (.invokespecial 3, 3) := by decide +kernel
theorem dX9_init_4 : decode cX9_init 4 = .ok (.aload_n 0, 1) := by decide +kernel
theorem dX9_init_5 : decode cX9_init 5 = .ok (.sipush 240, 3) := by decide +kernel
theorem dX9_init_8 : decode cX9_init 8 = .ok (.newarray .byte, 2) := by decide +kernel
theorem dX9_init_10 : decode cX9_init 10 = .ok (.putfield 9, 3) := by decide +kernel
theorem dX9_init_13 : decode cX9_init 13 = .ok (.return_, 1) := by decide +kernel
theorem dX9_append_0 : decode cX9_append 0 = .ok (.bipush 24, 2) := by decide +kernel
theorem dX9_append_2 : decode cX9_append 2 = .ok (.istore_n 2, 1) := by decide +kernel
theorem dX9_append_3 : decode cX9_append 3 = .ok (.iload_n 2, 1) := by decide +kernel
theorem dX9_append_4 : decode cX9_append 4 = .ok (.ifCond .lt 52, 3) := by decide +kernel
theorem dX9_append_7 : decode cX9_append 7 = .ok (.iload_n 1, 1) := by decide +kernel
theorem dX9_append_8 : decode cX9_append 8 = .ok (.iload_n 2, 1) := by decide +kernel
theorem dX9_append_9 : decode cX9_append 9 = .ok (.iushr, 1) := by decide +kernel
theorem dX9_append_10 : decode cX9_append 10 = .ok (.sipush 255, 3) := by decide +kernel
theorem dX9_append_13 : decode cX9_append 13 = .ok (.iand, 1) := by decide +kernel
theorem dX9_append_14 : decode cX9_append 14 = .ok (.istore_n 3, 1) := by decide +kernel
theorem dX9_append_15 : decode cX9_append 15 = .ok (.iload_n 3, 1) := by decide +kernel
theorem dX9_append_16 : decode cX9_append 16 = .ok (.ifCond .eq 34, 3) := by decide +kernel
theorem dX9_append_19 : decode cX9_append 19 = .ok (.aload_n 0, 1) := by decide +kernel
theorem dX9_append_20 : decode cX9_append 20 = .ok (.getfield 15, 3) := by decide +kernel
theorem dX9_append_23 : decode cX9_append 23 = .ok (.sipush 240, 3) := by decide +kernel
theorem dX9_append_26 : decode cX9_append 26 = .ok (.if_icmp .ge 24, 3) := by decide +kernel
theorem dX9_append_29 : decode cX9_append 29 = .ok (.aload_n 0, 1) := by decide +kernel
theorem dX9_append_30 : decode cX9_append 30 = .ok (.getfield 9, 3) := by decide +kernel
theorem dX9_append_33 : decode cX9_append 33 = .ok (.aload_n 0, 1) := by decide +kernel
theorem dX9_append_34 : decode cX9_append 34 = .ok (.getfield 15, 3) := by decide +kernel
theorem dX9_append_37 : decode cX9_append 37 = .ok (.iload_n 3, 1) := by decide +kernel
theorem dX9_append_38 : decode cX9_append 38 = .ok (.i2b, 1) := by decide +kernel
theorem dX9_append_39 : decode cX9_append 39 = .ok (.bastore, 1) := by decide +kernel
theorem dX9_append_40 : decode cX9_append 40 = .ok (.aload_n 0, 1) := by decide +kernel
theorem dX9_append_41 : decode cX9_append 41 = .ok (.dup, 1) := by decide +kernel
theorem dX9_append_42 : decode cX9_append 42 = .ok (.getfield 15, 3) := by decide +kernel
theorem dX9_append_45 : decode cX9_append 45 = .ok (.iconst 1, 1) := by decide +kernel
theorem dX9_append_46 : decode cX9_append 46 = .ok (.iadd, 1) := by decide +kernel
theorem dX9_append_47 : decode cX9_append 47 = .ok (.putfield 15, 3) := by decide +kernel
theorem dX9_append_50 : decode cX9_append 50 = .ok (.iinc 2 (-8), 3) := by decide +kernel
theorem dX9_append_53 : decode cX9_append 53 = .ok (.goto (-50), 3) := by decide +kernel
theorem dX9_append_56 : decode cX9_append 56 = .ok (.return_, 1) := by decide +kernel
theorem dX9_read_0 : decode cX9_read 0 = .ok (.aload_n 0, 1) := by decide +kernel
theorem dX9_read_1 : decode cX9_read 1 = .ok (.iconst 0, 1) := by decide +kernel
theorem dX9_read_2 : decode cX9_read 2 = .ok (.putfield 19, 3) := by decide +kernel
theorem dX9_read_5 : decode cX9_read 5 = .ok (.aload_n 1, 1) := by decide +kernel
theorem dX9_read_6 : decode cX9_read 6 = .ok (.iconst 0, 1) := by decide +kernel
theorem dX9_read_7 : decode cX9_read 7 = .ok (.putfield 22, 3) := by decide +kernel
theorem dX9_read_10 : decode cX9_read 10 = .ok (.aload_n 1, 1) := by decide +kernel
theorem dX9_read_11 : decode cX9_read 11 = .ok (.iconst 0, 1) := by decide +kernel
theorem dX9_read_12 : decode cX9_read 12 = .ok (.putfield 27, 3) := by decide +kernel
theorem dX9_read_15 : decode cX9_read 15 = .ok (.aload_n 0, 1) := by decide +kernel
theorem dX9_read_16 : decode cX9_read 16 = .ok (.invokevirtual 30, 3) := by decide +kernel
theorem dX9_read_19 : decode cX9_read 19 = .ok (.iconst 0, 1) := by decide +kernel
theorem dX9_read_20 : decode cX9_read 20 = .ok (.istore_n 2, 1) := by decide +kernel
theorem dX9_read_21 : decode cX9_read 21 = .ok (.iload_n 2, 1) := by decide +kernel
theorem dX9_read_22 : decode cX9_read 22 = .ok (.bipush 40, 2) := by decide +kernel
theorem dX9_read_24 : decode cX9_read 24 = .ok (.if_icmp .gt 43, 3) := by decide +kernel
theorem dX9_read_27 : decode cX9_read 27 = .ok (.aload_n 0, 1) := by decide +kernel
theorem dX9_read_28 : decode cX9_read 28 = .ok (.getfield 19, 3) := by decide +kernel
theorem dX9_read_31 : decode cX9_read 31 = .ok (.aload_n 0, 1) := by decide +kernel
theorem dX9_read_32 : decode cX9_read 32 = .ok (.getfield 15, 3) := by decide +kernel
theorem dX9_read_35 : decode cX9_read 35 = .ok (.if_icmp .ge 32, 3) := by decide +kernel
theorem dX9_read_38 : decode cX9_read 38 = .ok (.aload_n 0, 1) := by decide +kernel
theorem dX9_read_39 : decode cX9_read 39 = .ok (.invokevirtual 33, 3) := by decide +kernel
theorem dX9_read_42 : decode cX9_read 42 = .ok (.bipush 104, 2) := by decide +kernel
theorem dX9_read_44 : decode cX9_read 44 = .ok (.if_icmp .eq 23, 3) := by decide +kernel
theorem dX9_read_47 : decode cX9_read 47 = .ok (.aload_n 0, 1) := by decide +kernel
theorem dX9_read_48 : decode cX9_read 48 = .ok (.aload_n 1, 1) := by decide +kernel
theorem dX9_read_49 : decode cX9_read 49 = .ok (.invokevirtual 37, 3) := by decide +kernel
theorem dX9_read_52 : decode cX9_read 52 = .ok (.ifCond .ne 5, 3) := by decide +kernel
theorem dX9_read_55 : decode cX9_read 55 = .ok (.iconst 0, 1) := by decide +kernel
theorem dX9_read_56 : decode cX9_read 56 = .ok (.ireturn, 1) := by decide +kernel
theorem dX9_read_57 : decode cX9_read 57 = .ok (.aload_n 0, 1) := by decide +kernel
theorem dX9_read_58 : decode cX9_read 58 = .ok (.invokevirtual 30, 3) := by decide +kernel
theorem dX9_read_61 : decode cX9_read 61 = .ok (.iinc 2 1, 3) := by decide +kernel
theorem dX9_read_64 : decode cX9_read 64 = .ok (.goto (-43), 3) := by decide +kernel
theorem dX9_read_67 : decode cX9_read 67 = .ok (.aload_n 1, 1) := by decide +kernel
theorem dX9_read_68 : decode cX9_read 68 = .ok (.getfield 22, 3) := by decide +kernel
theorem dX9_read_71 : decode cX9_read 71 = .ok (.ifCond .ne 5, 3) := by decide +kernel
theorem dX9_read_74 : decode cX9_read 74 = .ok (.iconst 0, 1) := by decide +kernel
theorem dX9_read_75 : decode cX9_read 75 = .ok (.ireturn, 1) := by decide +kernel
theorem dX9_read_76 : decode cX9_read 76 = .ok (.iconst 0, 1) := by decide +kernel
theorem dX9_read_77 : decode cX9_read 77 = .ok (.istore_n 2, 1) := by decide +kernel
theorem dX9_read_78 : decode cX9_read 78 = .ok (.iload_n 2, 1) := by decide +kernel
theorem dX9_read_79 : decode cX9_read 79 = .ok (.iconst 3, 1) := by decide +kernel
theorem dX9_read_80 : decode cX9_read 80 = .ok (.if_icmp .gt 34, 3) := by decide +kernel
theorem dX9_read_83 : decode cX9_read 83 = .ok (.aload_n 0, 1) := by decide +kernel
theorem dX9_read_84 : decode cX9_read 84 = .ok (.getfield 19, 3) := by decide +kernel
theorem dX9_read_87 : decode cX9_read 87 = .ok (.aload_n 0, 1) := by decide +kernel
theorem dX9_read_88 : decode cX9_read 88 = .ok (.getfield 15, 3) := by decide +kernel
theorem dX9_read_91 : decode cX9_read 91 = .ok (.if_icmp .ge 23, 3) := by decide +kernel
theorem dX9_read_94 : decode cX9_read 94 = .ok (.aload_n 0, 1) := by decide +kernel
theorem dX9_read_95 : decode cX9_read 95 = .ok (.aload_n 1, 1) := by decide +kernel
theorem dX9_read_96 : decode cX9_read 96 = .ok (.invokevirtual 41, 3) := by decide +kernel
theorem dX9_read_99 : decode cX9_read 99 = .ok (.ifCond .ne 5, 3) := by decide +kernel
theorem dX9_read_102 : decode cX9_read 102 = .ok (.iconst 0, 1) := by decide +kernel
theorem dX9_read_103 : decode cX9_read 103 = .ok (.ireturn, 1) := by decide +kernel
theorem dX9_read_104 : decode cX9_read 104 = .ok (.aload_n 0, 1) := by decide +kernel
theorem dX9_read_105 : decode cX9_read 105 = .ok (.invokevirtual 30, 3) := by decide +kernel
theorem dX9_read_108 : decode cX9_read 108 = .ok (.iinc 2 1, 3) := by decide +kernel
theorem dX9_read_111 : decode cX9_read 111 = .ok (.goto (-33), 3) := by decide +kernel
theorem dX9_read_114 : decode cX9_read 114 = .ok (.iconst 1, 1) := by decide +kernel
theorem dX9_read_115 : decode cX9_read 115 = .ok (.ireturn, 1) := by decide +kernel
theorem dX9_skipBlanks_0 : decode cX9_skipBlanks 0 = .ok (.aload_n 0, 1) := by decide +kernel
theorem dX9_skipBlanks_1 : decode cX9_skipBlanks 1 = .ok (.getfield 19, 3) := by decide +kernel
theorem dX9_skipBlanks_4 : decode cX9_skipBlanks 4 = .ok (.aload_n 0, 1) := by decide +kernel
theorem dX9_skipBlanks_5 : decode cX9_skipBlanks 5 = .ok (.getfield 15, 3) := by decide +kernel
theorem dX9_skipBlanks_8 : decode cX9_skipBlanks 8 = .ok (.if_icmp .ge 25, 3) := by decide +kernel
theorem dX9_skipBlanks_11 : decode cX9_skipBlanks 11 = .ok (.aload_n 0, 1) := by decide +kernel
theorem dX9_skipBlanks_12 : decode cX9_skipBlanks 12 = .ok (.invokevirtual 33, 3) := by decide +kernel
theorem dX9_skipBlanks_15 : decode cX9_skipBlanks 15 = .ok (.bipush 32, 2) := by decide +kernel
theorem dX9_skipBlanks_17 : decode cX9_skipBlanks 17 = .ok (.if_icmp .ne 16, 3) := by decide +kernel
theorem dX9_skipBlanks_20 : decode cX9_skipBlanks 20 = .ok (.aload_n 0, 1) := by decide +kernel
theorem dX9_skipBlanks_21 : decode cX9_skipBlanks 21 = .ok (.dup, 1) := by decide +kernel
theorem dX9_skipBlanks_22 : decode cX9_skipBlanks 22 = .ok (.getfield 19, 3) := by decide +kernel
theorem dX9_skipBlanks_25 : decode cX9_skipBlanks 25 = .ok (.iconst 1, 1) := by decide +kernel
theorem dX9_skipBlanks_26 : decode cX9_skipBlanks 26 = .ok (.iadd, 1) := by decide +kernel
theorem dX9_skipBlanks_27 : decode cX9_skipBlanks 27 = .ok (.putfield 19, 3) := by decide +kernel
theorem dX9_skipBlanks_30 : decode cX9_skipBlanks 30 = .ok (.goto (-30), 3) := by decide +kernel
theorem dX9_skipBlanks_33 : decode cX9_skipBlanks 33 = .ok (.return_, 1) := by decide +kernel
theorem dX10_init_0 : decode cX10_init 0 = .ok (.aload_n 0, 1) := by decide +kernel
theorem dX10_init_1 : decode cX10_init 1 = .ok (.invokespecial 3, 3) := by decide +kernel
theorem dX10_init_4 : decode cX10_init 4 = .ok (.aload_n 0, 1) := by decide +kernel
theorem dX10_init_5 : decode cX10_init 5 = .ok (.bipush 6, 2) := by decide +kernel
theorem dX10_init_7 : decode cX10_init 7 = .ok (.newarray .boolean, 2) := by decide +kernel
theorem dX10_init_9 : decode cX10_init 9 = .ok (.putfield 9, 3) := by decide +kernel
theorem dX10_init_12 : decode cX10_init 12 = .ok (.aload_n 0, 1) := by decide +kernel
theorem dX10_init_13 : decode cX10_init 13 = .ok (.bipush 6, 2) := by decide +kernel
theorem dX10_init_15 : decode cX10_init 15 = .ok (.newarray .boolean, 2) := by decide +kernel
theorem dX10_init_17 : decode cX10_init 17 = .ok (.putfield 15, 3) := by decide +kernel
theorem dX10_init_20 : decode cX10_init 20 = .ok (.aload_n 0, 1) := by decide +kernel
theorem dX10_init_21 : decode cX10_init 21 = .ok (.sipush 160, 3) := by decide +kernel
theorem dX10_init_24 : decode cX10_init 24 = .ok (.newarray .boolean, 2) := by decide +kernel
theorem dX10_init_26 : decode cX10_init 26 = .ok (.putfield 18, 3) := by decide +kernel
theorem dX10_init_29 : decode cX10_init 29 = .ok (.aload_n 0, 1) := by decide +kernel
theorem dX10_init_30 : decode cX10_init 30 = .ok (.aload_n 1, 1) := by decide +kernel
theorem dX10_init_31 : decode cX10_init 31 = .ok (.putfield 21, 3) := by decide +kernel
theorem dX10_init_34 : decode cX10_init 34 = .ok (.aload_n 0, 1) := by decide +kernel
theorem dX10_init_35 : decode cX10_init 35 = .ok (.aload_n 2, 1) := by decide +kernel
theorem dX10_init_36 : decode cX10_init 36 = .ok (.putfield 25, 3) := by decide +kernel
theorem dX10_init_39 : decode cX10_init 39 = .ok (.aload_n 0, 1) := by decide +kernel
theorem dX10_init_40 : decode cX10_init 40 = .ok (.aload_n 3, 1) := by decide +kernel
theorem dX10_init_41 : decode cX10_init 41 = .ok (.putfield 29, 3) := by decide +kernel
theorem dX10_init_44 : decode cX10_init 44 = .ok (.return_, 1) := by decide +kernel
theorem dX11_init_0 : decode cX11_init 0 = .ok (.aload_n 0, 1) := by decide +kernel
theorem dX11_init_1 : decode cX11_init 1 = .ok (.invokespecial 1, 3) := by decide +kernel
theorem dX11_init_4 : decode cX11_init 4 = .ok (.aload_n 0, 1) := by decide +kernel
theorem dX11_init_5 : decode cX11_init 5 = .ok (.new 7, 3) := by decide +kernel
theorem dX11_init_8 : decode cX11_init 8 = .ok (.dup, 1) := by decide +kernel
theorem dX11_init_9 : decode cX11_init 9 = .ok (.invokespecial 9, 3) := by decide +kernel
theorem dX11_init_12 : decode cX11_init 12 = .ok (.putfield 10, 3) := by decide +kernel
theorem dX11_init_15 : decode cX11_init 15 = .ok (.aload_n 0, 1) := by decide +kernel
theorem dX11_init_16 : decode cX11_init 16 = .ok (.new 16, 3) := by decide +kernel
theorem dX11_init_19 : decode cX11_init 19 = .ok (.dup, 1) := by decide +kernel
theorem dX11_init_20 : decode cX11_init 20 = .ok (.invokespecial 18, 3) := by decide +kernel
theorem dX11_init_23 : decode cX11_init 23 = .ok (.putfield 19, 3) := by decide +kernel
theorem dX11_init_26 : decode cX11_init 26 = .ok (.aload_n 0, 1) := by decide +kernel
theorem dX11_init_27 : decode cX11_init 27 = .ok (.new 16, 3) := by decide +kernel
theorem dX11_init_30 : decode cX11_init 30 = .ok (.dup, 1) := by decide +kernel
theorem dX11_init_31 : decode cX11_init 31 = .ok (.invokespecial 18, 3) := by decide +kernel
theorem dX11_init_34 : decode cX11_init 34 = .ok (.putfield 23, 3) := by decide +kernel
theorem dX11_init_37 : decode cX11_init 37 = .ok (.aload_n 0, 1) := by decide +kernel
theorem dX11_init_38 : decode cX11_init 38 = .ok (.new 26, 3) := by decide +kernel
theorem dX11_init_41 : decode cX11_init 41 = .ok (.dup, 1) := by decide +kernel
theorem dX11_init_42 : decode cX11_init 42 = .ok (.aload_n 0, 1) := by decide +kernel
theorem dX11_init_43 : decode cX11_init 43 = .ok (.getfield 19, 3) := by decide +kernel
theorem dX11_init_46 : decode cX11_init 46 = .ok (.invokespecial 28, 3) := by decide +kernel
theorem dX11_init_49 : decode cX11_init 49 = .ok (.putfield 31, 3) := by decide +kernel
theorem dX11_init_52 : decode cX11_init 52 = .ok (.aload_n 0, 1) := by decide +kernel
theorem dX11_init_53 : decode cX11_init 53 = .ok (.new 35, 3) := by decide +kernel
theorem dX11_init_56 : decode cX11_init 56 = .ok (.dup, 1) := by decide +kernel
theorem dX11_init_57 : decode cX11_init 57 = .ok (.aload_n 0, 1) := by decide +kernel
theorem dX11_init_58 : decode cX11_init 58 = .ok (.getfield 31, 3) := by decide +kernel
theorem dX11_init_61 : decode cX11_init 61 = .ok (.invokespecial 37, 3) := by decide +kernel
theorem dX11_init_64 : decode cX11_init 64 = .ok (.putfield 40, 3) := by decide +kernel
theorem dX11_init_67 : decode cX11_init 67 = .ok (.aload_n 0, 1) := by decide +kernel
theorem dX11_init_68 : decode cX11_init 68 = .ok (.new 44, 3) := by decide +kernel
theorem dX11_init_71 : decode cX11_init 71 = .ok (.dup, 1) := by decide +kernel
theorem dX11_init_72 : decode cX11_init 72 = .ok (.invokespecial 46, 3) := by decide +kernel
theorem dX11_init_75 : decode cX11_init 75 = .ok (.putfield 47, 3) := by decide +kernel
theorem dX11_init_78 : decode cX11_init 78 = .ok (.aload_n 0, 1) := by decide +kernel
theorem dX11_init_79 : decode cX11_init 79 = .ok (.new 51, 3) := by decide +kernel
theorem dX11_init_82 : decode cX11_init 82 = .ok (.dup, 1) := by decide +kernel
theorem dX11_init_83 : decode cX11_init 83 = .ok (.aload_n 0, 1) := by decide +kernel
theorem dX11_init_84 : decode cX11_init 84 = .ok (.getfield 19, 3) := by decide +kernel
theorem dX11_init_87 : decode cX11_init 87 = .ok (.aload_n 0, 1) := by decide +kernel
theorem dX11_init_88 : decode cX11_init 88 = .ok (.getfield 31, 3) := by decide +kernel
theorem dX11_init_91 : decode cX11_init 91 = .ok (.aload_n 0, 1) := by decide +kernel
theorem dX11_init_92 : decode cX11_init 92 = .ok (.getfield 47, 3) := by decide +kernel
theorem dX11_init_95 : decode cX11_init 95 = .ok (.invokespecial 53, 3) := by decide +kernel
theorem dX11_init_98 : decode cX11_init 98 = .ok (.putfield 56, 3) := by decide +kernel
theorem dX11_init_101 : decode cX11_init 101 = .ok (.aload_n 0, 1) := by decide +kernel
theorem dX11_init_102 : decode cX11_init 102 = .ok (.new 60, 3) := by decide +kernel
theorem dX11_init_105 : decode cX11_init 105 = .ok (.dup, 1) := by decide +kernel
theorem dX11_init_106 : decode cX11_init 106 = .ok (.aload_n 0, 1) := by decide +kernel
theorem dX11_init_107 : decode cX11_init 107 = .ok (.getfield 31, 3) := by decide +kernel
theorem dX11_init_110 : decode cX11_init 110 = .ok (.aload_n 0, 1) := by decide +kernel
theorem dX11_init_111 : decode cX11_init 111 = .ok (.getfield 47, 3) := by decide +kernel
theorem dX11_init_114 : decode cX11_init 114 = .ok (.aload_n 0, 1) := by decide +kernel
theorem dX11_init_115 : decode cX11_init 115 = .ok (.getfield 56, 3) := by decide +kernel
theorem dX11_init_118 : decode cX11_init 118 = .ok (.invokespecial 62, 3) := by decide +kernel
theorem dX11_init_121 : decode cX11_init 121 = .ok (.putfield 65, 3) := by decide +kernel
theorem dX11_init_124 : decode cX11_init 124 = .ok (.aload_n 0, 1) := by decide +kernel
theorem dX11_init_125 : decode cX11_init 125 = .ok (.new 69, 3) := by decide +kernel
theorem dX11_init_128 : decode cX11_init 128 = .ok (.dup, 1) := by decide +kernel
theorem dX11_init_129 : decode cX11_init 129 = .ok (.aload_n 0, 1) := by decide +kernel
theorem dX11_init_130 : decode cX11_init 130 = .ok (.getfield 19, 3) := by decide +kernel
theorem dX11_init_133 : decode cX11_init 133 = .ok (.aload_n 0, 1) := by decide +kernel
theorem dX11_init_134 : decode cX11_init 134 = .ok (.getfield 31, 3) := by decide +kernel
theorem dX11_init_137 : decode cX11_init 137 = .ok (.invokespecial 71, 3) := by decide +kernel
theorem dX11_init_140 : decode cX11_init 140 = .ok (.putfield 74, 3) := by decide +kernel
theorem dX11_init_143 : decode cX11_init 143 = .ok (.aload_n 0, 1) := by decide +kernel
theorem dX11_init_144 : decode cX11_init 144 = .ok (.new 78, 3) := by decide +kernel
theorem dX11_init_147 : decode cX11_init 147 = .ok (.dup, 1) := by decide +kernel
theorem dX11_init_148 : decode cX11_init 148 = .ok (.aload_n 0, 1) := by decide +kernel
theorem dX11_init_149 : decode cX11_init 149 = .ok (.getfield 31, 3) := by decide +kernel
theorem dX11_init_152 : decode cX11_init 152 = .ok (.aload_n 0, 1) := by decide +kernel
theorem dX11_init_153 : decode cX11_init 153 = .ok (.getfield 40, 3) := by decide +kernel
theorem dX11_init_156 : decode cX11_init 156 = .ok (.aload_n 0, 1) := by decide +kernel
theorem dX11_init_157 : decode cX11_init 157 = .ok (.getfield 56, 3) := by decide +kernel
theorem dX11_init_160 : decode cX11_init 160 = .ok (.invokespecial 80, 3) := by decide +kernel
theorem dX11_init_163 : decode cX11_init 163 = .ok (.putfield 83, 3) := by decide +kernel
theorem dX11_init_166 : decode cX11_init 166 = .ok (.aload_n 0, 1) := by decide +kernel
theorem dX11_init_167 : decode cX11_init 167 = .ok (.new 87, 3) := by decide +kernel
theorem dX11_init_170 : decode cX11_init 170 = .ok (.dup, 1) := by decide +kernel
theorem dX11_init_171 : decode cX11_init 171 = .ok (.aload_n 0, 1) := by decide +kernel
theorem dX11_init_172 : decode cX11_init 172 = .ok (.getfield 19, 3) := by decide +kernel
theorem dX11_init_175 : decode cX11_init 175 = .ok (.aload_n 0, 1) := by decide +kernel
theorem dX11_init_176 : decode cX11_init 176 = .ok (.getfield 31, 3) := by decide +kernel
theorem dX11_init_179 : decode cX11_init 179 = .ok (.aload_n 0, 1) := by decide +kernel
theorem dX11_init_180 : decode cX11_init 180 = .ok (.getfield 47, 3) := by decide +kernel
theorem dX11_init_183 : decode cX11_init 183 = .ok (.aload_n 0, 1) := by decide +kernel
theorem dX11_init_184 : decode cX11_init 184 = .ok (.getfield 56, 3) := by decide +kernel
theorem dX11_init_187 : decode cX11_init 187 = .ok (.aload_n 0, 1) := by decide +kernel
theorem dX11_init_188 : decode cX11_init 188 = .ok (.getfield 83, 3) := by decide +kernel
theorem dX11_init_191 : decode cX11_init 191 = .ok (.invokespecial 89, 3) := by decide +kernel
theorem dX11_init_194 : decode cX11_init 194 = .ok (.putfield 92, 3) := by decide +kernel
theorem dX11_init_197 : decode cX11_init 197 = .ok (.aload_n 0, 1) := by decide +kernel
theorem dX11_init_198 : decode cX11_init 198 = .ok (.new 96, 3) := by decide +kernel
theorem dX11_init_201 : decode cX11_init 201 = .ok (.dup, 1) := by decide +kernel
theorem dX11_init_202 : decode cX11_init 202 = .ok (.aload_n 0, 1) := by decide +kernel
theorem dX11_init_203 : decode cX11_init 203 = .ok (.getfield 47, 3) := by decide +kernel
theorem dX11_init_206 : decode cX11_init 206 = .ok (.aload_n 0, 1) := by decide +kernel
theorem dX11_init_207 : decode cX11_init 207 = .ok (.getfield 56, 3) := by decide +kernel
theorem dX11_init_210 : decode cX11_init 210 = .ok (.aload_n 0, 1) := by decide +kernel
theorem dX11_init_211 : decode cX11_init 211 = .ok (.getfield 83, 3) := by decide +kernel
theorem dX11_init_214 : decode cX11_init 214 = .ok (.invokespecial 98, 3) := by decide +kernel
theorem dX11_init_217 : decode cX11_init 217 = .ok (.putfield 101, 3) := by decide +kernel
theorem dX11_init_220 : decode cX11_init 220 = .ok (.aload_n 0, 1) := by decide +kernel
theorem dX11_init_221 : decode cX11_init 221 = .ok (.iconst 0, 1) := by decide +kernel
theorem dX11_init_222 : decode cX11_init 222 = .ok (.putfield 105, 3) := by decide +kernel
theorem dX11_init_225 : decode cX11_init 225 = .ok (.return_, 1) := by decide +kernel
theorem dX11_feed_0 : decode cX11_feed 0 = .ok (.iload_n 1, 1) := by decide +kernel
theorem dX11_feed_1 : decode cX11_feed 1 = .ok (.invokestatic 109, 3) := by decide +kernel
theorem dX11_feed_4 : decode cX11_feed 4 = .ok (.iload_n 2, 1) := by decide +kernel
theorem dX11_feed_5 : decode cX11_feed 5 = .ok (.invokestatic 109, 3) := by decide +kernel
theorem dX11_feed_8 : decode cX11_feed 8 = .ok (.iadd, 1) := by decide +kernel
theorem dX11_feed_9 : decode cX11_feed 9 = .ok (.iload_n 3, 1) := by decide +kernel
theorem dX11_feed_10 : decode cX11_feed 10 = .ok (.invokestatic 109, 3) := by decide +kernel
theorem dX11_feed_13 : decode cX11_feed 13 = .ok (.iadd, 1) := by decide +kernel
theorem dX11_feed_14 : decode cX11_feed 14 = .ok (.iload 4, 2) := by decide +kernel
theorem dX11_feed_16 : decode cX11_feed 16 = .ok (.invokestatic 109, 3) := by decide +kernel
theorem dX11_feed_19 : decode cX11_feed 19 = .ok (.iadd, 1) := by decide +kernel
theorem dX11_feed_20 : decode cX11_feed 20 = .ok (.iload 5, 2) := by decide +kernel
theorem dX11_feed_22 : decode cX11_feed 22 = .ok (.invokestatic 109, 3) := by decide +kernel
theorem dX11_feed_25 : decode cX11_feed 25 = .ok (.iadd, 1) := by decide +kernel
theorem dX11_feed_26 : decode cX11_feed 26 = .ok (.istore 6, 2) := by decide +kernel
theorem dX11_feed_28 : decode cX11_feed 28 = .ok (.aload_n 0, 1) := by decide +kernel
theorem dX11_feed_29 : decode cX11_feed 29 = .ok (.getfield 10, 3) := by decide +kernel
theorem dX11_feed_32 : decode cX11_feed 32 = .ok (.getfield 113, 3) := by decide +kernel
theorem dX11_feed_35 : decode cX11_feed 35 = .ok (.iload 6, 2) := by decide +kernel
theorem dX11_feed_37 : decode cX11_feed 37 = .ok (.iadd, 1) := by decide +kernel
theorem dX11_feed_38 : decode cX11_feed 38 = .ok (.sipush 240, 3) := by decide +kernel
theorem dX11_feed_41 : decode cX11_feed 41 = .ok (.if_icmp .le 5, 3) := by decide +kernel
theorem dX11_feed_44 : decode cX11_feed 44 = .ok (.iconst (-1), 1) := by decide +kernel
theorem dX11_feed_45 : decode cX11_feed 45 = .ok (.ireturn, 1) := by decide +kernel
theorem dX11_feed_46 : decode cX11_feed 46 = .ok (.aload_n 0, 1) := by decide +kernel
theorem dX11_feed_47 : decode cX11_feed 47 = .ok (.getfield 10, 3) := by decide +kernel
theorem dX11_feed_50 : decode cX11_feed 50 = .ok (.iload_n 1, 1) := by decide +kernel
theorem dX11_feed_51 : decode cX11_feed 51 = .ok (.invokevirtual 117, 3) := by decide +kernel
theorem dX11_feed_54 : decode cX11_feed 54 = .ok (.aload_n 0, 1) := by decide +kernel
theorem dX11_feed_55 : decode cX11_feed 55 = .ok (.getfield 10, 3) := by decide +kernel
theorem dX11_feed_58 : decode cX11_feed 58 = .ok (.iload_n 2, 1) := by decide +kernel
theorem dX11_feed_59 : decode cX11_feed 59 = .ok (.invokevirtual 117, 3) := by decide +kernel
theorem dX11_feed_62 : decode cX11_feed 62 = .ok (.aload_n 0, 1) := by decide +kernel
theorem dX11_feed_63 : decode cX11_feed 63 = .ok (.getfield 10, 3) := by decide +kernel
theorem dX11_feed_66 : decode cX11_feed 66 = .ok (.iload_n 3, 1) := by decide +kernel
theorem dX11_feed_67 : decode cX11_feed 67 = .ok (.invokevirtual 117, 3) := by decide +kernel
theorem dX11_feed_70 : decode cX11_feed 70 = .ok (.aload_n 0, 1) := by decide +kernel
theorem dX11_feed_71 : decode cX11_feed 71 = .ok (.getfield 10, 3) := by decide +kernel
theorem dX11_feed_74 : decode cX11_feed 74 = .ok (.iload 4, 2) := by decide +kernel
theorem dX11_feed_76 : decode cX11_feed 76 = .ok (.invokevirtual 117, 3) := by decide +kernel
theorem dX11_feed_79 : decode cX11_feed 79 = .ok (.aload_n 0, 1) := by decide +kernel
theorem dX11_feed_80 : decode cX11_feed 80 = .ok (.getfield 10, 3) := by decide +kernel
theorem dX11_feed_83 : decode cX11_feed 83 = .ok (.iload 5, 2) := by decide +kernel
theorem dX11_feed_85 : decode cX11_feed 85 = .ok (.invokevirtual 117, 3) := by decide +kernel
theorem dX11_feed_88 : decode cX11_feed 88 = .ok (.aload_n 0, 1) := by decide +kernel
theorem dX11_feed_89 : decode cX11_feed 89 = .ok (.getfield 10, 3) := by decide +kernel
theorem dX11_feed_92 : decode cX11_feed 92 = .ok (.getfield 113, 3) := by decide +kernel
theorem dX11_feed_95 : decode cX11_feed 95 = .ok (.ireturn, 1) := by decide +kernel
theorem dX11_end_0 : decode cX11_end 0 = .ok (.iload_n 1, 1) := by decide +kernel
theorem dX11_end_1 : decode cX11_end 1 = .ok (.ifCond .lt 14, 3) := by decide +kernel
theorem dX11_end_4 : decode cX11_end 4 = .ok (.iload_n 1, 1) := by decide +kernel
theorem dX11_end_5 : decode cX11_end 5 = .ok (.aload_n 0, 1) := by decide +kernel
theorem dX11_end_6 : decode cX11_end 6 = .ok (.getfield 10, 3) := by decide +kernel
theorem dX11_end_9 : decode cX11_end 9 = .ok (.getfield 113, 3) := by decide +kernel
theorem dX11_end_12 : decode cX11_end 12 = .ok (.if_icmp .le 5, 3) := by decide +kernel
theorem dX11_end_15 : decode cX11_end 15 = .ok (.iconst 0, 1) := by decide +kernel
theorem dX11_end_16 : decode cX11_end 16 = .ok (.ireturn, 1) := by decide +kernel
theorem dX11_end_17 : decode cX11_end 17 = .ok (.aload_n 0, 1) := by decide +kernel
theorem dX11_end_18 : decode cX11_end 18 = .ok (.getfield 10, 3) := by decide +kernel
theorem dX11_end_21 : decode cX11_end 21 = .ok (.iload_n 1, 1) := by decide +kernel
theorem dX11_end_22 : decode cX11_end 22 = .ok (.putfield 113, 3) := by decide +kernel
theorem dX11_end_25 : decode cX11_end 25 = .ok (.iconst 1, 1) := by decide +kernel
theorem dX11_end_26 : decode cX11_end 26 = .ok (.ireturn, 1) := by decide +kernel
theorem dX11_fault_0 : decode cX11_fault 0 = .ok (.aload_n 0, 1) := by decide +kernel
theorem dX11_fault_1 : decode cX11_fault 1 = .ok (.getfield 10, 3) := by decide +kernel
theorem dX11_fault_4 : decode cX11_fault 4 = .ok (.aload_n 0, 1) := by decide +kernel
theorem dX11_fault_5 : decode cX11_fault 5 = .ok (.getfield 23, 3) := by decide +kernel
theorem dX11_fault_8 : decode cX11_fault 8 = .ok (.invokevirtual 121, 3) := by decide +kernel
theorem dX11_fault_11 : decode cX11_fault 11 = .ok (.ifCond .eq 7, 3) := by decide +kernel
theorem dX11_fault_14 : decode cX11_fault 14 = .ok (.iconst (-1), 1) := by decide +kernel
theorem dX11_fault_15 : decode cX11_fault 15 = .ok (.goto 10, 3) := by decide +kernel
theorem dX11_fault_18 : decode cX11_fault 18 = .ok (.aload_n 0, 1) := by decide +kernel
theorem dX11_fault_19 : decode cX11_fault 19 = .ok (.getfield 10, 3) := by decide +kernel
theorem dX11_fault_22 : decode cX11_fault 22 = .ok (.getfield 125, 3) := by decide +kernel
theorem dX11_fault_25 : decode cX11_fault 25 = .ok (.ireturn, 1) := by decide +kernel
theorem dX11_code_0 : decode cX11_code 0 = .ok (.aload_n 0, 1) := by decide +kernel
theorem dX11_code_1 : decode cX11_code 1 = .ok (.getfield 10, 3) := by decide +kernel
theorem dX11_code_4 : decode cX11_code 4 = .ok (.aload_n 0, 1) := by decide +kernel
theorem dX11_code_5 : decode cX11_code 5 = .ok (.getfield 23, 3) := by decide +kernel
theorem dX11_code_8 : decode cX11_code 8 = .ok (.invokevirtual 121, 3) := by decide +kernel
theorem dX11_code_11 : decode cX11_code 11 = .ok (.ifCond .ne 5, 3) := by decide +kernel
theorem dX11_code_14 : decode cX11_code 14 = .ok (.iconst (-1), 1) := by decide +kernel
theorem dX11_code_15 : decode cX11_code 15 = .ok (.ireturn, 1) := by decide +kernel
theorem dX11_code_16 : decode cX11_code 16 = .ok (.aload_n 0, 1) := by decide +kernel
theorem dX11_code_17 : decode cX11_code 17 = .ok (.getfield 23, 3) := by decide +kernel
theorem dX11_code_20 : decode cX11_code 20 = .ok (.invokevirtual 128, 3) := by decide +kernel
theorem dX11_code_23 : decode cX11_code 23 = .ok (.istore_n 1, 1) := by decide +kernel
theorem dX11_code_24 : decode cX11_code 24 = .ok (.iload_n 1, 1) := by decide +kernel
theorem dX11_code_25 : decode cX11_code 25 = .ok (.ifCond .eq 5, 3) := by decide +kernel
theorem dX11_code_28 : decode cX11_code 28 = .ok (.iload_n 1, 1) := by decide +kernel
theorem dX11_code_29 : decode cX11_code 29 = .ok (.ireturn, 1) := by decide +kernel
theorem dX11_code_30 : decode cX11_code 30 = .ok (.aload_n 0, 1) := by decide +kernel
theorem dX11_code_31 : decode cX11_code 31 = .ok (.getfield 10, 3) := by decide +kernel
theorem dX11_code_34 : decode cX11_code 34 = .ok (.iconst 0, 1) := by decide +kernel
theorem dX11_code_35 : decode cX11_code 35 = .ok (.putfield 113, 3) := by decide +kernel
theorem dX11_code_38 : decode cX11_code 38 = .ok (.aload_n 0, 1) := by decide +kernel
theorem dX11_code_39 : decode cX11_code 39 = .ok (.invokevirtual 132, 3) := by decide +kernel
theorem dX11_code_42 : decode cX11_code 42 = .ok (.aload_n 0, 1) := by decide +kernel
theorem dX11_code_43 : decode cX11_code 43 = .ok (.getfield 31, 3) := by decide +kernel
theorem dX11_code_46 : decode cX11_code 46 = .ok (.getfield 135, 3) := by decide +kernel
theorem dX11_code_49 : decode cX11_code 49 = .ok (.ireturn, 1) := by decide +kernel
theorem dX11_put_0 : decode cX11_put 0 = .ok (.aload_n 0, 1) := by decide +kernel
theorem dX11_put_1 : decode cX11_put 1 = .ok (.getfield 105, 3) := by decide +kernel
theorem dX11_put_4 : decode cX11_put 4 = .ok (.ifCond .eq 26, 3) := by decide +kernel
theorem dX11_put_7 : decode cX11_put 7 = .ok (.iload_n 1, 1) := by decide +kernel
theorem dX11_put_8 : decode cX11_put 8 = .ok (.ifCond .lt 22, 3) := by decide +kernel
theorem dX11_put_11 : decode cX11_put 11 = .ok (.iload_n 1, 1) := by decide +kernel
theorem dX11_put_12 : decode cX11_put 12 = .ok (.aload_n 0, 1) := by decide +kernel
theorem dX11_put_13 : decode cX11_put 13 = .ok (.getfield 19, 3) := by decide +kernel
theorem dX11_put_16 : decode cX11_put 16 = .ok (.getfield 138, 3) := by decide +kernel
theorem dX11_put_19 : decode cX11_put 19 = .ok (.if_icmp .ge 11, 3) := by decide +kernel
theorem dX11_put_22 : decode cX11_put 22 = .ok (.iload_n 2, 1) := by decide +kernel
theorem dX11_put_23 : decode cX11_put 23 = .ok (.iload_n 3, 1) := by decide +kernel
theorem dX11_put_24 : decode cX11_put 24 = .ok (.invokestatic 139, 3) := by decide +kernel
theorem dX11_put_27 : decode cX11_put 27 = .ok (.ifCond .ne 5, 3) := by decide +kernel
theorem dX11_put_30 : decode cX11_put 30 = .ok (.iconst (-1), 1) := by decide +kernel
theorem dX11_put_31 : decode cX11_put 31 = .ok (.ireturn, 1) := by decide +kernel
theorem dX11_put_32 : decode cX11_put 32 = .ok (.aload_n 0, 1) := by decide +kernel
theorem dX11_put_33 : decode cX11_put 33 = .ok (.getfield 23, 3) := by decide +kernel
theorem dX11_put_36 : decode cX11_put 36 = .ok (.aload_n 0, 1) := by decide +kernel
theorem dX11_put_37 : decode cX11_put 37 = .ok (.getfield 19, 3) := by decide +kernel
theorem dX11_put_40 : decode cX11_put 40 = .ok (.invokevirtual 143, 3) := by decide +kernel
theorem dX11_put_43 : decode cX11_put 43 = .ok (.aload_n 0, 1) := by decide +kernel
theorem dX11_put_44 : decode cX11_put 44 = .ok (.getfield 23, 3) := by decide +kernel
theorem dX11_put_47 : decode cX11_put 47 = .ok (.getfield 146, 3) := by decide +kernel
theorem dX11_put_50 : decode cX11_put 50 = .ok (.iload_n 1, 1) := by decide +kernel
theorem dX11_put_51 : decode cX11_put 51 = .ok (.iload_n 2, 1) := by decide +kernel
theorem dX11_put_52 : decode cX11_put 52 = .ok (.iastore, 1) := by decide +kernel
theorem dX11_put_53 : decode cX11_put 53 = .ok (.aload_n 0, 1) := by decide +kernel
theorem dX11_put_54 : decode cX11_put 54 = .ok (.getfield 23, 3) := by decide +kernel
theorem dX11_put_57 : decode cX11_put 57 = .ok (.getfield 150, 3) := by decide +kernel
theorem dX11_put_60 : decode cX11_put 60 = .ok (.iload_n 1, 1) := by decide +kernel
theorem dX11_put_61 : decode cX11_put 61 = .ok (.iload_n 3, 1) := by decide +kernel
theorem dX11_put_62 : decode cX11_put 62 = .ok (.iastore, 1) := by decide +kernel
theorem dX11_put_63 : decode cX11_put 63 = .ok (.aload_n 0, 1) := by decide +kernel
theorem dX11_put_64 : decode cX11_put 64 = .ok (.getfield 23, 3) := by decide +kernel
theorem dX11_put_67 : decode cX11_put 67 = .ok (.invokevirtual 128, 3) := by decide +kernel
theorem dX11_put_70 : decode cX11_put 70 = .ok (.istore 4, 2) := by decide +kernel
theorem dX11_put_72 : decode cX11_put 72 = .ok (.iload 4, 2) := by decide +kernel
theorem dX11_put_74 : decode cX11_put 74 = .ok (.ifCond .eq 6, 3) := by decide +kernel
theorem dX11_put_77 : decode cX11_put 77 = .ok (.iload 4, 2) := by decide +kernel
theorem dX11_put_79 : decode cX11_put 79 = .ok (.ireturn, 1) := by decide +kernel
theorem dX11_put_80 : decode cX11_put 80 = .ok (.aload_n 0, 1) := by decide +kernel
theorem dX11_put_81 : decode cX11_put 81 = .ok (.invokevirtual 132, 3) := by decide +kernel
theorem dX11_put_84 : decode cX11_put 84 = .ok (.aload_n 0, 1) := by decide +kernel
theorem dX11_put_85 : decode cX11_put 85 = .ok (.getfield 31, 3) := by decide +kernel
theorem dX11_put_88 : decode cX11_put 88 = .ok (.getfield 135, 3) := by decide +kernel
theorem dX11_put_91 : decode cX11_put 91 = .ok (.ireturn, 1) := by decide +kernel
theorem dX11_count_0 : decode cX11_count 0 = .ok (.iload_n 1, 1) := by decide +kernel
theorem dX11_count_1 : decode cX11_count 1 = .ok (.bipush 12, 2) := by decide +kernel
theorem dX11_count_3 : decode cX11_count 3 = .ok (.if_icmp .ne 11, 3) := by decide +kernel
theorem dX11_count_6 : decode cX11_count 6 = .ok (.aload_n 0, 1) := by decide +kernel
theorem dX11_count_7 : decode cX11_count 7 = .ok (.getfield 10, 3) := by decide +kernel
theorem dX11_count_10 : decode cX11_count 10 = .ok (.getfield 113, 3) := by decide +kernel
theorem dX11_count_13 : decode cX11_count 13 = .ok (.ireturn, 1) := by decide +kernel
theorem dX11_count_14 : decode cX11_count 14 = .ok (.aload_n 0, 1) := by decide +kernel
theorem dX11_count_15 : decode cX11_count 15 = .ok (.getfield 105, 3) := by decide +kernel
theorem dX11_count_18 : decode cX11_count 18 = .ok (.ifCond .ne 6, 3) := by decide +kernel
theorem dX11_count_21 : decode cX11_count 21 = .ok (.ldc 153, 2) := by decide +kernel
theorem dX11_count_23 : decode cX11_count 23 = .ok (.ireturn, 1) := by decide +kernel
theorem dX11_count_24 : decode cX11_count 24 = .ok (.iload_n 1, 1) := by decide +kernel
theorem dX11_count_25 : decode cX11_count 25 = .ok (.tableswitch 232 0 14 #[75, 83, 91, 99, 107, 118, 129, 151, 167, 189, 197, 205, 232, 213, 221], 75) := by decide +kernel
theorem dX11_count_100 : decode cX11_count 100 = .ok (.aload_n 0, 1) := by decide +kernel
theorem dX11_count_101 : decode cX11_count 101 = .ok (.getfield 19, 3) := by decide +kernel
theorem dX11_count_104 : decode cX11_count 104 = .ok (.getfield 138, 3) := by decide +kernel
theorem dX11_count_107 : decode cX11_count 107 = .ok (.ireturn, 1) := by decide +kernel
theorem dX11_count_108 : decode cX11_count 108 = .ok (.aload_n 0, 1) := by decide +kernel
theorem dX11_count_109 : decode cX11_count 109 = .ok (.getfield 31, 3) := by decide +kernel
theorem dX11_count_112 : decode cX11_count 112 = .ok (.getfield 135, 3) := by decide +kernel
theorem dX11_count_115 : decode cX11_count 115 = .ok (.ireturn, 1) := by decide +kernel
theorem dX11_count_116 : decode cX11_count 116 = .ok (.aload_n 0, 1) := by decide +kernel
theorem dX11_count_117 : decode cX11_count 117 = .ok (.getfield 31, 3) := by decide +kernel
theorem dX11_count_120 : decode cX11_count 120 = .ok (.getfield 154, 3) := by decide +kernel
theorem dX11_count_123 : decode cX11_count 123 = .ok (.ireturn, 1) := by decide +kernel
theorem dX11_count_124 : decode cX11_count 124 = .ok (.aload_n 0, 1) := by decide +kernel
theorem dX11_count_125 : decode cX11_count 125 = .ok (.getfield 19, 3) := by decide +kernel
theorem dX11_count_128 : decode cX11_count 128 = .ok (.getfield 157, 3) := by decide +kernel
theorem dX11_count_131 : decode cX11_count 131 = .ok (.ireturn, 1) := by decide +kernel
theorem dX11_count_132 : decode cX11_count 132 = .ok (.aload_n 0, 1) := by decide +kernel
theorem dX11_count_133 : decode cX11_count 133 = .ok (.getfield 40, 3) := by decide +kernel
theorem dX11_count_136 : decode cX11_count 136 = .ok (.getfield 160, 3) := by decide +kernel
theorem dX11_count_139 : decode cX11_count 139 = .ok (.invokestatic 164, 3) := by decide +kernel
theorem dX11_count_142 : decode cX11_count 142 = .ok (.ireturn, 1) := by decide +kernel
theorem dX11_count_143 : decode cX11_count 143 = .ok (.aload_n 0, 1) := by decide +kernel
theorem dX11_count_144 : decode cX11_count 144 = .ok (.getfield 40, 3) := by decide +kernel
theorem dX11_count_147 : decode cX11_count 147 = .ok (.getfield 170, 3) := by decide +kernel
theorem dX11_count_150 : decode cX11_count 150 = .ok (.invokestatic 164, 3) := by decide +kernel
theorem dX11_count_153 : decode cX11_count 153 = .ok (.ireturn, 1) := by decide +kernel
theorem dX11_count_154 : decode cX11_count 154 = .ok (.aload_n 0, 1) := by decide +kernel
theorem dX11_count_155 : decode cX11_count 155 = .ok (.getfield 40, 3) := by decide +kernel
theorem dX11_count_158 : decode cX11_count 158 = .ok (.getfield 173, 3) := by decide +kernel
theorem dX11_count_161 : decode cX11_count 161 = .ok (.ifCond .eq 7, 3) := by decide +kernel
theorem dX11_count_164 : decode cX11_count 164 = .ok (.iconst (-1), 1) := by decide +kernel
theorem dX11_count_165 : decode cX11_count 165 = .ok (.goto 10, 3) := by decide +kernel
theorem dX11_count_168 : decode cX11_count 168 = .ok (.aload_n 0, 1) := by decide +kernel
theorem dX11_count_169 : decode cX11_count 169 = .ok (.getfield 40, 3) := by decide +kernel
theorem dX11_count_172 : decode cX11_count 172 = .ok (.getfield 176, 3) := by decide +kernel
theorem dX11_count_175 : decode cX11_count 175 = .ok (.ireturn, 1) := by decide +kernel
theorem dX11_count_176 : decode cX11_count 176 = .ok (.aload_n 0, 1) := by decide +kernel
theorem dX11_count_177 : decode cX11_count 177 = .ok (.getfield 40, 3) := by decide +kernel
theorem dX11_count_180 : decode cX11_count 180 = .ok (.getfield 179, 3) := by decide +kernel
theorem dX11_count_183 : decode cX11_count 183 = .ok (.ifCond .eq 7, 3) := by decide +kernel
theorem dX11_count_186 : decode cX11_count 186 = .ok (.iconst 1, 1) := by decide +kernel
theorem dX11_count_187 : decode cX11_count 187 = .ok (.goto 4, 3) := by decide +kernel
theorem dX11_count_190 : decode cX11_count 190 = .ok (.iconst 0, 1) := by decide +kernel
theorem dX11_count_191 : decode cX11_count 191 = .ok (.ireturn, 1) := by decide +kernel
theorem dX11_count_192 : decode cX11_count 192 = .ok (.aload_n 0, 1) := by decide +kernel
theorem dX11_count_193 : decode cX11_count 193 = .ok (.getfield 40, 3) := by decide +kernel
theorem dX11_count_196 : decode cX11_count 196 = .ok (.getfield 173, 3) := by decide +kernel
theorem dX11_count_199 : decode cX11_count 199 = .ok (.ifCond .eq 7, 3) := by decide +kernel
theorem dX11_count_202 : decode cX11_count 202 = .ok (.iconst (-1), 1) := by decide +kernel
theorem dX11_count_203 : decode cX11_count 203 = .ok (.goto 10, 3) := by decide +kernel
theorem dX11_count_206 : decode cX11_count 206 = .ok (.aload_n 0, 1) := by decide +kernel
theorem dX11_count_207 : decode cX11_count 207 = .ok (.getfield 83, 3) := by decide +kernel
theorem dX11_count_210 : decode cX11_count 210 = .ok (.getfield 182, 3) := by decide +kernel
theorem dX11_count_213 : decode cX11_count 213 = .ok (.ireturn, 1) := by decide +kernel
theorem dX11_count_214 : decode cX11_count 214 = .ok (.aload_n 0, 1) := by decide +kernel
theorem dX11_count_215 : decode cX11_count 215 = .ok (.getfield 56, 3) := by decide +kernel
theorem dX11_count_218 : decode cX11_count 218 = .ok (.getfield 183, 3) := by decide +kernel
theorem dX11_count_221 : decode cX11_count 221 = .ok (.ireturn, 1) := by decide +kernel
theorem dX11_count_222 : decode cX11_count 222 = .ok (.aload_n 0, 1) := by decide +kernel
theorem dX11_count_223 : decode cX11_count 223 = .ok (.getfield 56, 3) := by decide +kernel
theorem dX11_count_226 : decode cX11_count 226 = .ok (.getfield 184, 3) := by decide +kernel
theorem dX11_count_229 : decode cX11_count 229 = .ok (.ireturn, 1) := by decide +kernel
theorem dX11_count_230 : decode cX11_count 230 = .ok (.aload_n 0, 1) := by decide +kernel
theorem dX11_count_231 : decode cX11_count 231 = .ok (.getfield 31, 3) := by decide +kernel
theorem dX11_count_234 : decode cX11_count 234 = .ok (.getfield 187, 3) := by decide +kernel
theorem dX11_count_237 : decode cX11_count 237 = .ok (.ireturn, 1) := by decide +kernel
theorem dX11_count_238 : decode cX11_count 238 = .ok (.aload_n 0, 1) := by decide +kernel
theorem dX11_count_239 : decode cX11_count 239 = .ok (.getfield 56, 3) := by decide +kernel
theorem dX11_count_242 : decode cX11_count 242 = .ok (.getfield 190, 3) := by decide +kernel
theorem dX11_count_245 : decode cX11_count 245 = .ok (.ireturn, 1) := by decide +kernel
theorem dX11_count_246 : decode cX11_count 246 = .ok (.aload_n 0, 1) := by decide +kernel
theorem dX11_count_247 : decode cX11_count 247 = .ok (.getfield 74, 3) := by decide +kernel
theorem dX11_count_250 : decode cX11_count 250 = .ok (.getfield 193, 3) := by decide +kernel
theorem dX11_count_253 : decode cX11_count 253 = .ok (.invokestatic 164, 3) := by decide +kernel
theorem dX11_count_256 : decode cX11_count 256 = .ok (.ireturn, 1) := by decide +kernel
theorem dX11_count_257 : decode cX11_count 257 = .ok (.ldc 153, 2) := by decide +kernel
theorem dX11_count_259 : decode cX11_count 259 = .ok (.ireturn, 1) := by decide +kernel
theorem dX11_instruction_0 : decode cX11_instruction 0 = .ok (.aload_n 0, 1) := by decide +kernel
theorem dX11_instruction_1 : decode cX11_instruction 1 = .ok (.getfield 105, 3) := by decide +kernel
theorem dX11_instruction_4 : decode cX11_instruction 4 = .ok (.ifCond .eq 27, 3) := by decide +kernel
theorem dX11_instruction_7 : decode cX11_instruction 7 = .ok (.iload_n 1, 1) := by decide +kernel
theorem dX11_instruction_8 : decode cX11_instruction 8 = .ok (.ifCond .lt 23, 3) := by decide +kernel
theorem dX11_instruction_11 : decode cX11_instruction 11 = .ok (.iload_n 1, 1) := by decide +kernel
theorem dX11_instruction_12 : decode cX11_instruction 12 = .ok (.aload_n 0, 1) := by decide +kernel
theorem dX11_instruction_13 : decode cX11_instruction 13 = .ok (.getfield 19, 3) := by decide +kernel
theorem dX11_instruction_16 : decode cX11_instruction 16 = .ok (.getfield 138, 3) := by decide +kernel
theorem dX11_instruction_19 : decode cX11_instruction 19 = .ok (.if_icmp .ge 12, 3) := by decide +kernel
theorem dX11_instruction_22 : decode cX11_instruction 22 = .ok (.iload_n 2, 1) := by decide +kernel
theorem dX11_instruction_23 : decode cX11_instruction 23 = .ok (.ifCond .lt 8, 3) := by decide +kernel
theorem dX11_instruction_26 : decode cX11_instruction 26 = .ok (.iload_n 2, 1) := by decide +kernel
theorem dX11_instruction_27 : decode cX11_instruction 27 = .ok (.iconst 5, 1) := by decide +kernel
theorem dX11_instruction_28 : decode cX11_instruction 28 = .ok (.if_icmp .le 13, 3) := by decide +kernel
theorem dX11_instruction_31 : decode cX11_instruction 31 = .ok (.new 196, 3) := by decide +kernel
theorem dX11_instruction_34 : decode cX11_instruction 34 = .ok (.dup, 1) := by decide +kernel
theorem dX11_instruction_35 : decode cX11_instruction 35 = .ok (.ldc 198, 2) := by decide +kernel
theorem dX11_instruction_37 : decode cX11_instruction 37 = .ok (.invokespecial 200, 3) := by decide +kernel
theorem dX11_instruction_40 : decode cX11_instruction 40 = .ok (.athrow, 1) := by decide +kernel
theorem dX11_instruction_41 : decode cX11_instruction 41 = .ok (.iload_n 2, 1) := by decide +kernel
theorem dX11_instruction_42 : decode cX11_instruction 42 = .ok (.tableswitch 83 0 4 #[34, 44, 54, 64, 74], 34) := by decide +kernel
theorem dX11_instruction_76 : decode cX11_instruction 76 = .ok (.aload_n 0, 1) := by decide +kernel
theorem dX11_instruction_77 : decode cX11_instruction 77 = .ok (.getfield 19, 3) := by decide +kernel
theorem dX11_instruction_80 : decode cX11_instruction 80 = .ok (.getfield 146, 3) := by decide +kernel
theorem dX11_instruction_83 : decode cX11_instruction 83 = .ok (.iload_n 1, 1) := by decide +kernel
theorem dX11_instruction_84 : decode cX11_instruction 84 = .ok (.iaload, 1) := by decide +kernel
theorem dX11_instruction_85 : decode cX11_instruction 85 = .ok (.ireturn, 1) := by decide +kernel
theorem dX11_instruction_86 : decode cX11_instruction 86 = .ok (.aload_n 0, 1) := by decide +kernel
theorem dX11_instruction_87 : decode cX11_instruction 87 = .ok (.getfield 19, 3) := by decide +kernel
theorem dX11_instruction_90 : decode cX11_instruction 90 = .ok (.getfield 150, 3) := by decide +kernel
theorem dX11_instruction_93 : decode cX11_instruction 93 = .ok (.iload_n 1, 1) := by decide +kernel
theorem dX11_instruction_94 : decode cX11_instruction 94 = .ok (.iaload, 1) := by decide +kernel
theorem dX11_instruction_95 : decode cX11_instruction 95 = .ok (.ireturn, 1) := by decide +kernel
theorem dX11_instruction_96 : decode cX11_instruction 96 = .ok (.aload_n 0, 1) := by decide +kernel
theorem dX11_instruction_97 : decode cX11_instruction 97 = .ok (.getfield 19, 3) := by decide +kernel
theorem dX11_instruction_100 : decode cX11_instruction 100 = .ok (.getfield 203, 3) := by decide +kernel
theorem dX11_instruction_103 : decode cX11_instruction 103 = .ok (.iload_n 1, 1) := by decide +kernel
theorem dX11_instruction_104 : decode cX11_instruction 104 = .ok (.iaload, 1) := by decide +kernel
theorem dX11_instruction_105 : decode cX11_instruction 105 = .ok (.ireturn, 1) := by decide +kernel
theorem dX11_instruction_106 : decode cX11_instruction 106 = .ok (.aload_n 0, 1) := by decide +kernel
theorem dX11_instruction_107 : decode cX11_instruction 107 = .ok (.getfield 31, 3) := by decide +kernel
theorem dX11_instruction_110 : decode cX11_instruction 110 = .ok (.getfield 206, 3) := by decide +kernel
theorem dX11_instruction_113 : decode cX11_instruction 113 = .ok (.iload_n 1, 1) := by decide +kernel
theorem dX11_instruction_114 : decode cX11_instruction 114 = .ok (.iaload, 1) := by decide +kernel
theorem dX11_instruction_115 : decode cX11_instruction 115 = .ok (.ireturn, 1) := by decide +kernel
theorem dX11_instruction_116 : decode cX11_instruction 116 = .ok (.aload_n 0, 1) := by decide +kernel
theorem dX11_instruction_117 : decode cX11_instruction 117 = .ok (.getfield 19, 3) := by decide +kernel
theorem dX11_instruction_120 : decode cX11_instruction 120 = .ok (.iload_n 1, 1) := by decide +kernel
theorem dX11_instruction_121 : decode cX11_instruction 121 = .ok (.invokevirtual 209, 3) := by decide +kernel
theorem dX11_instruction_124 : decode cX11_instruction 124 = .ok (.ireturn, 1) := by decide +kernel
theorem dX11_instruction_125 : decode cX11_instruction 125 = .ok (.aload_n 0, 1) := by decide +kernel
theorem dX11_instruction_126 : decode cX11_instruction 126 = .ok (.getfield 74, 3) := by decide +kernel
theorem dX11_instruction_129 : decode cX11_instruction 129 = .ok (.getfield 193, 3) := by decide +kernel
theorem dX11_instruction_132 : decode cX11_instruction 132 = .ok (.iload_n 1, 1) := by decide +kernel
theorem dX11_instruction_133 : decode cX11_instruction 133 = .ok (.invokestatic 212, 3) := by decide +kernel
theorem dX11_instruction_136 : decode cX11_instruction 136 = .ok (.ifCond .eq 7, 3) := by decide +kernel
theorem dX11_instruction_139 : decode cX11_instruction 139 = .ok (.iconst 1, 1) := by decide +kernel
theorem dX11_instruction_140 : decode cX11_instruction 140 = .ok (.goto 4, 3) := by decide +kernel
theorem dX11_instruction_143 : decode cX11_instruction 143 = .ok (.iconst 0, 1) := by decide +kernel
theorem dX11_instruction_144 : decode cX11_instruction 144 = .ok (.ireturn, 1) := by decide +kernel
theorem dX11_block_0 : decode cX11_block 0 = .ok (.aload_n 0, 1) := by decide +kernel
theorem dX11_block_1 : decode cX11_block 1 = .ok (.iload_n 1, 1) := by decide +kernel
theorem dX11_block_2 : decode cX11_block 2 = .ok (.invokevirtual 216, 3) := by decide +kernel
theorem dX11_block_5 : decode cX11_block 5 = .ok (.ifCond .eq 13, 3) := by decide +kernel
theorem dX11_block_8 : decode cX11_block 8 = .ok (.iload_n 2, 1) := by decide +kernel
theorem dX11_block_9 : decode cX11_block 9 = .ok (.ifCond .lt 9, 3) := by decide +kernel
theorem dX11_block_12 : decode cX11_block 12 = .ok (.iload_n 2, 1) := by decide +kernel
theorem dX11_block_13 : decode cX11_block 13 = .ok (.bipush 12, 2) := by decide +kernel
theorem dX11_block_15 : decode cX11_block 15 = .ok (.if_icmp .le 13, 3) := by decide +kernel
theorem dX11_block_18 : decode cX11_block 18 = .ok (.new 196, 3) := by decide +kernel
theorem dX11_block_21 : decode cX11_block 21 = .ok (.dup, 1) := by decide +kernel
theorem dX11_block_22 : decode cX11_block 22 = .ok (.ldc 220, 2) := by decide +kernel
theorem dX11_block_24 : decode cX11_block 24 = .ok (.invokespecial 200, 3) := by decide +kernel
theorem dX11_block_27 : decode cX11_block 27 = .ok (.athrow, 1) := by decide +kernel
theorem dX11_block_28 : decode cX11_block 28 = .ok (.iload_n 2, 1) := by decide +kernel
theorem dX11_block_29 : decode cX11_block 29 = .ok (.tableswitch 221 0 11 #[63, 73, 83, 101, 111, 121, 130, 139, 159, 179, 201, 211], 63) := by decide +kernel
theorem dX11_block_92 : decode cX11_block 92 = .ok (.aload_n 0, 1) := by decide +kernel
theorem dX11_block_93 : decode cX11_block 93 = .ok (.getfield 31, 3) := by decide +kernel
theorem dX11_block_96 : decode cX11_block 96 = .ok (.getfield 222, 3) := by decide +kernel
theorem dX11_block_99 : decode cX11_block 99 = .ok (.iload_n 1, 1) := by decide +kernel
theorem dX11_block_100 : decode cX11_block 100 = .ok (.iaload, 1) := by decide +kernel
theorem dX11_block_101 : decode cX11_block 101 = .ok (.ireturn, 1) := by decide +kernel
theorem dX11_block_102 : decode cX11_block 102 = .ok (.aload_n 0, 1) := by decide +kernel
theorem dX11_block_103 : decode cX11_block 103 = .ok (.getfield 31, 3) := by decide +kernel
theorem dX11_block_106 : decode cX11_block 106 = .ok (.getfield 225, 3) := by decide +kernel
theorem dX11_block_109 : decode cX11_block 109 = .ok (.iload_n 1, 1) := by decide +kernel
theorem dX11_block_110 : decode cX11_block 110 = .ok (.iaload, 1) := by decide +kernel
theorem dX11_block_111 : decode cX11_block 111 = .ok (.ireturn, 1) := by decide +kernel
theorem dX11_block_112 : decode cX11_block 112 = .ok (.aload_n 0, 1) := by decide +kernel
theorem dX11_block_113 : decode cX11_block 113 = .ok (.getfield 19, 3) := by decide +kernel
theorem dX11_block_116 : decode cX11_block 116 = .ok (.getfield 203, 3) := by decide +kernel
theorem dX11_block_119 : decode cX11_block 119 = .ok (.aload_n 0, 1) := by decide +kernel
theorem dX11_block_120 : decode cX11_block 120 = .ok (.getfield 31, 3) := by decide +kernel
theorem dX11_block_123 : decode cX11_block 123 = .ok (.getfield 222, 3) := by decide +kernel
theorem dX11_block_126 : decode cX11_block 126 = .ok (.iload_n 1, 1) := by decide +kernel
theorem dX11_block_127 : decode cX11_block 127 = .ok (.iaload, 1) := by decide +kernel
theorem dX11_block_128 : decode cX11_block 128 = .ok (.iaload, 1) := by decide +kernel
theorem dX11_block_129 : decode cX11_block 129 = .ok (.ireturn, 1) := by decide +kernel
theorem dX11_block_130 : decode cX11_block 130 = .ok (.aload_n 0, 1) := by decide +kernel
theorem dX11_block_131 : decode cX11_block 131 = .ok (.getfield 40, 3) := by decide +kernel
theorem dX11_block_134 : decode cX11_block 134 = .ok (.getfield 228, 3) := by decide +kernel
theorem dX11_block_137 : decode cX11_block 137 = .ok (.iload_n 1, 1) := by decide +kernel
theorem dX11_block_138 : decode cX11_block 138 = .ok (.iaload, 1) := by decide +kernel
theorem dX11_block_139 : decode cX11_block 139 = .ok (.ireturn, 1) := by decide +kernel
theorem dX11_block_140 : decode cX11_block 140 = .ok (.aload_n 0, 1) := by decide +kernel
theorem dX11_block_141 : decode cX11_block 141 = .ok (.getfield 40, 3) := by decide +kernel
theorem dX11_block_144 : decode cX11_block 144 = .ok (.getfield 231, 3) := by decide +kernel
theorem dX11_block_147 : decode cX11_block 147 = .ok (.iload_n 1, 1) := by decide +kernel
theorem dX11_block_148 : decode cX11_block 148 = .ok (.iaload, 1) := by decide +kernel
theorem dX11_block_149 : decode cX11_block 149 = .ok (.ireturn, 1) := by decide +kernel
theorem dX11_block_150 : decode cX11_block 150 = .ok (.aload_n 0, 1) := by decide +kernel
theorem dX11_block_151 : decode cX11_block 151 = .ok (.getfield 40, 3) := by decide +kernel
theorem dX11_block_154 : decode cX11_block 154 = .ok (.iload_n 1, 1) := by decide +kernel
theorem dX11_block_155 : decode cX11_block 155 = .ok (.invokevirtual 234, 3) := by decide +kernel
theorem dX11_block_158 : decode cX11_block 158 = .ok (.ireturn, 1) := by decide +kernel
theorem dX11_block_159 : decode cX11_block 159 = .ok (.aload_n 0, 1) := by decide +kernel
theorem dX11_block_160 : decode cX11_block 160 = .ok (.getfield 40, 3) := by decide +kernel
theorem dX11_block_163 : decode cX11_block 163 = .ok (.iload_n 1, 1) := by decide +kernel
theorem dX11_block_164 : decode cX11_block 164 = .ok (.invokevirtual 237, 3) := by decide +kernel
theorem dX11_block_167 : decode cX11_block 167 = .ok (.ireturn, 1) := by decide +kernel
theorem dX11_block_168 : decode cX11_block 168 = .ok (.aload_n 0, 1) := by decide +kernel
theorem dX11_block_169 : decode cX11_block 169 = .ok (.getfield 40, 3) := by decide +kernel
theorem dX11_block_172 : decode cX11_block 172 = .ok (.getfield 170, 3) := by decide +kernel
theorem dX11_block_175 : decode cX11_block 175 = .ok (.iload_n 1, 1) := by decide +kernel
theorem dX11_block_176 : decode cX11_block 176 = .ok (.invokestatic 212, 3) := by decide +kernel
theorem dX11_block_179 : decode cX11_block 179 = .ok (.ifCond .eq 7, 3) := by decide +kernel
theorem dX11_block_182 : decode cX11_block 182 = .ok (.iconst 1, 1) := by decide +kernel
theorem dX11_block_183 : decode cX11_block 183 = .ok (.goto 4, 3) := by decide +kernel
theorem dX11_block_186 : decode cX11_block 186 = .ok (.iconst 0, 1) := by decide +kernel
theorem dX11_block_187 : decode cX11_block 187 = .ok (.ireturn, 1) := by decide +kernel
theorem dX11_block_188 : decode cX11_block 188 = .ok (.aload_n 0, 1) := by decide +kernel
theorem dX11_block_189 : decode cX11_block 189 = .ok (.getfield 40, 3) := by decide +kernel
theorem dX11_block_192 : decode cX11_block 192 = .ok (.getfield 160, 3) := by decide +kernel
theorem dX11_block_195 : decode cX11_block 195 = .ok (.iload_n 1, 1) := by decide +kernel
theorem dX11_block_196 : decode cX11_block 196 = .ok (.invokestatic 212, 3) := by decide +kernel
theorem dX11_block_199 : decode cX11_block 199 = .ok (.ifCond .eq 7, 3) := by decide +kernel
theorem dX11_block_202 : decode cX11_block 202 = .ok (.iconst 1, 1) := by decide +kernel
theorem dX11_block_203 : decode cX11_block 203 = .ok (.goto 4, 3) := by decide +kernel
theorem dX11_block_206 : decode cX11_block 206 = .ok (.iconst 0, 1) := by decide +kernel
theorem dX11_block_207 : decode cX11_block 207 = .ok (.ireturn, 1) := by decide +kernel
theorem dX11_block_208 : decode cX11_block 208 = .ok (.aload_n 0, 1) := by decide +kernel
theorem dX11_block_209 : decode cX11_block 209 = .ok (.getfield 56, 3) := by decide +kernel
theorem dX11_block_212 : decode cX11_block 212 = .ok (.getfield 240, 3) := by decide +kernel
theorem dX11_block_215 : decode cX11_block 215 = .ok (.iload_n 1, 1) := by decide +kernel
theorem dX11_block_216 : decode cX11_block 216 = .ok (.iconst 1, 1) := by decide +kernel
theorem dX11_block_217 : decode cX11_block 217 = .ok (.iadd, 1) := by decide +kernel
theorem dX11_block_218 : decode cX11_block 218 = .ok (.iaload, 1) := by decide +kernel
theorem dX11_block_219 : decode cX11_block 219 = .ok (.aload_n 0, 1) := by decide +kernel
theorem dX11_block_220 : decode cX11_block 220 = .ok (.getfield 56, 3) := by decide +kernel
theorem dX11_block_223 : decode cX11_block 223 = .ok (.getfield 240, 3) := by decide +kernel
theorem dX11_block_226 : decode cX11_block 226 = .ok (.iload_n 1, 1) := by decide +kernel
theorem dX11_block_227 : decode cX11_block 227 = .ok (.iaload, 1) := by decide +kernel
theorem dX11_block_228 : decode cX11_block 228 = .ok (.isub, 1) := by decide +kernel
theorem dX11_block_229 : decode cX11_block 229 = .ok (.ireturn, 1) := by decide +kernel
theorem dX11_block_230 : decode cX11_block 230 = .ok (.aload_n 0, 1) := by decide +kernel
theorem dX11_block_231 : decode cX11_block 231 = .ok (.getfield 74, 3) := by decide +kernel
theorem dX11_block_234 : decode cX11_block 234 = .ok (.getfield 241, 3) := by decide +kernel
theorem dX11_block_237 : decode cX11_block 237 = .ok (.iload_n 1, 1) := by decide +kernel
theorem dX11_block_238 : decode cX11_block 238 = .ok (.iaload, 1) := by decide +kernel
theorem dX11_block_239 : decode cX11_block 239 = .ok (.ireturn, 1) := by decide +kernel
theorem dX11_block_240 : decode cX11_block 240 = .ok (.aload_n 0, 1) := by decide +kernel
theorem dX11_block_241 : decode cX11_block 241 = .ok (.getfield 74, 3) := by decide +kernel
theorem dX11_block_244 : decode cX11_block 244 = .ok (.getfield 244, 3) := by decide +kernel
theorem dX11_block_247 : decode cX11_block 247 = .ok (.iload_n 1, 1) := by decide +kernel
theorem dX11_block_248 : decode cX11_block 248 = .ok (.iaload, 1) := by decide +kernel
theorem dX11_block_249 : decode cX11_block 249 = .ok (.ireturn, 1) := by decide +kernel
theorem dX11_block_250 : decode cX11_block 250 = .ok (.aload_n 0, 1) := by decide +kernel
theorem dX11_block_251 : decode cX11_block 251 = .ok (.getfield 31, 3) := by decide +kernel
theorem dX11_block_254 : decode cX11_block 254 = .ok (.getfield 247, 3) := by decide +kernel
theorem dX11_block_257 : decode cX11_block 257 = .ok (.iload_n 1, 1) := by decide +kernel
theorem dX11_block_258 : decode cX11_block 258 = .ok (.iaload, 1) := by decide +kernel
theorem dX11_block_259 : decode cX11_block 259 = .ok (.ireturn, 1) := by decide +kernel
theorem dX11_edge_0 : decode cX11_edge 0 = .ok (.aload_n 0, 1) := by decide +kernel
theorem dX11_edge_1 : decode cX11_edge 1 = .ok (.getfield 105, 3) := by decide +kernel
theorem dX11_edge_4 : decode cX11_edge 4 = .ok (.ifCond .eq 18, 3) := by decide +kernel
theorem dX11_edge_7 : decode cX11_edge 7 = .ok (.iload_n 1, 1) := by decide +kernel
theorem dX11_edge_8 : decode cX11_edge 8 = .ok (.ifCond .lt 14, 3) := by decide +kernel
theorem dX11_edge_11 : decode cX11_edge 11 = .ok (.iload_n 1, 1) := by decide +kernel
theorem dX11_edge_12 : decode cX11_edge 12 = .ok (.aload_n 0, 1) := by decide +kernel
theorem dX11_edge_13 : decode cX11_edge 13 = .ok (.getfield 31, 3) := by decide +kernel
theorem dX11_edge_16 : decode cX11_edge 16 = .ok (.getfield 154, 3) := by decide +kernel
theorem dX11_edge_19 : decode cX11_edge 19 = .ok (.if_icmp .lt 6, 3) := by decide +kernel
theorem dX11_edge_22 : decode cX11_edge 22 = .ok (.ldc 153, 2) := by decide +kernel
theorem dX11_edge_24 : decode cX11_edge 24 = .ok (.ireturn, 1) := by decide +kernel
theorem dX11_edge_25 : decode cX11_edge 25 = .ok (.iload_n 2, 1) := by decide +kernel
theorem dX11_edge_26 : decode cX11_edge 26 = .ok (.tableswitch 108 0 4 #[34, 44, 54, 72, 90], 34) := by decide +kernel
theorem dX11_edge_60 : decode cX11_edge 60 = .ok (.aload_n 0, 1) := by decide +kernel
theorem dX11_edge_61 : decode cX11_edge 61 = .ok (.getfield 31, 3) := by decide +kernel
theorem dX11_edge_64 : decode cX11_edge 64 = .ok (.getfield 250, 3) := by decide +kernel
theorem dX11_edge_67 : decode cX11_edge 67 = .ok (.iload_n 1, 1) := by decide +kernel
theorem dX11_edge_68 : decode cX11_edge 68 = .ok (.iaload, 1) := by decide +kernel
theorem dX11_edge_69 : decode cX11_edge 69 = .ok (.ireturn, 1) := by decide +kernel
theorem dX11_edge_70 : decode cX11_edge 70 = .ok (.aload_n 0, 1) := by decide +kernel
theorem dX11_edge_71 : decode cX11_edge 71 = .ok (.getfield 31, 3) := by decide +kernel
theorem dX11_edge_74 : decode cX11_edge 74 = .ok (.getfield 253, 3) := by decide +kernel
theorem dX11_edge_77 : decode cX11_edge 77 = .ok (.iload_n 1, 1) := by decide +kernel
theorem dX11_edge_78 : decode cX11_edge 78 = .ok (.iaload, 1) := by decide +kernel
theorem dX11_edge_79 : decode cX11_edge 79 = .ok (.ireturn, 1) := by decide +kernel
theorem dX11_edge_80 : decode cX11_edge 80 = .ok (.aload_n 0, 1) := by decide +kernel
theorem dX11_edge_81 : decode cX11_edge 81 = .ok (.getfield 40, 3) := by decide +kernel
theorem dX11_edge_84 : decode cX11_edge 84 = .ok (.getfield 256, 3) := by decide +kernel
theorem dX11_edge_87 : decode cX11_edge 87 = .ok (.iload_n 1, 1) := by decide +kernel
theorem dX11_edge_88 : decode cX11_edge 88 = .ok (.baload, 1) := by decide +kernel
theorem dX11_edge_89 : decode cX11_edge 89 = .ok (.ifCond .eq 7, 3) := by decide +kernel
theorem dX11_edge_92 : decode cX11_edge 92 = .ok (.iconst 1, 1) := by decide +kernel
theorem dX11_edge_93 : decode cX11_edge 93 = .ok (.goto 4, 3) := by decide +kernel
theorem dX11_edge_96 : decode cX11_edge 96 = .ok (.iconst 0, 1) := by decide +kernel
theorem dX11_edge_97 : decode cX11_edge 97 = .ok (.ireturn, 1) := by decide +kernel
theorem dX11_edge_98 : decode cX11_edge 98 = .ok (.aload_n 0, 1) := by decide +kernel
theorem dX11_edge_99 : decode cX11_edge 99 = .ok (.getfield 40, 3) := by decide +kernel
theorem dX11_edge_102 : decode cX11_edge 102 = .ok (.getfield 260, 3) := by decide +kernel
theorem dX11_edge_105 : decode cX11_edge 105 = .ok (.iload_n 1, 1) := by decide +kernel
theorem dX11_edge_106 : decode cX11_edge 106 = .ok (.baload, 1) := by decide +kernel
theorem dX11_edge_107 : decode cX11_edge 107 = .ok (.ifCond .eq 7, 3) := by decide +kernel
theorem dX11_edge_110 : decode cX11_edge 110 = .ok (.iconst 1, 1) := by decide +kernel
theorem dX11_edge_111 : decode cX11_edge 111 = .ok (.goto 4, 3) := by decide +kernel
theorem dX11_edge_114 : decode cX11_edge 114 = .ok (.iconst 0, 1) := by decide +kernel
theorem dX11_edge_115 : decode cX11_edge 115 = .ok (.ireturn, 1) := by decide +kernel
theorem dX11_edge_116 : decode cX11_edge 116 = .ok (.aload_n 0, 1) := by decide +kernel
theorem dX11_edge_117 : decode cX11_edge 117 = .ok (.getfield 31, 3) := by decide +kernel
theorem dX11_edge_120 : decode cX11_edge 120 = .ok (.getfield 263, 3) := by decide +kernel
theorem dX11_edge_123 : decode cX11_edge 123 = .ok (.iload_n 1, 1) := by decide +kernel
theorem dX11_edge_124 : decode cX11_edge 124 = .ok (.baload, 1) := by decide +kernel
theorem dX11_edge_125 : decode cX11_edge 125 = .ok (.ifCond .eq 7, 3) := by decide +kernel
theorem dX11_edge_128 : decode cX11_edge 128 = .ok (.iconst 1, 1) := by decide +kernel
theorem dX11_edge_129 : decode cX11_edge 129 = .ok (.goto 4, 3) := by decide +kernel
theorem dX11_edge_132 : decode cX11_edge 132 = .ok (.iconst 0, 1) := by decide +kernel
theorem dX11_edge_133 : decode cX11_edge 133 = .ok (.ireturn, 1) := by decide +kernel
theorem dX11_edge_134 : decode cX11_edge 134 = .ok (.ldc 153, 2) := by decide +kernel
theorem dX11_edge_136 : decode cX11_edge 136 = .ok (.ireturn, 1) := by decide +kernel
theorem dX11_dominates_0 : decode cX11_dominates 0 = .ok (.aload_n 0, 1) := by decide +kernel
theorem dX11_dominates_1 : decode cX11_dominates 1 = .ok (.iload_n 1, 1) := by decide +kernel
theorem dX11_dominates_2 : decode cX11_dominates 2 = .ok (.invokevirtual 216, 3) := by decide +kernel
theorem dX11_dominates_5 : decode cX11_dominates 5 = .ok (.ifCond .eq 31, 3) := by decide +kernel
theorem dX11_dominates_8 : decode cX11_dominates 8 = .ok (.aload_n 0, 1) := by decide +kernel
theorem dX11_dominates_9 : decode cX11_dominates 9 = .ok (.iload_n 2, 1) := by decide +kernel
theorem dX11_dominates_10 : decode cX11_dominates 10 = .ok (.invokevirtual 216, 3) := by decide +kernel
theorem dX11_dominates_13 : decode cX11_dominates 13 = .ok (.ifCond .eq 23, 3) := by decide +kernel
theorem dX11_dominates_16 : decode cX11_dominates 16 = .ok (.aload_n 0, 1) := by decide +kernel
theorem dX11_dominates_17 : decode cX11_dominates 17 = .ok (.getfield 40, 3) := by decide +kernel
theorem dX11_dominates_20 : decode cX11_dominates 20 = .ok (.getfield 266, 3) := by decide +kernel
theorem dX11_dominates_23 : decode cX11_dominates 23 = .ok (.iload_n 2, 1) := by decide +kernel
theorem dX11_dominates_24 : decode cX11_dominates 24 = .ok (.laload, 1) := by decide +kernel
theorem dX11_dominates_25 : decode cX11_dominates 25 = .ok (.iload_n 1, 1) := by decide +kernel
theorem dX11_dominates_26 : decode cX11_dominates 26 = .ok (.invokestatic 212, 3) := by decide +kernel
theorem dX11_dominates_29 : decode cX11_dominates 29 = .ok (.ifCond .eq 7, 3) := by decide +kernel
theorem dX11_dominates_32 : decode cX11_dominates 32 = .ok (.iconst 1, 1) := by decide +kernel
theorem dX11_dominates_33 : decode cX11_dominates 33 = .ok (.goto 4, 3) := by decide +kernel
theorem dX11_dominates_36 : decode cX11_dominates 36 = .ok (.iconst 0, 1) := by decide +kernel
theorem dX11_dominates_37 : decode cX11_dominates 37 = .ok (.ireturn, 1) := by decide +kernel
theorem dX11_loop_0 : decode cX11_loop 0 = .ok (.aload_n 0, 1) := by decide +kernel
theorem dX11_loop_1 : decode cX11_loop 1 = .ok (.iload_n 1, 1) := by decide +kernel
theorem dX11_loop_2 : decode cX11_loop 2 = .ok (.invokevirtual 216, 3) := by decide +kernel
theorem dX11_loop_5 : decode cX11_loop 5 = .ok (.ifCond .eq 29, 3) := by decide +kernel
theorem dX11_loop_8 : decode cX11_loop 8 = .ok (.aload_n 0, 1) := by decide +kernel
theorem dX11_loop_9 : decode cX11_loop 9 = .ok (.getfield 40, 3) := by decide +kernel
theorem dX11_loop_12 : decode cX11_loop 12 = .ok (.getfield 160, 3) := by decide +kernel
theorem dX11_loop_15 : decode cX11_loop 15 = .ok (.iload_n 1, 1) := by decide +kernel
theorem dX11_loop_16 : decode cX11_loop 16 = .ok (.invokestatic 212, 3) := by decide +kernel
theorem dX11_loop_19 : decode cX11_loop 19 = .ok (.ifCond .eq 15, 3) := by decide +kernel
theorem dX11_loop_22 : decode cX11_loop 22 = .ok (.aload_n 0, 1) := by decide +kernel
theorem dX11_loop_23 : decode cX11_loop 23 = .ok (.getfield 40, 3) := by decide +kernel
theorem dX11_loop_26 : decode cX11_loop 26 = .ok (.getfield 270, 3) := by decide +kernel
theorem dX11_loop_29 : decode cX11_loop 29 = .ok (.iload_n 1, 1) := by decide +kernel
theorem dX11_loop_30 : decode cX11_loop 30 = .ok (.laload, 1) := by decide +kernel
theorem dX11_loop_31 : decode cX11_loop 31 = .ok (.goto 6, 3) := by decide +kernel
theorem dX11_loop_34 : decode cX11_loop 34 = .ok (.ldc2_w 273, 3) := by decide +kernel
theorem dX11_loop_37 : decode cX11_loop 37 = .ok (.lreturn, 1) := by decide +kernel
theorem dX11_statement_0 : decode cX11_statement 0 = .ok (.aload_n 0, 1) := by decide +kernel
theorem dX11_statement_1 : decode cX11_statement 1 = .ok (.iload_n 1, 1) := by decide +kernel
theorem dX11_statement_2 : decode cX11_statement 2 = .ok (.invokevirtual 216, 3) := by decide +kernel
theorem dX11_statement_5 : decode cX11_statement 5 = .ok (.ifCond .eq 32, 3) := by decide +kernel
theorem dX11_statement_8 : decode cX11_statement 8 = .ok (.iload_n 2, 1) := by decide +kernel
theorem dX11_statement_9 : decode cX11_statement 9 = .ok (.ifCond .lt 28, 3) := by decide +kernel
theorem dX11_statement_12 : decode cX11_statement 12 = .ok (.iload_n 2, 1) := by decide +kernel
theorem dX11_statement_13 : decode cX11_statement 13 = .ok (.aload_n 0, 1) := by decide +kernel
theorem dX11_statement_14 : decode cX11_statement 14 = .ok (.getfield 56, 3) := by decide +kernel
theorem dX11_statement_17 : decode cX11_statement 17 = .ok (.getfield 240, 3) := by decide +kernel
theorem dX11_statement_20 : decode cX11_statement 20 = .ok (.iload_n 1, 1) := by decide +kernel
theorem dX11_statement_21 : decode cX11_statement 21 = .ok (.iconst 1, 1) := by decide +kernel
theorem dX11_statement_22 : decode cX11_statement 22 = .ok (.iadd, 1) := by decide +kernel
theorem dX11_statement_23 : decode cX11_statement 23 = .ok (.iaload, 1) := by decide +kernel
theorem dX11_statement_24 : decode cX11_statement 24 = .ok (.aload_n 0, 1) := by decide +kernel
theorem dX11_statement_25 : decode cX11_statement 25 = .ok (.getfield 56, 3) := by decide +kernel
theorem dX11_statement_28 : decode cX11_statement 28 = .ok (.getfield 240, 3) := by decide +kernel
theorem dX11_statement_31 : decode cX11_statement 31 = .ok (.iload_n 1, 1) := by decide +kernel
theorem dX11_statement_32 : decode cX11_statement 32 = .ok (.iaload, 1) := by decide +kernel
theorem dX11_statement_33 : decode cX11_statement 33 = .ok (.isub, 1) := by decide +kernel
theorem dX11_statement_34 : decode cX11_statement 34 = .ok (.if_icmp .lt 6, 3) := by decide +kernel
theorem dX11_statement_37 : decode cX11_statement 37 = .ok (.ldc 153, 2) := by decide +kernel
theorem dX11_statement_39 : decode cX11_statement 39 = .ok (.ireturn, 1) := by decide +kernel
theorem dX11_statement_40 : decode cX11_statement 40 = .ok (.aload_n 0, 1) := by decide +kernel
theorem dX11_statement_41 : decode cX11_statement 41 = .ok (.getfield 56, 3) := by decide +kernel
theorem dX11_statement_44 : decode cX11_statement 44 = .ok (.getfield 240, 3) := by decide +kernel
theorem dX11_statement_47 : decode cX11_statement 47 = .ok (.iload_n 1, 1) := by decide +kernel
theorem dX11_statement_48 : decode cX11_statement 48 = .ok (.iaload, 1) := by decide +kernel
theorem dX11_statement_49 : decode cX11_statement 49 = .ok (.iload_n 2, 1) := by decide +kernel
theorem dX11_statement_50 : decode cX11_statement 50 = .ok (.iadd, 1) := by decide +kernel
theorem dX11_statement_51 : decode cX11_statement 51 = .ok (.istore 4, 2) := by decide +kernel
theorem dX11_statement_53 : decode cX11_statement 53 = .ok (.aload_n 0, 1) := by decide +kernel
theorem dX11_statement_54 : decode cX11_statement 54 = .ok (.getfield 56, 3) := by decide +kernel
theorem dX11_statement_57 : decode cX11_statement 57 = .ok (.getfield 275, 3) := by decide +kernel
theorem dX11_statement_60 : decode cX11_statement 60 = .ok (.iload 4, 2) := by decide +kernel
theorem dX11_statement_62 : decode cX11_statement 62 = .ok (.iaload, 1) := by decide +kernel
theorem dX11_statement_63 : decode cX11_statement 63 = .ok (.istore 5, 2) := by decide +kernel
theorem dX11_statement_65 : decode cX11_statement 65 = .ok (.iload_n 3, 1) := by decide +kernel
theorem dX11_statement_66 : decode cX11_statement 66 = .ok (.tableswitch 121 0 4 #[34, 45, 56, 76, 100], 34) := by decide +kernel
theorem dX11_statement_100 : decode cX11_statement 100 = .ok (.aload_n 0, 1) := by decide +kernel
theorem dX11_statement_101 : decode cX11_statement 101 = .ok (.getfield 56, 3) := by decide +kernel
theorem dX11_statement_104 : decode cX11_statement 104 = .ok (.getfield 278, 3) := by decide +kernel
theorem dX11_statement_107 : decode cX11_statement 107 = .ok (.iload 4, 2) := by decide +kernel
theorem dX11_statement_109 : decode cX11_statement 109 = .ok (.iaload, 1) := by decide +kernel
theorem dX11_statement_110 : decode cX11_statement 110 = .ok (.ireturn, 1) := by decide +kernel
theorem dX11_statement_111 : decode cX11_statement 111 = .ok (.aload_n 0, 1) := by decide +kernel
theorem dX11_statement_112 : decode cX11_statement 112 = .ok (.getfield 56, 3) := by decide +kernel
theorem dX11_statement_115 : decode cX11_statement 115 = .ok (.getfield 281, 3) := by decide +kernel
theorem dX11_statement_118 : decode cX11_statement 118 = .ok (.iload 4, 2) := by decide +kernel
theorem dX11_statement_120 : decode cX11_statement 120 = .ok (.iaload, 1) := by decide +kernel
theorem dX11_statement_121 : decode cX11_statement 121 = .ok (.ireturn, 1) := by decide +kernel
theorem dX11_statement_122 : decode cX11_statement 122 = .ok (.iload 5, 2) := by decide +kernel
theorem dX11_statement_124 : decode cX11_statement 124 = .ok (.iconst (-1), 1) := by decide +kernel
theorem dX11_statement_125 : decode cX11_statement 125 = .ok (.if_icmp .ne 7, 3) := by decide +kernel
theorem dX11_statement_128 : decode cX11_statement 128 = .ok (.iconst 0, 1) := by decide +kernel
theorem dX11_statement_129 : decode cX11_statement 129 = .ok (.goto 12, 3) := by decide +kernel
theorem dX11_statement_132 : decode cX11_statement 132 = .ok (.aload_n 0, 1) := by decide +kernel
theorem dX11_statement_133 : decode cX11_statement 133 = .ok (.getfield 101, 3) := by decide +kernel
theorem dX11_statement_136 : decode cX11_statement 136 = .ok (.iload 5, 2) := by decide +kernel
theorem dX11_statement_138 : decode cX11_statement 138 = .ok (.invokevirtual 284, 3) := by decide +kernel
theorem dX11_statement_141 : decode cX11_statement 141 = .ok (.ireturn, 1) := by decide +kernel
theorem dX11_statement_142 : decode cX11_statement 142 = .ok (.iload 5, 2) := by decide +kernel
theorem dX11_statement_144 : decode cX11_statement 144 = .ok (.iconst (-1), 1) := by decide +kernel
theorem dX11_statement_145 : decode cX11_statement 145 = .ok (.if_icmp .eq 19, 3) := by decide +kernel
theorem dX11_statement_148 : decode cX11_statement 148 = .ok (.aload_n 0, 1) := by decide +kernel
theorem dX11_statement_149 : decode cX11_statement 149 = .ok (.getfield 47, 3) := by decide +kernel
theorem dX11_statement_152 : decode cX11_statement 152 = .ok (.iload 5, 2) := by decide +kernel
theorem dX11_statement_154 : decode cX11_statement 154 = .ok (.invokevirtual 287, 3) := by decide +kernel
theorem dX11_statement_157 : decode cX11_statement 157 = .ok (.ifCond .eq 7, 3) := by decide +kernel
theorem dX11_statement_160 : decode cX11_statement 160 = .ok (.iconst 1, 1) := by decide +kernel
theorem dX11_statement_161 : decode cX11_statement 161 = .ok (.goto 4, 3) := by decide +kernel
theorem dX11_statement_164 : decode cX11_statement 164 = .ok (.iconst 0, 1) := by decide +kernel
theorem dX11_statement_165 : decode cX11_statement 165 = .ok (.ireturn, 1) := by decide +kernel
theorem dX11_statement_166 : decode cX11_statement 166 = .ok (.iload 5, 2) := by decide +kernel
theorem dX11_statement_168 : decode cX11_statement 168 = .ok (.iconst (-1), 1) := by decide +kernel
theorem dX11_statement_169 : decode cX11_statement 169 = .ok (.if_icmp .ne 7, 3) := by decide +kernel
theorem dX11_statement_172 : decode cX11_statement 172 = .ok (.iconst 0, 1) := by decide +kernel
theorem dX11_statement_173 : decode cX11_statement 173 = .ok (.goto 13, 3) := by decide +kernel
theorem dX11_statement_176 : decode cX11_statement 176 = .ok (.aload_n 0, 1) := by decide +kernel
theorem dX11_statement_177 : decode cX11_statement 177 = .ok (.getfield 47, 3) := by decide +kernel
theorem dX11_statement_180 : decode cX11_statement 180 = .ok (.getfield 290, 3) := by decide +kernel
theorem dX11_statement_183 : decode cX11_statement 183 = .ok (.iload 5, 2) := by decide +kernel
theorem dX11_statement_185 : decode cX11_statement 185 = .ok (.iaload, 1) := by decide +kernel
theorem dX11_statement_186 : decode cX11_statement 186 = .ok (.ireturn, 1) := by decide +kernel
theorem dX11_statement_187 : decode cX11_statement 187 = .ok (.ldc 153, 2) := by decide +kernel
theorem dX11_statement_189 : decode cX11_statement 189 = .ok (.ireturn, 1) := by decide +kernel
theorem dX11_condition_0 : decode cX11_condition 0 = .ok (.aload_n 0, 1) := by decide +kernel
theorem dX11_condition_1 : decode cX11_condition 1 = .ok (.iload_n 1, 1) := by decide +kernel
theorem dX11_condition_2 : decode cX11_condition 2 = .ok (.invokevirtual 216, 3) := by decide +kernel
theorem dX11_condition_5 : decode cX11_condition 5 = .ok (.ifCond .eq 16, 3) := by decide +kernel
theorem dX11_condition_8 : decode cX11_condition 8 = .ok (.aload_n 0, 1) := by decide +kernel
theorem dX11_condition_9 : decode cX11_condition 9 = .ok (.getfield 56, 3) := by decide +kernel
theorem dX11_condition_12 : decode cX11_condition 12 = .ok (.getfield 293, 3) := by decide +kernel
theorem dX11_condition_15 : decode cX11_condition 15 = .ok (.iload_n 1, 1) := by decide +kernel
theorem dX11_condition_16 : decode cX11_condition 16 = .ok (.iaload, 1) := by decide +kernel
theorem dX11_condition_17 : decode cX11_condition 17 = .ok (.iconst (-1), 1) := by decide +kernel
theorem dX11_condition_18 : decode cX11_condition 18 = .ok (.if_icmp .ne 5, 3) := by decide +kernel
theorem dX11_condition_21 : decode cX11_condition 21 = .ok (.iconst (-1), 1) := by decide +kernel
theorem dX11_condition_22 : decode cX11_condition 22 = .ok (.ireturn, 1) := by decide +kernel
theorem dX11_condition_23 : decode cX11_condition 23 = .ok (.aload_n 0, 1) := by decide +kernel
theorem dX11_condition_24 : decode cX11_condition 24 = .ok (.getfield 101, 3) := by decide +kernel
theorem dX11_condition_27 : decode cX11_condition 27 = .ok (.aload_n 0, 1) := by decide +kernel
theorem dX11_condition_28 : decode cX11_condition 28 = .ok (.getfield 56, 3) := by decide +kernel
theorem dX11_condition_31 : decode cX11_condition 31 = .ok (.getfield 293, 3) := by decide +kernel
theorem dX11_condition_34 : decode cX11_condition 34 = .ok (.iload_n 1, 1) := by decide +kernel
theorem dX11_condition_35 : decode cX11_condition 35 = .ok (.iaload, 1) := by decide +kernel
theorem dX11_condition_36 : decode cX11_condition 36 = .ok (.invokevirtual 284, 3) := by decide +kernel
theorem dX11_condition_39 : decode cX11_condition 39 = .ok (.istore_n 3, 1) := by decide +kernel
theorem dX11_condition_40 : decode cX11_condition 40 = .ok (.iload_n 2, 1) := by decide +kernel
theorem dX11_condition_41 : decode cX11_condition 41 = .ok (.iconst (-1), 1) := by decide +kernel
theorem dX11_condition_42 : decode cX11_condition 42 = .ok (.if_icmp .ne 7, 3) := by decide +kernel
theorem dX11_condition_45 : decode cX11_condition 45 = .ok (.iload_n 3, 1) := by decide +kernel
theorem dX11_condition_46 : decode cX11_condition 46 = .ok (.goto 11, 3) := by decide +kernel
theorem dX11_condition_49 : decode cX11_condition 49 = .ok (.aload_n 0, 1) := by decide +kernel
theorem dX11_condition_50 : decode cX11_condition 50 = .ok (.getfield 101, 3) := by decide +kernel
theorem dX11_condition_53 : decode cX11_condition 53 = .ok (.iload_n 2, 1) := by decide +kernel
theorem dX11_condition_54 : decode cX11_condition 54 = .ok (.invokevirtual 296, 3) := by decide +kernel
theorem dX11_condition_57 : decode cX11_condition 57 = .ok (.ireturn, 1) := by decide +kernel
theorem dX11_line_0 : decode cX11_line 0 = .ok (.aload_n 0, 1) := by decide +kernel
theorem dX11_line_1 : decode cX11_line 1 = .ok (.iload_n 1, 1) := by decide +kernel
theorem dX11_line_2 : decode cX11_line 2 = .ok (.invokevirtual 299, 3) := by decide +kernel
theorem dX11_line_5 : decode cX11_line 5 = .ok (.ifCond .ne 6, 3) := by decide +kernel
theorem dX11_line_8 : decode cX11_line 8 = .ok (.ldc 153, 2) := by decide +kernel
theorem dX11_line_10 : decode cX11_line 10 = .ok (.ireturn, 1) := by decide +kernel
theorem dX11_line_11 : decode cX11_line 11 = .ok (.iload_n 2, 1) := by decide +kernel
theorem dX11_line_12 : decode cX11_line 12 = .ok (.tableswitch 58 0 2 #[28, 38, 48], 28) := by decide +kernel
theorem dX11_line_40 : decode cX11_line 40 = .ok (.aload_n 0, 1) := by decide +kernel
theorem dX11_line_41 : decode cX11_line 41 = .ok (.getfield 83, 3) := by decide +kernel
theorem dX11_line_44 : decode cX11_line 44 = .ok (.getfield 302, 3) := by decide +kernel
theorem dX11_line_47 : decode cX11_line 47 = .ok (.iload_n 1, 1) := by decide +kernel
theorem dX11_line_48 : decode cX11_line 48 = .ok (.iaload, 1) := by decide +kernel
theorem dX11_line_49 : decode cX11_line 49 = .ok (.ireturn, 1) := by decide +kernel
theorem dX11_line_50 : decode cX11_line 50 = .ok (.aload_n 0, 1) := by decide +kernel
theorem dX11_line_51 : decode cX11_line 51 = .ok (.getfield 83, 3) := by decide +kernel
theorem dX11_line_54 : decode cX11_line 54 = .ok (.getfield 303, 3) := by decide +kernel
theorem dX11_line_57 : decode cX11_line 57 = .ok (.iload_n 1, 1) := by decide +kernel
theorem dX11_line_58 : decode cX11_line 58 = .ok (.iaload, 1) := by decide +kernel
theorem dX11_line_59 : decode cX11_line 59 = .ok (.ireturn, 1) := by decide +kernel
theorem dX11_line_60 : decode cX11_line 60 = .ok (.aload_n 0, 1) := by decide +kernel
theorem dX11_line_61 : decode cX11_line 61 = .ok (.getfield 83, 3) := by decide +kernel
theorem dX11_line_64 : decode cX11_line 64 = .ok (.getfield 306, 3) := by decide +kernel
theorem dX11_line_67 : decode cX11_line 67 = .ok (.iload_n 1, 1) := by decide +kernel
theorem dX11_line_68 : decode cX11_line 68 = .ok (.iaload, 1) := by decide +kernel
theorem dX11_line_69 : decode cX11_line 69 = .ok (.ireturn, 1) := by decide +kernel
theorem dX11_line_70 : decode cX11_line 70 = .ok (.ldc 153, 2) := by decide +kernel
theorem dX11_line_72 : decode cX11_line 72 = .ok (.ireturn, 1) := by decide +kernel
theorem dX11_spell_0 : decode cX11_spell 0 = .ok (.aload_n 0, 1) := by decide +kernel
theorem dX11_spell_1 : decode cX11_spell 1 = .ok (.iload_n 1, 1) := by decide +kernel
theorem dX11_spell_2 : decode cX11_spell 2 = .ok (.invokevirtual 299, 3) := by decide +kernel
theorem dX11_spell_5 : decode cX11_spell 5 = .ok (.ifCond .ne 5, 3) := by decide +kernel
theorem dX11_spell_8 : decode cX11_spell 8 = .ok (.iconst (-1), 1) := by decide +kernel
theorem dX11_spell_9 : decode cX11_spell 9 = .ok (.ireturn, 1) := by decide +kernel
theorem dX11_spell_10 : decode cX11_spell 10 = .ok (.aload_n 0, 1) := by decide +kernel
theorem dX11_spell_11 : decode cX11_spell 11 = .ok (.getfield 101, 3) := by decide +kernel
theorem dX11_spell_14 : decode cX11_spell 14 = .ok (.iload_n 1, 1) := by decide +kernel
theorem dX11_spell_15 : decode cX11_spell 15 = .ok (.invokevirtual 307, 3) := by decide +kernel
theorem dX11_spell_18 : decode cX11_spell 18 = .ok (.istore_n 3, 1) := by decide +kernel
theorem dX11_spell_19 : decode cX11_spell 19 = .ok (.iload_n 2, 1) := by decide +kernel
theorem dX11_spell_20 : decode cX11_spell 20 = .ok (.iconst (-1), 1) := by decide +kernel
theorem dX11_spell_21 : decode cX11_spell 21 = .ok (.if_icmp .ne 7, 3) := by decide +kernel
theorem dX11_spell_24 : decode cX11_spell 24 = .ok (.iload_n 3, 1) := by decide +kernel
theorem dX11_spell_25 : decode cX11_spell 25 = .ok (.goto 11, 3) := by decide +kernel
theorem dX11_spell_28 : decode cX11_spell 28 = .ok (.aload_n 0, 1) := by decide +kernel
theorem dX11_spell_29 : decode cX11_spell 29 = .ok (.getfield 101, 3) := by decide +kernel
theorem dX11_spell_32 : decode cX11_spell 32 = .ok (.iload_n 2, 1) := by decide +kernel
theorem dX11_spell_33 : decode cX11_spell 33 = .ok (.invokevirtual 296, 3) := by decide +kernel
theorem dX11_spell_36 : decode cX11_spell 36 = .ok (.ireturn, 1) := by decide +kernel
theorem dX11_type_0 : decode cX11_type 0 = .ok (.aload_n 0, 1) := by decide +kernel
theorem dX11_type_1 : decode cX11_type 1 = .ok (.getfield 105, 3) := by decide +kernel
theorem dX11_type_4 : decode cX11_type 4 = .ok (.ifCond .eq 7, 3) := by decide +kernel
theorem dX11_type_7 : decode cX11_type 7 = .ok (.iload_n 2, 1) := by decide +kernel
theorem dX11_type_8 : decode cX11_type 8 = .ok (.ifCond .ge 5, 3) := by decide +kernel
theorem dX11_type_11 : decode cX11_type 11 = .ok (.iconst (-1), 1) := by decide +kernel
theorem dX11_type_12 : decode cX11_type 12 = .ok (.ireturn, 1) := by decide +kernel
theorem dX11_type_13 : decode cX11_type 13 = .ok (.iload_n 1, 1) := by decide +kernel
theorem dX11_type_14 : decode cX11_type 14 = .ok (.tableswitch 105 0 2 #[26, 49, 77], 26) := by decide +kernel
theorem dX11_type_40 : decode cX11_type 40 = .ok (.iload_n 2, 1) := by decide +kernel
theorem dX11_type_41 : decode cX11_type 41 = .ok (.bipush 6, 2) := by decide +kernel
theorem dX11_type_43 : decode cX11_type 43 = .ok (.if_icmp .ge 18, 3) := by decide +kernel
theorem dX11_type_46 : decode cX11_type 46 = .ok (.aload_n 0, 1) := by decide +kernel
theorem dX11_type_47 : decode cX11_type 47 = .ok (.getfield 65, 3) := by decide +kernel
theorem dX11_type_50 : decode cX11_type 50 = .ok (.getfield 310, 3) := by decide +kernel
theorem dX11_type_53 : decode cX11_type 53 = .ok (.iload_n 2, 1) := by decide +kernel
theorem dX11_type_54 : decode cX11_type 54 = .ok (.baload, 1) := by decide +kernel
theorem dX11_type_55 : decode cX11_type 55 = .ok (.invokestatic 313, 3) := by decide +kernel
theorem dX11_type_58 : decode cX11_type 58 = .ok (.goto 4, 3) := by decide +kernel
theorem dX11_type_61 : decode cX11_type 61 = .ok (.iconst (-1), 1) := by decide +kernel
theorem dX11_type_62 : decode cX11_type 62 = .ok (.ireturn, 1) := by decide +kernel
theorem dX11_type_63 : decode cX11_type 63 = .ok (.iload_n 2, 1) := by decide +kernel
theorem dX11_type_64 : decode cX11_type 64 = .ok (.aload_n 0, 1) := by decide +kernel
theorem dX11_type_65 : decode cX11_type 65 = .ok (.getfield 31, 3) := by decide +kernel
theorem dX11_type_68 : decode cX11_type 68 = .ok (.getfield 187, 3) := by decide +kernel
theorem dX11_type_71 : decode cX11_type 71 = .ok (.if_icmp .ge 18, 3) := by decide +kernel
theorem dX11_type_74 : decode cX11_type 74 = .ok (.aload_n 0, 1) := by decide +kernel
theorem dX11_type_75 : decode cX11_type 75 = .ok (.getfield 65, 3) := by decide +kernel
theorem dX11_type_78 : decode cX11_type 78 = .ok (.getfield 317, 3) := by decide +kernel
theorem dX11_type_81 : decode cX11_type 81 = .ok (.iload_n 2, 1) := by decide +kernel
theorem dX11_type_82 : decode cX11_type 82 = .ok (.baload, 1) := by decide +kernel
theorem dX11_type_83 : decode cX11_type 83 = .ok (.invokestatic 313, 3) := by decide +kernel
theorem dX11_type_86 : decode cX11_type 86 = .ok (.goto 4, 3) := by decide +kernel
theorem dX11_type_89 : decode cX11_type 89 = .ok (.iconst (-1), 1) := by decide +kernel
theorem dX11_type_90 : decode cX11_type 90 = .ok (.ireturn, 1) := by decide +kernel
theorem dX11_type_91 : decode cX11_type 91 = .ok (.iload_n 2, 1) := by decide +kernel
theorem dX11_type_92 : decode cX11_type 92 = .ok (.aload_n 0, 1) := by decide +kernel
theorem dX11_type_93 : decode cX11_type 93 = .ok (.getfield 56, 3) := by decide +kernel
theorem dX11_type_96 : decode cX11_type 96 = .ok (.getfield 184, 3) := by decide +kernel
theorem dX11_type_99 : decode cX11_type 99 = .ok (.if_icmp .ge 18, 3) := by decide +kernel
theorem dX11_type_102 : decode cX11_type 102 = .ok (.aload_n 0, 1) := by decide +kernel
theorem dX11_type_103 : decode cX11_type 103 = .ok (.getfield 65, 3) := by decide +kernel
theorem dX11_type_106 : decode cX11_type 106 = .ok (.getfield 320, 3) := by decide +kernel
theorem dX11_type_109 : decode cX11_type 109 = .ok (.iload_n 2, 1) := by decide +kernel
theorem dX11_type_110 : decode cX11_type 110 = .ok (.baload, 1) := by decide +kernel
theorem dX11_type_111 : decode cX11_type 111 = .ok (.invokestatic 313, 3) := by decide +kernel
theorem dX11_type_114 : decode cX11_type 114 = .ok (.goto 4, 3) := by decide +kernel
theorem dX11_type_117 : decode cX11_type 117 = .ok (.iconst (-1), 1) := by decide +kernel
theorem dX11_type_118 : decode cX11_type 118 = .ok (.ireturn, 1) := by decide +kernel
theorem dX11_type_119 : decode cX11_type 119 = .ok (.iconst (-1), 1) := by decide +kernel
theorem dX11_type_120 : decode cX11_type 120 = .ok (.ireturn, 1) := by decide +kernel
theorem dX11_run_0 : decode cX11_run 0 = .ok (.aload_n 0, 1) := by decide +kernel
theorem dX11_run_1 : decode cX11_run 1 = .ok (.iload_n 1, 1) := by decide +kernel
theorem dX11_run_2 : decode cX11_run 2 = .ok (.iload 5, 2) := by decide +kernel
theorem dX11_run_4 : decode cX11_run 4 = .ok (.invokevirtual 322, 3) := by decide +kernel
theorem dX11_run_7 : decode cX11_run 7 = .ok (.ifCond .eq 15, 3) := by decide +kernel
theorem dX11_run_10 : decode cX11_run 10 = .ok (.iload 6, 2) := by decide +kernel
theorem dX11_run_12 : decode cX11_run 12 = .ok (.ifCond .lt 10, 3) := by decide +kernel
theorem dX11_run_15 : decode cX11_run 15 = .ok (.iload 6, 2) := by decide +kernel
theorem dX11_run_17 : decode cX11_run 17 = .ok (.bipush 11, 2) := by decide +kernel
theorem dX11_run_19 : decode cX11_run 19 = .ok (.if_icmp .le 6, 3) := by decide +kernel
theorem dX11_run_22 : decode cX11_run 22 = .ok (.ldc 153, 2) := by decide +kernel
theorem dX11_run_24 : decode cX11_run 24 = .ok (.ireturn, 1) := by decide +kernel
theorem dX11_run_25 : decode cX11_run 25 = .ok (.aload_n 0, 1) := by decide +kernel
theorem dX11_run_26 : decode cX11_run 26 = .ok (.getfield 92, 3) := by decide +kernel
theorem dX11_run_29 : decode cX11_run 29 = .ok (.iload_n 2, 1) := by decide +kernel
theorem dX11_run_30 : decode cX11_run 30 = .ok (.iload_n 3, 1) := by decide +kernel
theorem dX11_run_31 : decode cX11_run 31 = .ok (.iload 4, 2) := by decide +kernel
theorem dX11_run_33 : decode cX11_run 33 = .ok (.iload 5, 2) := by decide +kernel
theorem dX11_run_35 : decode cX11_run 35 = .ok (.iconst (-1), 1) := by decide +kernel
theorem dX11_run_36 : decode cX11_run 36 = .ok (.invokevirtual 325, 3) := by decide +kernel
theorem dX11_run_39 : decode cX11_run 39 = .ok (.aload_n 0, 1) := by decide +kernel
theorem dX11_run_40 : decode cX11_run 40 = .ok (.iload_n 1, 1) := by decide +kernel
theorem dX11_run_41 : decode cX11_run 41 = .ok (.invokevirtual 328, 3) := by decide +kernel
theorem dX11_run_44 : decode cX11_run 44 = .ok (.iload 6, 2) := by decide +kernel
theorem dX11_run_46 : decode cX11_run 46 = .ok (.tableswitch 125 0 11 #[62, 70, 78, 101, 109, 125, 125, 125, 125, 125, 125, 117], 62) := by decide +kernel
theorem dX11_run_108 : decode cX11_run 108 = .ok (.aload_n 0, 1) := by decide +kernel
theorem dX11_run_109 : decode cX11_run 109 = .ok (.getfield 92, 3) := by decide +kernel
theorem dX11_run_112 : decode cX11_run 112 = .ok (.getfield 331, 3) := by decide +kernel
theorem dX11_run_115 : decode cX11_run 115 = .ok (.ireturn, 1) := by decide +kernel
theorem dX11_run_116 : decode cX11_run 116 = .ok (.aload_n 0, 1) := by decide +kernel
theorem dX11_run_117 : decode cX11_run 117 = .ok (.getfield 92, 3) := by decide +kernel
theorem dX11_run_120 : decode cX11_run 120 = .ok (.getfield 334, 3) := by decide +kernel
theorem dX11_run_123 : decode cX11_run 123 = .ok (.ireturn, 1) := by decide +kernel
theorem dX11_run_124 : decode cX11_run 124 = .ok (.aload_n 0, 1) := by decide +kernel
theorem dX11_run_125 : decode cX11_run 125 = .ok (.getfield 92, 3) := by decide +kernel
theorem dX11_run_128 : decode cX11_run 128 = .ok (.getfield 334, 3) := by decide +kernel
theorem dX11_run_131 : decode cX11_run 131 = .ok (.iconst 1, 1) := by decide +kernel
theorem dX11_run_132 : decode cX11_run 132 = .ok (.if_icmp .ne 13, 3) := by decide +kernel
theorem dX11_run_135 : decode cX11_run 135 = .ok (.aload_n 0, 1) := by decide +kernel
theorem dX11_run_136 : decode cX11_run 136 = .ok (.getfield 92, 3) := by decide +kernel
theorem dX11_run_139 : decode cX11_run 139 = .ok (.getfield 337, 3) := by decide +kernel
theorem dX11_run_142 : decode cX11_run 142 = .ok (.goto 4, 3) := by decide +kernel
theorem dX11_run_145 : decode cX11_run 145 = .ok (.iconst 0, 1) := by decide +kernel
theorem dX11_run_146 : decode cX11_run 146 = .ok (.ireturn, 1) := by decide +kernel
theorem dX11_run_147 : decode cX11_run 147 = .ok (.aload_n 0, 1) := by decide +kernel
theorem dX11_run_148 : decode cX11_run 148 = .ok (.getfield 92, 3) := by decide +kernel
theorem dX11_run_151 : decode cX11_run 151 = .ok (.getfield 340, 3) := by decide +kernel
theorem dX11_run_154 : decode cX11_run 154 = .ok (.ireturn, 1) := by decide +kernel
theorem dX11_run_155 : decode cX11_run 155 = .ok (.aload_n 0, 1) := by decide +kernel
theorem dX11_run_156 : decode cX11_run 156 = .ok (.getfield 92, 3) := by decide +kernel
theorem dX11_run_159 : decode cX11_run 159 = .ok (.getfield 343, 3) := by decide +kernel
theorem dX11_run_162 : decode cX11_run 162 = .ok (.ireturn, 1) := by decide +kernel
theorem dX11_run_163 : decode cX11_run 163 = .ok (.aload_n 0, 1) := by decide +kernel
theorem dX11_run_164 : decode cX11_run 164 = .ok (.getfield 92, 3) := by decide +kernel
theorem dX11_run_167 : decode cX11_run 167 = .ok (.getfield 346, 3) := by decide +kernel
theorem dX11_run_170 : decode cX11_run 170 = .ok (.ireturn, 1) := by decide +kernel
theorem dX11_run_171 : decode cX11_run 171 = .ok (.aload_n 0, 1) := by decide +kernel
theorem dX11_run_172 : decode cX11_run 172 = .ok (.getfield 92, 3) := by decide +kernel
theorem dX11_run_175 : decode cX11_run 175 = .ok (.getfield 349, 3) := by decide +kernel
theorem dX11_run_178 : decode cX11_run 178 = .ok (.iload 6, 2) := by decide +kernel
theorem dX11_run_180 : decode cX11_run 180 = .ok (.iconst 5, 1) := by decide +kernel
theorem dX11_run_181 : decode cX11_run 181 = .ok (.isub, 1) := by decide +kernel
theorem dX11_run_182 : decode cX11_run 182 = .ok (.iaload, 1) := by decide +kernel
theorem dX11_run_183 : decode cX11_run 183 = .ok (.ireturn, 1) := by decide +kernel
theorem dX11_output_0 : decode cX11_output 0 = .ok (.aload_n 0, 1) := by decide +kernel
theorem dX11_output_1 : decode cX11_output 1 = .ok (.iload_n 1, 1) := by decide +kernel
theorem dX11_output_2 : decode cX11_output 2 = .ok (.iload 5, 2) := by decide +kernel
theorem dX11_output_4 : decode cX11_output 4 = .ok (.invokevirtual 322, 3) := by decide +kernel
theorem dX11_output_7 : decode cX11_output 7 = .ok (.ifCond .eq 8, 3) := by decide +kernel
theorem dX11_output_10 : decode cX11_output 10 = .ok (.iload 6, 2) := by decide +kernel
theorem dX11_output_12 : decode cX11_output 12 = .ok (.ifCond .ge 6, 3) := by decide +kernel
theorem dX11_output_15 : decode cX11_output 15 = .ok (.ldc 153, 2) := by decide +kernel
theorem dX11_output_17 : decode cX11_output 17 = .ok (.ireturn, 1) := by decide +kernel
theorem dX11_output_18 : decode cX11_output 18 = .ok (.aload_n 0, 1) := by decide +kernel
theorem dX11_output_19 : decode cX11_output 19 = .ok (.getfield 92, 3) := by decide +kernel
theorem dX11_output_22 : decode cX11_output 22 = .ok (.iload_n 2, 1) := by decide +kernel
theorem dX11_output_23 : decode cX11_output 23 = .ok (.iload_n 3, 1) := by decide +kernel
theorem dX11_output_24 : decode cX11_output 24 = .ok (.iload 4, 2) := by decide +kernel
theorem dX11_output_26 : decode cX11_output 26 = .ok (.iload 5, 2) := by decide +kernel
theorem dX11_output_28 : decode cX11_output 28 = .ok (.iload 6, 2) := by decide +kernel
theorem dX11_output_30 : decode cX11_output 30 = .ok (.invokevirtual 325, 3) := by decide +kernel
theorem dX11_output_33 : decode cX11_output 33 = .ok (.aload_n 0, 1) := by decide +kernel
theorem dX11_output_34 : decode cX11_output 34 = .ok (.iload_n 1, 1) := by decide +kernel
theorem dX11_output_35 : decode cX11_output 35 = .ok (.invokevirtual 328, 3) := by decide +kernel
theorem dX11_output_38 : decode cX11_output 38 = .ok (.iload 6, 2) := by decide +kernel
theorem dX11_output_40 : decode cX11_output 40 = .ok (.aload_n 0, 1) := by decide +kernel
theorem dX11_output_41 : decode cX11_output 41 = .ok (.getfield 92, 3) := by decide +kernel
theorem dX11_output_44 : decode cX11_output 44 = .ok (.getfield 331, 3) := by decide +kernel
theorem dX11_output_47 : decode cX11_output 47 = .ok (.if_icmp .ge 13, 3) := by decide +kernel
theorem dX11_output_50 : decode cX11_output 50 = .ok (.aload_n 0, 1) := by decide +kernel
theorem dX11_output_51 : decode cX11_output 51 = .ok (.getfield 92, 3) := by decide +kernel
theorem dX11_output_54 : decode cX11_output 54 = .ok (.getfield 351, 3) := by decide +kernel
theorem dX11_output_57 : decode cX11_output 57 = .ok (.goto 5, 3) := by decide +kernel
theorem dX11_output_60 : decode cX11_output 60 = .ok (.ldc 153, 2) := by decide +kernel
theorem dX11_output_62 : decode cX11_output 62 = .ok (.ireturn, 1) := by decide +kernel
theorem dX11_comesTo_0 : decode cX11_comesTo 0 = .ok (.aload_n 0, 1) := by decide +kernel
theorem dX11_comesTo_1 : decode cX11_comesTo 1 = .ok (.iload_n 1, 1) := by decide +kernel
theorem dX11_comesTo_2 : decode cX11_comesTo 2 = .ok (.invokevirtual 216, 3) := by decide +kernel
theorem dX11_comesTo_5 : decode cX11_comesTo 5 = .ok (.ifCond .eq 14, 3) := by decide +kernel
theorem dX11_comesTo_8 : decode cX11_comesTo 8 = .ok (.aload_n 0, 1) := by decide +kernel
theorem dX11_comesTo_9 : decode cX11_comesTo 9 = .ok (.getfield 31, 3) := by decide +kernel
theorem dX11_comesTo_12 : decode cX11_comesTo 12 = .ok (.iload_n 1, 1) := by decide +kernel
theorem dX11_comesTo_13 : decode cX11_comesTo 13 = .ok (.invokevirtual 354, 3) := by decide +kernel
theorem dX11_comesTo_16 : decode cX11_comesTo 16 = .ok (.goto 6, 3) := by decide +kernel
theorem dX11_comesTo_19 : decode cX11_comesTo 19 = .ok (.ldc2_w 273, 3) := by decide +kernel
theorem dX11_comesTo_22 : decode cX11_comesTo 22 = .ok (.lreturn, 1) := by decide +kernel
theorem dX11_far_0 : decode cX11_far 0 = .ok (.aload_n 0, 1) := by decide +kernel
theorem dX11_far_1 : decode cX11_far 1 = .ok (.iload_n 1, 1) := by decide +kernel
theorem dX11_far_2 : decode cX11_far 2 = .ok (.invokevirtual 216, 3) := by decide +kernel
theorem dX11_far_5 : decode cX11_far 5 = .ok (.ifCond .eq 23, 3) := by decide +kernel
theorem dX11_far_8 : decode cX11_far 8 = .ok (.aload_n 0, 1) := by decide +kernel
theorem dX11_far_9 : decode cX11_far 9 = .ok (.iload_n 2, 1) := by decide +kernel
theorem dX11_far_10 : decode cX11_far 10 = .ok (.invokevirtual 216, 3) := by decide +kernel
theorem dX11_far_13 : decode cX11_far 13 = .ok (.ifCond .eq 15, 3) := by decide +kernel
theorem dX11_far_16 : decode cX11_far 16 = .ok (.aload_n 0, 1) := by decide +kernel
theorem dX11_far_17 : decode cX11_far 17 = .ok (.getfield 31, 3) := by decide +kernel
theorem dX11_far_20 : decode cX11_far 20 = .ok (.iload_n 1, 1) := by decide +kernel
theorem dX11_far_21 : decode cX11_far 21 = .ok (.iload_n 2, 1) := by decide +kernel
theorem dX11_far_22 : decode cX11_far 22 = .ok (.invokevirtual 358, 3) := by decide +kernel
theorem dX11_far_25 : decode cX11_far 25 = .ok (.goto 4, 3) := by decide +kernel
theorem dX11_far_28 : decode cX11_far 28 = .ok (.iconst (-1), 1) := by decide +kernel
theorem dX11_far_29 : decode cX11_far 29 = .ok (.ireturn, 1) := by decide +kernel
theorem dX11_most_0 : decode cX11_most 0 = .ok (.aload_n 0, 1) := by decide +kernel
theorem dX11_most_1 : decode cX11_most 1 = .ok (.getfield 105, 3) := by decide +kernel
theorem dX11_most_4 : decode cX11_most 4 = .ok (.ifCond .ne 6, 3) := by decide +kernel
theorem dX11_most_7 : decode cX11_most 7 = .ok (.ldc 153, 2) := by decide +kernel
theorem dX11_most_9 : decode cX11_most 9 = .ok (.ireturn, 1) := by decide +kernel
theorem dX11_most_10 : decode cX11_most 10 = .ok (.iload_n 1, 1) := by decide +kernel
theorem dX11_most_11 : decode cX11_most 11 = .ok (.tableswitch 155 0 7 #[45, 53, 75, 99, 123, 131, 139, 147], 45) := by decide +kernel
theorem dX11_most_56 : decode cX11_most 56 = .ok (.aload_n 0, 1) := by decide +kernel
theorem dX11_most_57 : decode cX11_most 57 = .ok (.getfield 40, 3) := by decide +kernel
theorem dX11_most_60 : decode cX11_most 60 = .ok (.invokevirtual 362, 3) := by decide +kernel
theorem dX11_most_63 : decode cX11_most 63 = .ok (.ireturn, 1) := by decide +kernel
theorem dX11_most_64 : decode cX11_most 64 = .ok (.aload_n 0, 1) := by decide +kernel
theorem dX11_most_65 : decode cX11_most 65 = .ok (.getfield 40, 3) := by decide +kernel
theorem dX11_most_68 : decode cX11_most 68 = .ok (.getfield 173, 3) := by decide +kernel
theorem dX11_most_71 : decode cX11_most 71 = .ok (.ifCond .eq 7, 3) := by decide +kernel
theorem dX11_most_74 : decode cX11_most 74 = .ok (.iconst (-1), 1) := by decide +kernel
theorem dX11_most_75 : decode cX11_most 75 = .ok (.goto 10, 3) := by decide +kernel
theorem dX11_most_78 : decode cX11_most 78 = .ok (.aload_n 0, 1) := by decide +kernel
theorem dX11_most_79 : decode cX11_most 79 = .ok (.getfield 83, 3) := by decide +kernel
theorem dX11_most_82 : decode cX11_most 82 = .ok (.invokevirtual 365, 3) := by decide +kernel
theorem dX11_most_85 : decode cX11_most 85 = .ok (.ireturn, 1) := by decide +kernel
theorem dX11_most_86 : decode cX11_most 86 = .ok (.aload_n 0, 1) := by decide +kernel
theorem dX11_most_87 : decode cX11_most 87 = .ok (.getfield 40, 3) := by decide +kernel
theorem dX11_most_90 : decode cX11_most 90 = .ok (.getfield 173, 3) := by decide +kernel
theorem dX11_most_93 : decode cX11_most 93 = .ok (.ifCond .eq 7, 3) := by decide +kernel
theorem dX11_most_96 : decode cX11_most 96 = .ok (.iconst (-1), 1) := by decide +kernel
theorem dX11_most_97 : decode cX11_most 97 = .ok (.goto 12, 3) := by decide +kernel
theorem dX11_most_100 : decode cX11_most 100 = .ok (.aload_n 0, 1) := by decide +kernel
theorem dX11_most_101 : decode cX11_most 101 = .ok (.getfield 83, 3) := by decide +kernel
theorem dX11_most_104 : decode cX11_most 104 = .ok (.bipush 6, 2) := by decide +kernel
theorem dX11_most_106 : decode cX11_most 106 = .ok (.invokevirtual 368, 3) := by decide +kernel
theorem dX11_most_109 : decode cX11_most 109 = .ok (.ireturn, 1) := by decide +kernel
theorem dX11_most_110 : decode cX11_most 110 = .ok (.aload_n 0, 1) := by decide +kernel
theorem dX11_most_111 : decode cX11_most 111 = .ok (.getfield 40, 3) := by decide +kernel
theorem dX11_most_114 : decode cX11_most 114 = .ok (.getfield 173, 3) := by decide +kernel
theorem dX11_most_117 : decode cX11_most 117 = .ok (.ifCond .eq 7, 3) := by decide +kernel
theorem dX11_most_120 : decode cX11_most 120 = .ok (.iconst (-1), 1) := by decide +kernel
theorem dX11_most_121 : decode cX11_most 121 = .ok (.goto 12, 3) := by decide +kernel
theorem dX11_most_124 : decode cX11_most 124 = .ok (.aload_n 0, 1) := by decide +kernel
theorem dX11_most_125 : decode cX11_most 125 = .ok (.getfield 83, 3) := by decide +kernel
theorem dX11_most_128 : decode cX11_most 128 = .ok (.bipush 7, 2) := by decide +kernel
theorem dX11_most_130 : decode cX11_most 130 = .ok (.invokevirtual 368, 3) := by decide +kernel
theorem dX11_most_133 : decode cX11_most 133 = .ok (.ireturn, 1) := by decide +kernel
theorem dX11_most_134 : decode cX11_most 134 = .ok (.aload_n 0, 1) := by decide +kernel
theorem dX11_most_135 : decode cX11_most 135 = .ok (.getfield 56, 3) := by decide +kernel
theorem dX11_most_138 : decode cX11_most 138 = .ok (.invokevirtual 371, 3) := by decide +kernel
theorem dX11_most_141 : decode cX11_most 141 = .ok (.ireturn, 1) := by decide +kernel
theorem dX11_most_142 : decode cX11_most 142 = .ok (.aload_n 0, 1) := by decide +kernel
theorem dX11_most_143 : decode cX11_most 143 = .ok (.getfield 19, 3) := by decide +kernel
theorem dX11_most_146 : decode cX11_most 146 = .ok (.invokevirtual 374, 3) := by decide +kernel
theorem dX11_most_149 : decode cX11_most 149 = .ok (.ireturn, 1) := by decide +kernel
theorem dX11_most_150 : decode cX11_most 150 = .ok (.aload_n 0, 1) := by decide +kernel
theorem dX11_most_151 : decode cX11_most 151 = .ok (.getfield 56, 3) := by decide +kernel
theorem dX11_most_154 : decode cX11_most 154 = .ok (.invokevirtual 377, 3) := by decide +kernel
theorem dX11_most_157 : decode cX11_most 157 = .ok (.ireturn, 1) := by decide +kernel
theorem dX11_most_158 : decode cX11_most 158 = .ok (.aload_n 0, 1) := by decide +kernel
theorem dX11_most_159 : decode cX11_most 159 = .ok (.getfield 65, 3) := by decide +kernel
theorem dX11_most_162 : decode cX11_most 162 = .ok (.invokevirtual 380, 3) := by decide +kernel
theorem dX11_most_165 : decode cX11_most 165 = .ok (.ireturn, 1) := by decide +kernel
theorem dX11_most_166 : decode cX11_most 166 = .ok (.ldc 153, 2) := by decide +kernel
theorem dX11_most_168 : decode cX11_most 168 = .ok (.ireturn, 1) := by decide +kernel
theorem dX11_isBlock_0 : decode cX11_isBlock 0 = .ok (.aload_n 0, 1) := by decide +kernel
theorem dX11_isBlock_1 : decode cX11_isBlock 1 = .ok (.getfield 105, 3) := by decide +kernel
theorem dX11_isBlock_4 : decode cX11_isBlock 4 = .ok (.ifCond .eq 22, 3) := by decide +kernel
theorem dX11_isBlock_7 : decode cX11_isBlock 7 = .ok (.iload_n 1, 1) := by decide +kernel
theorem dX11_isBlock_8 : decode cX11_isBlock 8 = .ok (.ifCond .lt 18, 3) := by decide +kernel
theorem dX11_isBlock_11 : decode cX11_isBlock 11 = .ok (.iload_n 1, 1) := by decide +kernel
theorem dX11_isBlock_12 : decode cX11_isBlock 12 = .ok (.aload_n 0, 1) := by decide +kernel
theorem dX11_isBlock_13 : decode cX11_isBlock 13 = .ok (.getfield 31, 3) := by decide +kernel
theorem dX11_isBlock_16 : decode cX11_isBlock 16 = .ok (.getfield 135, 3) := by decide +kernel
theorem dX11_isBlock_19 : decode cX11_isBlock 19 = .ok (.if_icmp .ge 7, 3) := by decide +kernel
theorem dX11_isBlock_22 : decode cX11_isBlock 22 = .ok (.iconst 1, 1) := by decide +kernel
theorem dX11_isBlock_23 : decode cX11_isBlock 23 = .ok (.goto 4, 3) := by decide +kernel
theorem dX11_isBlock_26 : decode cX11_isBlock 26 = .ok (.iconst 0, 1) := by decide +kernel
theorem dX11_isBlock_27 : decode cX11_isBlock 27 = .ok (.ireturn, 1) := by decide +kernel
theorem dX11_isLine_0 : decode cX11_isLine 0 = .ok (.aload_n 0, 1) := by decide +kernel
theorem dX11_isLine_1 : decode cX11_isLine 1 = .ok (.getfield 105, 3) := by decide +kernel
theorem dX11_isLine_4 : decode cX11_isLine 4 = .ok (.ifCond .eq 32, 3) := by decide +kernel
theorem dX11_isLine_7 : decode cX11_isLine 7 = .ok (.aload_n 0, 1) := by decide +kernel
theorem dX11_isLine_8 : decode cX11_isLine 8 = .ok (.getfield 40, 3) := by decide +kernel
theorem dX11_isLine_11 : decode cX11_isLine 11 = .ok (.getfield 173, 3) := by decide +kernel
theorem dX11_isLine_14 : decode cX11_isLine 14 = .ok (.ifCond .ne 22, 3) := by decide +kernel
theorem dX11_isLine_17 : decode cX11_isLine 17 = .ok (.iload_n 1, 1) := by decide +kernel
theorem dX11_isLine_18 : decode cX11_isLine 18 = .ok (.ifCond .lt 18, 3) := by decide +kernel
theorem dX11_isLine_21 : decode cX11_isLine 21 = .ok (.iload_n 1, 1) := by decide +kernel
theorem dX11_isLine_22 : decode cX11_isLine 22 = .ok (.aload_n 0, 1) := by decide +kernel
theorem dX11_isLine_23 : decode cX11_isLine 23 = .ok (.getfield 83, 3) := by decide +kernel
theorem dX11_isLine_26 : decode cX11_isLine 26 = .ok (.getfield 182, 3) := by decide +kernel
theorem dX11_isLine_29 : decode cX11_isLine 29 = .ok (.if_icmp .ge 7, 3) := by decide +kernel
theorem dX11_isLine_32 : decode cX11_isLine 32 = .ok (.iconst 1, 1) := by decide +kernel
theorem dX11_isLine_33 : decode cX11_isLine 33 = .ok (.goto 4, 3) := by decide +kernel
theorem dX11_isLine_36 : decode cX11_isLine 36 = .ok (.iconst 0, 1) := by decide +kernel
theorem dX11_isLine_37 : decode cX11_isLine 37 = .ok (.ireturn, 1) := by decide +kernel
theorem dX11_canRun_0 : decode cX11_canRun 0 = .ok (.aload_n 0, 1) := by decide +kernel
theorem dX11_canRun_1 : decode cX11_canRun 1 = .ok (.getfield 105, 3) := by decide +kernel
theorem dX11_canRun_4 : decode cX11_canRun 4 = .ok (.ifCond .eq 15, 3) := by decide +kernel
theorem dX11_canRun_7 : decode cX11_canRun 7 = .ok (.iload_n 2, 1) := by decide +kernel
theorem dX11_canRun_8 : decode cX11_canRun 8 = .ok (.iconst 1, 1) := by decide +kernel
theorem dX11_canRun_9 : decode cX11_canRun 9 = .ok (.if_icmp .lt 10, 3) := by decide +kernel
theorem dX11_canRun_12 : decode cX11_canRun 12 = .ok (.iload_n 2, 1) := by decide +kernel
theorem dX11_canRun_13 : decode cX11_canRun 13 = .ok (.sipush 200, 3) := by decide +kernel
theorem dX11_canRun_16 : decode cX11_canRun 16 = .ok (.if_icmp .le 5, 3) := by decide +kernel
theorem dX11_canRun_19 : decode cX11_canRun 19 = .ok (.iconst 0, 1) := by decide +kernel
theorem dX11_canRun_20 : decode cX11_canRun 20 = .ok (.ireturn, 1) := by decide +kernel
theorem dX11_canRun_21 : decode cX11_canRun 21 = .ok (.iload_n 1, 1) := by decide +kernel
theorem dX11_canRun_22 : decode cX11_canRun 22 = .ok (.ifCond .eq 18, 3) := by decide +kernel
theorem dX11_canRun_25 : decode cX11_canRun 25 = .ok (.iload_n 1, 1) := by decide +kernel
theorem dX11_canRun_26 : decode cX11_canRun 26 = .ok (.iconst 1, 1) := by decide +kernel
theorem dX11_canRun_27 : decode cX11_canRun 27 = .ok (.if_icmp .ne 17, 3) := by decide +kernel
theorem dX11_canRun_30 : decode cX11_canRun 30 = .ok (.aload_n 0, 1) := by decide +kernel
theorem dX11_canRun_31 : decode cX11_canRun 31 = .ok (.getfield 40, 3) := by decide +kernel
theorem dX11_canRun_34 : decode cX11_canRun 34 = .ok (.getfield 173, 3) := by decide +kernel
theorem dX11_canRun_37 : decode cX11_canRun 37 = .ok (.ifCond .ne 7, 3) := by decide +kernel
theorem dX11_canRun_40 : decode cX11_canRun 40 = .ok (.iconst 1, 1) := by decide +kernel
theorem dX11_canRun_41 : decode cX11_canRun 41 = .ok (.goto 4, 3) := by decide +kernel
theorem dX11_canRun_44 : decode cX11_canRun 44 = .ok (.iconst 0, 1) := by decide +kernel
theorem dX11_canRun_45 : decode cX11_canRun 45 = .ok (.ireturn, 1) := by decide +kernel
theorem dX11_bytesIn_0 : decode cX11_bytesIn 0 = .ok (.iconst 0, 1) := by decide +kernel
theorem dX11_bytesIn_1 : decode cX11_bytesIn 1 = .ok (.istore_n 1, 1) := by decide +kernel
theorem dX11_bytesIn_2 : decode cX11_bytesIn 2 = .ok (.bipush 24, 2) := by decide +kernel
theorem dX11_bytesIn_4 : decode cX11_bytesIn 4 = .ok (.istore_n 2, 1) := by decide +kernel
theorem dX11_bytesIn_5 : decode cX11_bytesIn 5 = .ok (.iload_n 2, 1) := by decide +kernel
theorem dX11_bytesIn_6 : decode cX11_bytesIn 6 = .ok (.ifCond .lt 22, 3) := by decide +kernel
theorem dX11_bytesIn_9 : decode cX11_bytesIn 9 = .ok (.iload_n 0, 1) := by decide +kernel
theorem dX11_bytesIn_10 : decode cX11_bytesIn 10 = .ok (.iload_n 2, 1) := by decide +kernel
theorem dX11_bytesIn_11 : decode cX11_bytesIn 11 = .ok (.iushr, 1) := by decide +kernel
theorem dX11_bytesIn_12 : decode cX11_bytesIn 12 = .ok (.sipush 255, 3) := by decide +kernel
theorem dX11_bytesIn_15 : decode cX11_bytesIn 15 = .ok (.iand, 1) := by decide +kernel
theorem dX11_bytesIn_16 : decode cX11_bytesIn 16 = .ok (.ifCond .eq 6, 3) := by decide +kernel
theorem dX11_bytesIn_19 : decode cX11_bytesIn 19 = .ok (.iinc 1 1, 3) := by decide +kernel
theorem dX11_bytesIn_22 : decode cX11_bytesIn 22 = .ok (.iinc 2 (-8), 3) := by decide +kernel
theorem dX11_bytesIn_25 : decode cX11_bytesIn 25 = .ok (.goto (-20), 3) := by decide +kernel
theorem dX11_bytesIn_28 : decode cX11_bytesIn 28 = .ok (.iload_n 1, 1) := by decide +kernel
theorem dX11_bytesIn_29 : decode cX11_bytesIn 29 = .ok (.ireturn, 1) := by decide +kernel
theorem dX12_init_0 : decode cX12_init 0 = .ok (.aload_n 0, 1) := by decide +kernel
theorem dX12_init_1 : decode cX12_init 1 = .ok (.invokespecial 1, 3) := by decide +kernel
theorem dX12_init_4 : decode cX12_init 4 = .ok (.aload_n 0, 1) := by decide +kernel
theorem dX12_init_5 : decode cX12_init 5 = .ok (.sipush 240, 3) := by decide +kernel
theorem dX12_init_8 : decode cX12_init 8 = .ok (.newarray .byte, 2) := by decide +kernel
theorem dX12_init_10 : decode cX12_init 10 = .ok (.putfield 9, 3) := by decide +kernel
theorem dX12_init_13 : decode cX12_init 13 = .ok (.aload_n 0, 1) := by decide +kernel
theorem dX12_init_14 : decode cX12_init 14 = .ok (.bipush 40, 2) := by decide +kernel
theorem dX12_init_16 : decode cX12_init 16 = .ok (.newarray .int, 2) := by decide +kernel
theorem dX12_init_18 : decode cX12_init 18 = .ok (.putfield 13, 3) := by decide +kernel
theorem dX12_init_21 : decode cX12_init 21 = .ok (.aload_n 0, 1) := by decide +kernel
theorem dX12_init_22 : decode cX12_init 22 = .ok (.bipush 40, 2) := by decide +kernel
theorem dX12_init_24 : decode cX12_init 24 = .ok (.newarray .int, 2) := by decide +kernel
theorem dX12_init_26 : decode cX12_init 26 = .ok (.putfield 17, 3) := by decide +kernel
theorem dX12_init_29 : decode cX12_init 29 = .ok (.aload_n 0, 1) := by decide +kernel
theorem dX12_init_30 : decode cX12_init 30 = .ok (.bipush 9, 2) := by decide +kernel
theorem dX12_init_32 : decode cX12_init 32 = .ok (.newarray .int, 2) := by decide +kernel
theorem dX12_init_34 : decode cX12_init 34 = .ok (.putfield 20, 3) := by decide +kernel
theorem dX12_init_37 : decode cX12_init 37 = .ok (.aload_n 0, 1) := by decide +kernel
theorem dX12_init_38 : decode cX12_init 38 = .ok (.bipush 40, 2) := by decide +kernel
theorem dX12_init_40 : decode cX12_init 40 = .ok (.newarray .int, 2) := by decide +kernel
theorem dX12_init_42 : decode cX12_init 42 = .ok (.putfield 23, 3) := by decide +kernel
theorem dX12_init_45 : decode cX12_init 45 = .ok (.aload_n 0, 1) := by decide +kernel
theorem dX12_init_46 : decode cX12_init 46 = .ok (.bipush 40, 2) := by decide +kernel
theorem dX12_init_48 : decode cX12_init 48 = .ok (.newarray .int, 2) := by decide +kernel
theorem dX12_init_50 : decode cX12_init 50 = .ok (.putfield 26, 3) := by decide +kernel
theorem dX12_init_53 : decode cX12_init 53 = .ok (.aload_n 0, 1) := by decide +kernel
theorem dX12_init_54 : decode cX12_init 54 = .ok (.bipush 9, 2) := by decide +kernel
theorem dX12_init_56 : decode cX12_init 56 = .ok (.newarray .int, 2) := by decide +kernel
theorem dX12_init_58 : decode cX12_init 58 = .ok (.putfield 29, 3) := by decide +kernel
theorem dX12_init_61 : decode cX12_init 61 = .ok (.aload_n 0, 1) := by decide +kernel
theorem dX12_init_62 : decode cX12_init 62 = .ok (.bipush 40, 2) := by decide +kernel
theorem dX12_init_64 : decode cX12_init 64 = .ok (.newarray .int, 2) := by decide +kernel
theorem dX12_init_66 : decode cX12_init 66 = .ok (.putfield 32, 3) := by decide +kernel
theorem dX12_init_69 : decode cX12_init 69 = .ok (.aload_n 0, 1) := by decide +kernel
theorem dX12_init_70 : decode cX12_init 70 = .ok (.bipush 40, 2) := by decide +kernel
theorem dX12_init_72 : decode cX12_init 72 = .ok (.newarray .int, 2) := by decide +kernel
theorem dX12_init_74 : decode cX12_init 74 = .ok (.putfield 35, 3) := by decide +kernel
theorem dX12_init_77 : decode cX12_init 77 = .ok (.aload_n 0, 1) := by decide +kernel
theorem dX12_init_78 : decode cX12_init 78 = .ok (.bipush 9, 2) := by decide +kernel
theorem dX12_init_80 : decode cX12_init 80 = .ok (.newarray .int, 2) := by decide +kernel
theorem dX12_init_82 : decode cX12_init 82 = .ok (.putfield 38, 3) := by decide +kernel
theorem dX12_init_85 : decode cX12_init 85 = .ok (.aload_n 0, 1) := by decide +kernel
theorem dX12_init_86 : decode cX12_init 86 = .ok (.bipush 40, 2) := by decide +kernel
theorem dX12_init_88 : decode cX12_init 88 = .ok (.newarray .int, 2) := by decide +kernel
theorem dX12_init_90 : decode cX12_init 90 = .ok (.putfield 41, 3) := by decide +kernel
theorem dX12_init_93 : decode cX12_init 93 = .ok (.aload_n 0, 1) := by decide +kernel
theorem dX12_init_94 : decode cX12_init 94 = .ok (.bipush 40, 2) := by decide +kernel
theorem dX12_init_96 : decode cX12_init 96 = .ok (.newarray .int, 2) := by decide +kernel
theorem dX12_init_98 : decode cX12_init 98 = .ok (.putfield 44, 3) := by decide +kernel
theorem dX12_init_101 : decode cX12_init 101 = .ok (.aload_n 0, 1) := by decide +kernel
theorem dX12_init_102 : decode cX12_init 102 = .ok (.bipush 40, 2) := by decide +kernel
theorem dX12_init_104 : decode cX12_init 104 = .ok (.newarray .int, 2) := by decide +kernel
theorem dX12_init_106 : decode cX12_init 106 = .ok (.putfield 47, 3) := by decide +kernel
theorem dX12_init_109 : decode cX12_init 109 = .ok (.aload_n 0, 1) := by decide +kernel
theorem dX12_init_110 : decode cX12_init 110 = .ok (.bipush 40, 2) := by decide +kernel
theorem dX12_init_112 : decode cX12_init 112 = .ok (.newarray .int, 2) := by decide +kernel
theorem dX12_init_114 : decode cX12_init 114 = .ok (.putfield 50, 3) := by decide +kernel
theorem dX12_init_117 : decode cX12_init 117 = .ok (.aload_n 0, 1) := by decide +kernel
theorem dX12_init_118 : decode cX12_init 118 = .ok (.bipush 40, 2) := by decide +kernel
theorem dX12_init_120 : decode cX12_init 120 = .ok (.newarray .int, 2) := by decide +kernel
theorem dX12_init_122 : decode cX12_init 122 = .ok (.putfield 53, 3) := by decide +kernel
theorem dX12_init_125 : decode cX12_init 125 = .ok (.aload_n 0, 1) := by decide +kernel
theorem dX12_init_126 : decode cX12_init 126 = .ok (.bipush 40, 2) := by decide +kernel
theorem dX12_init_128 : decode cX12_init 128 = .ok (.newarray .int, 2) := by decide +kernel
theorem dX12_init_130 : decode cX12_init 130 = .ok (.putfield 56, 3) := by decide +kernel
theorem dX12_init_133 : decode cX12_init 133 = .ok (.aload_n 0, 1) := by decide +kernel
theorem dX12_init_134 : decode cX12_init 134 = .ok (.bipush 120, 2) := by decide +kernel
theorem dX12_init_136 : decode cX12_init 136 = .ok (.newarray .int, 2) := by decide +kernel
theorem dX12_init_138 : decode cX12_init 138 = .ok (.putfield 59, 3) := by decide +kernel
theorem dX12_init_141 : decode cX12_init 141 = .ok (.aload_n 0, 1) := by decide +kernel
theorem dX12_init_142 : decode cX12_init 142 = .ok (.bipush 120, 2) := by decide +kernel
theorem dX12_init_144 : decode cX12_init 144 = .ok (.newarray .int, 2) := by decide +kernel
theorem dX12_init_146 : decode cX12_init 146 = .ok (.putfield 62, 3) := by decide +kernel
theorem dX12_init_149 : decode cX12_init 149 = .ok (.aload_n 0, 1) := by decide +kernel
theorem dX12_init_150 : decode cX12_init 150 = .ok (.bipush 120, 2) := by decide +kernel
theorem dX12_init_152 : decode cX12_init 152 = .ok (.newarray .boolean, 2) := by decide +kernel
theorem dX12_init_154 : decode cX12_init 154 = .ok (.putfield 65, 3) := by decide +kernel
theorem dX12_init_157 : decode cX12_init 157 = .ok (.aload_n 0, 1) := by decide +kernel
theorem dX12_init_158 : decode cX12_init 158 = .ok (.bipush 120, 2) := by decide +kernel
theorem dX12_init_160 : decode cX12_init 160 = .ok (.newarray .boolean, 2) := by decide +kernel
theorem dX12_init_162 : decode cX12_init 162 = .ok (.putfield 69, 3) := by decide +kernel
theorem dX12_init_165 : decode cX12_init 165 = .ok (.aload_n 0, 1) := by decide +kernel
theorem dX12_init_166 : decode cX12_init 166 = .ok (.bipush 120, 2) := by decide +kernel
theorem dX12_init_168 : decode cX12_init 168 = .ok (.newarray .boolean, 2) := by decide +kernel
theorem dX12_init_170 : decode cX12_init 170 = .ok (.putfield 72, 3) := by decide +kernel
theorem dX12_init_173 : decode cX12_init 173 = .ok (.aload_n 0, 1) := by decide +kernel
theorem dX12_init_174 : decode cX12_init 174 = .ok (.bipush 40, 2) := by decide +kernel
theorem dX12_init_176 : decode cX12_init 176 = .ok (.newarray .long, 2) := by decide +kernel
theorem dX12_init_178 : decode cX12_init 178 = .ok (.putfield 75, 3) := by decide +kernel
theorem dX12_init_181 : decode cX12_init 181 = .ok (.aload_n 0, 1) := by decide +kernel
theorem dX12_init_182 : decode cX12_init 182 = .ok (.bipush 40, 2) := by decide +kernel
theorem dX12_init_184 : decode cX12_init 184 = .ok (.newarray .long, 2) := by decide +kernel
theorem dX12_init_186 : decode cX12_init 186 = .ok (.putfield 79, 3) := by decide +kernel
theorem dX12_init_189 : decode cX12_init 189 = .ok (.aload_n 0, 1) := by decide +kernel
theorem dX12_init_190 : decode cX12_init 190 = .ok (.bipush 40, 2) := by decide +kernel
theorem dX12_init_192 : decode cX12_init 192 = .ok (.newarray .int, 2) := by decide +kernel
theorem dX12_init_194 : decode cX12_init 194 = .ok (.putfield 82, 3) := by decide +kernel
theorem dX12_init_197 : decode cX12_init 197 = .ok (.aload_n 0, 1) := by decide +kernel
theorem dX12_init_198 : decode cX12_init 198 = .ok (.bipush 40, 2) := by decide +kernel
theorem dX12_init_200 : decode cX12_init 200 = .ok (.newarray .int, 2) := by decide +kernel
theorem dX12_init_202 : decode cX12_init 202 = .ok (.putfield 85, 3) := by decide +kernel
theorem dX12_init_205 : decode cX12_init 205 = .ok (.aload_n 0, 1) := by decide +kernel
theorem dX12_init_206 : decode cX12_init 206 = .ok (.sipush 6000, 3) := by decide +kernel
theorem dX12_init_209 : decode cX12_init 209 = .ok (.newarray .int, 2) := by decide +kernel
theorem dX12_init_211 : decode cX12_init 211 = .ok (.putfield 88, 3) := by decide +kernel
theorem dX12_init_214 : decode cX12_init 214 = .ok (.aload_n 0, 1) := by decide +kernel
theorem dX12_init_215 : decode cX12_init 215 = .ok (.sipush 6000, 3) := by decide +kernel
theorem dX12_init_218 : decode cX12_init 218 = .ok (.newarray .int, 2) := by decide +kernel
theorem dX12_init_220 : decode cX12_init 220 = .ok (.putfield 91, 3) := by decide +kernel
theorem dX12_init_223 : decode cX12_init 223 = .ok (.aload_n 0, 1) := by decide +kernel
theorem dX12_init_224 : decode cX12_init 224 = .ok (.sipush 6000, 3) := by decide +kernel
theorem dX12_init_227 : decode cX12_init 227 = .ok (.newarray .int, 2) := by decide +kernel
theorem dX12_init_229 : decode cX12_init 229 = .ok (.putfield 94, 3) := by decide +kernel
theorem dX12_init_232 : decode cX12_init 232 = .ok (.aload_n 0, 1) := by decide +kernel
theorem dX12_init_233 : decode cX12_init 233 = .ok (.sipush 400, 3) := by decide +kernel
theorem dX12_init_236 : decode cX12_init 236 = .ok (.newarray .int, 2) := by decide +kernel
theorem dX12_init_238 : decode cX12_init 238 = .ok (.putfield 97, 3) := by decide +kernel
theorem dX12_init_241 : decode cX12_init 241 = .ok (.aload_n 0, 1) := by decide +kernel
theorem dX12_init_242 : decode cX12_init 242 = .ok (.sipush 400, 3) := by decide +kernel
theorem dX12_init_245 : decode cX12_init 245 = .ok (.newarray .int, 2) := by decide +kernel
theorem dX12_init_247 : decode cX12_init 247 = .ok (.putfield 100, 3) := by decide +kernel
theorem dX12_init_250 : decode cX12_init 250 = .ok (.aload_n 0, 1) := by decide +kernel
theorem dX12_init_251 : decode cX12_init 251 = .ok (.sipush 400, 3) := by decide +kernel
theorem dX12_init_254 : decode cX12_init 254 = .ok (.newarray .int, 2) := by decide +kernel
theorem dX12_init_256 : decode cX12_init 256 = .ok (.putfield 103, 3) := by decide +kernel
theorem dX12_init_259 : decode cX12_init 259 = .ok (.aload_n 0, 1) := by decide +kernel
theorem dX12_init_260 : decode cX12_init 260 = .ok (.bipush 41, 2) := by decide +kernel
theorem dX12_init_262 : decode cX12_init 262 = .ok (.newarray .int, 2) := by decide +kernel
theorem dX12_init_264 : decode cX12_init 264 = .ok (.putfield 106, 3) := by decide +kernel
theorem dX12_init_267 : decode cX12_init 267 = .ok (.aload_n 0, 1) := by decide +kernel
theorem dX12_init_268 : decode cX12_init 268 = .ok (.bipush 40, 2) := by decide +kernel
theorem dX12_init_270 : decode cX12_init 270 = .ok (.newarray .int, 2) := by decide +kernel
theorem dX12_init_272 : decode cX12_init 272 = .ok (.putfield 109, 3) := by decide +kernel
theorem dX12_init_275 : decode cX12_init 275 = .ok (.aload_n 0, 1) := by decide +kernel
theorem dX12_init_276 : decode cX12_init 276 = .ok (.bipush 8, 2) := by decide +kernel
theorem dX12_init_278 : decode cX12_init 278 = .ok (.newarray .int, 2) := by decide +kernel
theorem dX12_init_280 : decode cX12_init 280 = .ok (.putfield 112, 3) := by decide +kernel
theorem dX12_init_283 : decode cX12_init 283 = .ok (.aload_n 0, 1) := by decide +kernel
theorem dX12_init_284 : decode cX12_init 284 = .ok (.bipush 6, 2) := by decide +kernel
theorem dX12_init_286 : decode cX12_init 286 = .ok (.newarray .boolean, 2) := by decide +kernel
theorem dX12_init_288 : decode cX12_init 288 = .ok (.putfield 115, 3) := by decide +kernel
theorem dX12_init_291 : decode cX12_init 291 = .ok (.aload_n 0, 1) := by decide +kernel
theorem dX12_init_292 : decode cX12_init 292 = .ok (.bipush 8, 2) := by decide +kernel
theorem dX12_init_294 : decode cX12_init 294 = .ok (.newarray .boolean, 2) := by decide +kernel
theorem dX12_init_296 : decode cX12_init 296 = .ok (.putfield 118, 3) := by decide +kernel
theorem dX12_init_299 : decode cX12_init 299 = .ok (.aload_n 0, 1) := by decide +kernel
theorem dX12_init_300 : decode cX12_init 300 = .ok (.sipush 400, 3) := by decide +kernel
theorem dX12_init_303 : decode cX12_init 303 = .ok (.newarray .boolean, 2) := by decide +kernel
theorem dX12_init_305 : decode cX12_init 305 = .ok (.putfield 121, 3) := by decide +kernel
theorem dX12_init_308 : decode cX12_init 308 = .ok (.aload_n 0, 1) := by decide +kernel
theorem dX12_init_309 : decode cX12_init 309 = .ok (.bipush 40, 2) := by decide +kernel
theorem dX12_init_311 : decode cX12_init 311 = .ok (.newarray .int, 2) := by decide +kernel
theorem dX12_init_313 : decode cX12_init 313 = .ok (.putfield 124, 3) := by decide +kernel
theorem dX12_init_316 : decode cX12_init 316 = .ok (.aload_n 0, 1) := by decide +kernel
theorem dX12_init_317 : decode cX12_init 317 = .ok (.bipush 40, 2) := by decide +kernel
theorem dX12_init_319 : decode cX12_init 319 = .ok (.newarray .int, 2) := by decide +kernel
theorem dX12_init_321 : decode cX12_init 321 = .ok (.putfield 127, 3) := by decide +kernel
theorem dX12_init_324 : decode cX12_init 324 = .ok (.aload_n 0, 1) := by decide +kernel
theorem dX12_init_325 : decode cX12_init 325 = .ok (.bipush 40, 2) := by decide +kernel
theorem dX12_init_327 : decode cX12_init 327 = .ok (.newarray .boolean, 2) := by decide +kernel
theorem dX12_init_329 : decode cX12_init 329 = .ok (.putfield 130, 3) := by decide +kernel
theorem dX12_init_332 : decode cX12_init 332 = .ok (.aload_n 0, 1) := by decide +kernel
theorem dX12_init_333 : decode cX12_init 333 = .ok (.sipush 1400, 3) := by decide +kernel
theorem dX12_init_336 : decode cX12_init 336 = .ok (.newarray .int, 2) := by decide +kernel
theorem dX12_init_338 : decode cX12_init 338 = .ok (.putfield 133, 3) := by decide +kernel
theorem dX12_init_341 : decode cX12_init 341 = .ok (.aload_n 0, 1) := by decide +kernel
theorem dX12_init_342 : decode cX12_init 342 = .ok (.sipush 1400, 3) := by decide +kernel
theorem dX12_init_345 : decode cX12_init 345 = .ok (.newarray .int, 2) := by decide +kernel
theorem dX12_init_347 : decode cX12_init 347 = .ok (.putfield 136, 3) := by decide +kernel
theorem dX12_init_350 : decode cX12_init 350 = .ok (.aload_n 0, 1) := by decide +kernel
theorem dX12_init_351 : decode cX12_init 351 = .ok (.sipush 1400, 3) := by decide +kernel
theorem dX12_init_354 : decode cX12_init 354 = .ok (.newarray .int, 2) := by decide +kernel
theorem dX12_init_356 : decode cX12_init 356 = .ok (.putfield 139, 3) := by decide +kernel
theorem dX12_init_359 : decode cX12_init 359 = .ok (.aload_n 0, 1) := by decide +kernel
theorem dX12_init_360 : decode cX12_init 360 = .ok (.sipush 1400, 3) := by decide +kernel
theorem dX12_init_363 : decode cX12_init 363 = .ok (.newarray .int, 2) := by decide +kernel
theorem dX12_init_365 : decode cX12_init 365 = .ok (.putfield 142, 3) := by decide +kernel
theorem dX12_init_368 : decode cX12_init 368 = .ok (.aload_n 0, 1) := by decide +kernel
theorem dX12_init_369 : decode cX12_init 369 = .ok (.sipush 1400, 3) := by decide +kernel
theorem dX12_init_372 : decode cX12_init 372 = .ok (.newarray .boolean, 2) := by decide +kernel
theorem dX12_init_374 : decode cX12_init 374 = .ok (.putfield 145, 3) := by decide +kernel
theorem dX12_init_377 : decode cX12_init 377 = .ok (.aload_n 0, 1) := by decide +kernel
theorem dX12_init_378 : decode cX12_init 378 = .ok (.sipush 2000, 3) := by decide +kernel
theorem dX12_init_381 : decode cX12_init 381 = .ok (.newarray .int, 2) := by decide +kernel
theorem dX12_init_383 : decode cX12_init 383 = .ok (.putfield 148, 3) := by decide +kernel
theorem dX12_init_386 : decode cX12_init 386 = .ok (.aload_n 0, 1) := by decide +kernel
theorem dX12_init_387 : decode cX12_init 387 = .ok (.sipush 6000, 3) := by decide +kernel
theorem dX12_init_390 : decode cX12_init 390 = .ok (.newarray .int, 2) := by decide +kernel
theorem dX12_init_392 : decode cX12_init 392 = .ok (.putfield 151, 3) := by decide +kernel
theorem dX12_init_395 : decode cX12_init 395 = .ok (.aload_n 0, 1) := by decide +kernel
theorem dX12_init_396 : decode cX12_init 396 = .ok (.bipush 6, 2) := by decide +kernel
theorem dX12_init_398 : decode cX12_init 398 = .ok (.newarray .int, 2) := by decide +kernel
theorem dX12_init_400 : decode cX12_init 400 = .ok (.putfield 154, 3) := by decide +kernel
theorem dX12_init_403 : decode cX12_init 403 = .ok (.aload_n 0, 1) := by decide +kernel
theorem dX12_init_404 : decode cX12_init 404 = .ok (.sipush 8000, 3) := by decide +kernel
theorem dX12_init_407 : decode cX12_init 407 = .ok (.newarray .int, 2) := by decide +kernel
theorem dX12_init_409 : decode cX12_init 409 = .ok (.putfield 157, 3) := by decide +kernel
theorem dX12_init_412 : decode cX12_init 412 = .ok (.aload_n 0, 1) := by decide +kernel
theorem dX12_init_413 : decode cX12_init 413 = .ok (.bipush 8, 2) := by decide +kernel
theorem dX12_init_415 : decode cX12_init 415 = .ok (.newarray .int, 2) := by decide +kernel
theorem dX12_init_417 : decode cX12_init 417 = .ok (.putfield 160, 3) := by decide +kernel
theorem dX12_init_420 : decode cX12_init 420 = .ok (.aload_n 0, 1) := by decide +kernel
theorem dX12_init_421 : decode cX12_init 421 = .ok (.bipush 8, 2) := by decide +kernel
theorem dX12_init_423 : decode cX12_init 423 = .ok (.newarray .int, 2) := by decide +kernel
theorem dX12_init_425 : decode cX12_init 425 = .ok (.putfield 163, 3) := by decide +kernel
theorem dX12_init_428 : decode cX12_init 428 = .ok (.aload_n 0, 1) := by decide +kernel
theorem dX12_init_429 : decode cX12_init 429 = .ok (.sipush 400, 3) := by decide +kernel
theorem dX12_init_432 : decode cX12_init 432 = .ok (.newarray .int, 2) := by decide +kernel
theorem dX12_init_434 : decode cX12_init 434 = .ok (.putfield 166, 3) := by decide +kernel
theorem dX12_init_437 : decode cX12_init 437 = .ok (.return_, 1) := by decide +kernel
theorem dX12_thrown_0 : decode cX12_thrown 0 = .ok (.aload_n 0, 1) := by decide +kernel
theorem dX12_thrown_1 : decode cX12_thrown 1 = .ok (.getfield 169, 3) := by decide +kernel
theorem dX12_thrown_4 : decode cX12_thrown 4 = .ok (.ireturn, 1) := by decide +kernel
theorem dX12_isIn_0 : decode cX12_isIn 0 = .ok (.lload_n 0, 1) := by decide +kernel
theorem dX12_isIn_1 : decode cX12_isIn 1 = .ok (.lload_n 2, 1) := by decide +kernel
theorem dX12_isIn_2 : decode cX12_isIn 2 = .ok (.lcmp, 1) := by decide +kernel
theorem dX12_isIn_3 : decode cX12_isIn 3 = .ok (.ifCond .lt 14, 3) := by decide +kernel
theorem dX12_isIn_6 : decode cX12_isIn 6 = .ok (.lload_n 0, 1) := by decide +kernel
theorem dX12_isIn_7 : decode cX12_isIn 7 = .ok (.lload 4, 2) := by decide +kernel
theorem dX12_isIn_9 : decode cX12_isIn 9 = .ok (.lcmp, 1) := by decide +kernel
theorem dX12_isIn_10 : decode cX12_isIn 10 = .ok (.ifCond .gt 7, 3) := by decide +kernel
theorem dX12_isIn_13 : decode cX12_isIn 13 = .ok (.iconst 1, 1) := by decide +kernel
theorem dX12_isIn_14 : decode cX12_isIn 14 = .ok (.goto 4, 3) := by decide +kernel
theorem dX12_isIn_17 : decode cX12_isIn 17 = .ok (.iconst 0, 1) := by decide +kernel
theorem dX12_isIn_18 : decode cX12_isIn 18 = .ok (.ireturn, 1) := by decide +kernel
theorem dX12_bytesOf_0 : decode cX12_bytesOf 0 = .ok (.iconst 0, 1) := by decide +kernel
theorem dX12_bytesOf_1 : decode cX12_bytesOf 1 = .ok (.istore_n 1, 1) := by decide +kernel
theorem dX12_bytesOf_2 : decode cX12_bytesOf 2 = .ok (.iconst 0, 1) := by decide +kernel
theorem dX12_bytesOf_3 : decode cX12_bytesOf 3 = .ok (.istore_n 2, 1) := by decide +kernel
theorem dX12_bytesOf_4 : decode cX12_bytesOf 4 = .ok (.iload_n 2, 1) := by decide +kernel
theorem dX12_bytesOf_5 : decode cX12_bytesOf 5 = .ok (.iconst 4, 1) := by decide +kernel
theorem dX12_bytesOf_6 : decode cX12_bytesOf 6 = .ok (.if_icmp .ge 30, 3) := by decide +kernel
theorem dX12_bytesOf_9 : decode cX12_bytesOf 9 = .ok (.iload_n 1, 1) := by decide +kernel
theorem dX12_bytesOf_10 : decode cX12_bytesOf 10 = .ok (.iload_n 0, 1) := by decide +kernel
theorem dX12_bytesOf_11 : decode cX12_bytesOf 11 = .ok (.bipush 8, 2) := by decide +kernel
theorem dX12_bytesOf_13 : decode cX12_bytesOf 13 = .ok (.iload_n 2, 1) := by decide +kernel
theorem dX12_bytesOf_14 : decode cX12_bytesOf 14 = .ok (.imul, 1) := by decide +kernel
theorem dX12_bytesOf_15 : decode cX12_bytesOf 15 = .ok (.ishr, 1) := by decide +kernel
theorem dX12_bytesOf_16 : decode cX12_bytesOf 16 = .ok (.sipush 255, 3) := by decide +kernel
theorem dX12_bytesOf_19 : decode cX12_bytesOf 19 = .ok (.iand, 1) := by decide +kernel
theorem dX12_bytesOf_20 : decode cX12_bytesOf 20 = .ok (.ifCond .ne 7, 3) := by decide +kernel
theorem dX12_bytesOf_23 : decode cX12_bytesOf 23 = .ok (.iconst 0, 1) := by decide +kernel
theorem dX12_bytesOf_24 : decode cX12_bytesOf 24 = .ok (.goto 4, 3) := by decide +kernel
theorem dX12_bytesOf_27 : decode cX12_bytesOf 27 = .ok (.iconst 1, 1) := by decide +kernel
theorem dX12_bytesOf_28 : decode cX12_bytesOf 28 = .ok (.iadd, 1) := by decide +kernel
theorem dX12_bytesOf_29 : decode cX12_bytesOf 29 = .ok (.istore_n 1, 1) := by decide +kernel
theorem dX12_bytesOf_30 : decode cX12_bytesOf 30 = .ok (.iinc 2 1, 3) := by decide +kernel
theorem dX12_bytesOf_33 : decode cX12_bytesOf 33 = .ok (.goto (-29), 3) := by decide +kernel
theorem dX12_bytesOf_36 : decode cX12_bytesOf 36 = .ok (.iload_n 1, 1) := by decide +kernel
theorem dX12_bytesOf_37 : decode cX12_bytesOf 37 = .ok (.ireturn, 1) := by decide +kernel
theorem dX12_brings_0 : decode cX12_brings 0 = .ok (.bipush 24, 2) := by decide +kernel
theorem dX12_brings_2 : decode cX12_brings 2 = .ok (.istore_n 2, 1) := by decide +kernel
theorem dX12_brings_3 : decode cX12_brings 3 = .ok (.iload_n 2, 1) := by decide +kernel
theorem dX12_brings_4 : decode cX12_brings 4 = .ok (.ifCond .lt 45, 3) := by decide +kernel
theorem dX12_brings_7 : decode cX12_brings 7 = .ok (.iload_n 1, 1) := by decide +kernel
theorem dX12_brings_8 : decode cX12_brings 8 = .ok (.iload_n 2, 1) := by decide +kernel
theorem dX12_brings_9 : decode cX12_brings 9 = .ok (.ishr, 1) := by decide +kernel
theorem dX12_brings_10 : decode cX12_brings 10 = .ok (.sipush 255, 3) := by decide +kernel
theorem dX12_brings_13 : decode cX12_brings 13 = .ok (.iand, 1) := by decide +kernel
theorem dX12_brings_14 : decode cX12_brings 14 = .ok (.istore_n 3, 1) := by decide +kernel
theorem dX12_brings_15 : decode cX12_brings 15 = .ok (.iload_n 3, 1) := by decide +kernel
theorem dX12_brings_16 : decode cX12_brings 16 = .ok (.ifCond .ne 6, 3) := by decide +kernel
theorem dX12_brings_19 : decode cX12_brings 19 = .ok (.goto 24, 3) := by decide +kernel
theorem dX12_brings_22 : decode cX12_brings 22 = .ok (.aload_n 0, 1) := by decide +kernel
theorem dX12_brings_23 : decode cX12_brings 23 = .ok (.getfield 9, 3) := by decide +kernel
theorem dX12_brings_26 : decode cX12_brings 26 = .ok (.aload_n 0, 1) := by decide +kernel
theorem dX12_brings_27 : decode cX12_brings 27 = .ok (.getfield 177, 3) := by decide +kernel
theorem dX12_brings_30 : decode cX12_brings 30 = .ok (.iload_n 3, 1) := by decide +kernel
theorem dX12_brings_31 : decode cX12_brings 31 = .ok (.i2b, 1) := by decide +kernel
theorem dX12_brings_32 : decode cX12_brings 32 = .ok (.bastore, 1) := by decide +kernel
theorem dX12_brings_33 : decode cX12_brings 33 = .ok (.aload_n 0, 1) := by decide +kernel
theorem dX12_brings_34 : decode cX12_brings 34 = .ok (.dup, 1) := by decide +kernel
theorem dX12_brings_35 : decode cX12_brings 35 = .ok (.getfield 177, 3) := by decide +kernel
theorem dX12_brings_38 : decode cX12_brings 38 = .ok (.iconst 1, 1) := by decide +kernel
theorem dX12_brings_39 : decode cX12_brings 39 = .ok (.iadd, 1) := by decide +kernel
theorem dX12_brings_40 : decode cX12_brings 40 = .ok (.putfield 177, 3) := by decide +kernel
theorem dX12_brings_43 : decode cX12_brings 43 = .ok (.iinc 2 (-8), 3) := by decide +kernel
theorem dX12_brings_46 : decode cX12_brings 46 = .ok (.goto (-43), 3) := by decide +kernel
theorem dX12_brings_49 : decode cX12_brings 49 = .ok (.return_, 1) := by decide +kernel
theorem dX12_feed_0 : decode cX12_feed 0 = .ok (.aload_n 0, 1) := by decide +kernel
theorem dX12_feed_1 : decode cX12_feed 1 = .ok (.iconst 0, 1) := by decide +kernel
theorem dX12_feed_2 : decode cX12_feed 2 = .ok (.putfield 169, 3) := by decide +kernel
theorem dX12_feed_5 : decode cX12_feed 5 = .ok (.aload_n 0, 1) := by decide +kernel
theorem dX12_feed_6 : decode cX12_feed 6 = .ok (.getfield 177, 3) := by decide +kernel
theorem dX12_feed_9 : decode cX12_feed 9 = .ok (.iload_n 1, 1) := by decide +kernel
theorem dX12_feed_10 : decode cX12_feed 10 = .ok (.invokestatic 180, 3) := by decide +kernel
theorem dX12_feed_13 : decode cX12_feed 13 = .ok (.iadd, 1) := by decide +kernel
theorem dX12_feed_14 : decode cX12_feed 14 = .ok (.iload_n 2, 1) := by decide +kernel
theorem dX12_feed_15 : decode cX12_feed 15 = .ok (.invokestatic 180, 3) := by decide +kernel
theorem dX12_feed_18 : decode cX12_feed 18 = .ok (.iadd, 1) := by decide +kernel
theorem dX12_feed_19 : decode cX12_feed 19 = .ok (.iload_n 3, 1) := by decide +kernel
theorem dX12_feed_20 : decode cX12_feed 20 = .ok (.invokestatic 180, 3) := by decide +kernel
theorem dX12_feed_23 : decode cX12_feed 23 = .ok (.iadd, 1) := by decide +kernel
theorem dX12_feed_24 : decode cX12_feed 24 = .ok (.iload 4, 2) := by decide +kernel
theorem dX12_feed_26 : decode cX12_feed 26 = .ok (.invokestatic 180, 3) := by decide +kernel
theorem dX12_feed_29 : decode cX12_feed 29 = .ok (.iadd, 1) := by decide +kernel
theorem dX12_feed_30 : decode cX12_feed 30 = .ok (.iload 5, 2) := by decide +kernel
theorem dX12_feed_32 : decode cX12_feed 32 = .ok (.invokestatic 180, 3) := by decide +kernel
theorem dX12_feed_35 : decode cX12_feed 35 = .ok (.iadd, 1) := by decide +kernel
theorem dX12_feed_36 : decode cX12_feed 36 = .ok (.sipush 240, 3) := by decide +kernel
theorem dX12_feed_39 : decode cX12_feed 39 = .ok (.if_icmp .le 5, 3) := by decide +kernel
theorem dX12_feed_42 : decode cX12_feed 42 = .ok (.iconst (-1), 1) := by decide +kernel
theorem dX12_feed_43 : decode cX12_feed 43 = .ok (.ireturn, 1) := by decide +kernel
theorem dX12_feed_44 : decode cX12_feed 44 = .ok (.aload_n 0, 1) := by decide +kernel
theorem dX12_feed_45 : decode cX12_feed 45 = .ok (.iload_n 1, 1) := by decide +kernel
theorem dX12_feed_46 : decode cX12_feed 46 = .ok (.invokevirtual 184, 3) := by decide +kernel
theorem dX12_feed_49 : decode cX12_feed 49 = .ok (.aload_n 0, 1) := by decide +kernel
theorem dX12_feed_50 : decode cX12_feed 50 = .ok (.iload_n 2, 1) := by decide +kernel
theorem dX12_feed_51 : decode cX12_feed 51 = .ok (.invokevirtual 184, 3) := by decide +kernel
theorem dX12_feed_54 : decode cX12_feed 54 = .ok (.aload_n 0, 1) := by decide +kernel
theorem dX12_feed_55 : decode cX12_feed 55 = .ok (.iload_n 3, 1) := by decide +kernel
theorem dX12_feed_56 : decode cX12_feed 56 = .ok (.invokevirtual 184, 3) := by decide +kernel
theorem dX12_feed_59 : decode cX12_feed 59 = .ok (.aload_n 0, 1) := by decide +kernel
theorem dX12_feed_60 : decode cX12_feed 60 = .ok (.iload 4, 2) := by decide +kernel
theorem dX12_feed_62 : decode cX12_feed 62 = .ok (.invokevirtual 184, 3) := by decide +kernel
theorem dX12_feed_65 : decode cX12_feed 65 = .ok (.aload_n 0, 1) := by decide +kernel
theorem dX12_feed_66 : decode cX12_feed 66 = .ok (.iload 5, 2) := by decide +kernel
theorem dX12_feed_68 : decode cX12_feed 68 = .ok (.invokevirtual 184, 3) := by decide +kernel
theorem dX12_feed_71 : decode cX12_feed 71 = .ok (.aload_n 0, 1) := by decide +kernel
theorem dX12_feed_72 : decode cX12_feed 72 = .ok (.getfield 177, 3) := by decide +kernel
theorem dX12_feed_75 : decode cX12_feed 75 = .ok (.ireturn, 1) := by decide +kernel
theorem dX12_end_0 : decode cX12_end 0 = .ok (.aload_n 0, 1) := by decide +kernel
theorem dX12_end_1 : decode cX12_end 1 = .ok (.iconst 0, 1) := by decide +kernel
theorem dX12_end_2 : decode cX12_end 2 = .ok (.putfield 169, 3) := by decide +kernel
theorem dX12_end_5 : decode cX12_end 5 = .ok (.iload_n 1, 1) := by decide +kernel
theorem dX12_end_6 : decode cX12_end 6 = .ok (.ifCond .lt 11, 3) := by decide +kernel
theorem dX12_end_9 : decode cX12_end 9 = .ok (.iload_n 1, 1) := by decide +kernel
theorem dX12_end_10 : decode cX12_end 10 = .ok (.aload_n 0, 1) := by decide +kernel
theorem dX12_end_11 : decode cX12_end 11 = .ok (.getfield 177, 3) := by decide +kernel
theorem dX12_end_14 : decode cX12_end 14 = .ok (.if_icmp .le 5, 3) := by decide +kernel
theorem dX12_end_17 : decode cX12_end 17 = .ok (.iconst 0, 1) := by decide +kernel
theorem dX12_end_18 : decode cX12_end 18 = .ok (.ireturn, 1) := by decide +kernel
theorem dX12_end_19 : decode cX12_end 19 = .ok (.aload_n 0, 1) := by decide +kernel
theorem dX12_end_20 : decode cX12_end 20 = .ok (.iload_n 1, 1) := by decide +kernel
theorem dX12_end_21 : decode cX12_end 21 = .ok (.putfield 177, 3) := by decide +kernel
theorem dX12_end_24 : decode cX12_end 24 = .ok (.iconst 1, 1) := by decide +kernel
theorem dX12_end_25 : decode cX12_end 25 = .ok (.ireturn, 1) := by decide +kernel
theorem dX12_here_0 : decode cX12_here 0 = .ok (.aload_n 0, 1) := by decide +kernel
theorem dX12_here_1 : decode cX12_here 1 = .ok (.getfield 188, 3) := by decide +kernel
theorem dX12_here_4 : decode cX12_here 4 = .ok (.aload_n 0, 1) := by decide +kernel
theorem dX12_here_5 : decode cX12_here 5 = .ok (.getfield 177, 3) := by decide +kernel
theorem dX12_here_8 : decode cX12_here 8 = .ok (.if_icmp .ge 19, 3) := by decide +kernel
theorem dX12_here_11 : decode cX12_here 11 = .ok (.aload_n 0, 1) := by decide +kernel
theorem dX12_here_12 : decode cX12_here 12 = .ok (.getfield 9, 3) := by decide +kernel
theorem dX12_here_15 : decode cX12_here 15 = .ok (.aload_n 0, 1) := by decide +kernel
theorem dX12_here_16 : decode cX12_here 16 = .ok (.getfield 188, 3) := by decide +kernel
theorem dX12_here_19 : decode cX12_here 19 = .ok (.baload, 1) := by decide +kernel
theorem dX12_here_20 : decode cX12_here 20 = .ok (.sipush 255, 3) := by decide +kernel
theorem dX12_here_23 : decode cX12_here 23 = .ok (.iand, 1) := by decide +kernel
theorem dX12_here_24 : decode cX12_here 24 = .ok (.goto 4, 3) := by decide +kernel
theorem dX12_here_27 : decode cX12_here 27 = .ok (.iconst (-1), 1) := by decide +kernel
theorem dX12_here_28 : decode cX12_here 28 = .ok (.ireturn, 1) := by decide +kernel
theorem dX12_look_0 : decode cX12_look 0 = .ok (.aload_n 0, 1) := by decide +kernel
theorem dX12_look_1 : decode cX12_look 1 = .ok (.invokevirtual 191, 3) := by decide +kernel
theorem dX12_look_4 : decode cX12_look 4 = .ok (.bipush 32, 2) := by decide +kernel
theorem dX12_look_6 : decode cX12_look 6 = .ok (.if_icmp .ne 16, 3) := by decide +kernel
theorem dX12_look_9 : decode cX12_look 9 = .ok (.aload_n 0, 1) := by decide +kernel
theorem dX12_look_10 : decode cX12_look 10 = .ok (.dup, 1) := by decide +kernel
theorem dX12_look_11 : decode cX12_look 11 = .ok (.getfield 188, 3) := by decide +kernel
theorem dX12_look_14 : decode cX12_look 14 = .ok (.iconst 1, 1) := by decide +kernel
theorem dX12_look_15 : decode cX12_look 15 = .ok (.iadd, 1) := by decide +kernel
theorem dX12_look_16 : decode cX12_look 16 = .ok (.putfield 188, 3) := by decide +kernel
theorem dX12_look_19 : decode cX12_look 19 = .ok (.goto (-19), 3) := by decide +kernel
theorem dX12_look_22 : decode cX12_look 22 = .ok (.aload_n 0, 1) := by decide +kernel
theorem dX12_look_23 : decode cX12_look 23 = .ok (.invokevirtual 191, 3) := by decide +kernel
theorem dX12_look_26 : decode cX12_look 26 = .ok (.ireturn, 1) := by decide +kernel
theorem dX12_isText_0 : decode cX12_isText 0 = .ok (.aload_n 0, 1) := by decide +kernel
theorem dX12_isText_1 : decode cX12_isText 1 = .ok (.iconst 0, 1) := by decide +kernel
theorem dX12_isText_2 : decode cX12_isText 2 = .ok (.putfield 188, 3) := by decide +kernel
theorem dX12_isText_5 : decode cX12_isText 5 = .ok (.aload_n 0, 1) := by decide +kernel
theorem dX12_isText_6 : decode cX12_isText 6 = .ok (.iconst 0, 1) := by decide +kernel
theorem dX12_isText_7 : decode cX12_isText 7 = .ok (.putfield 216, 3) := by decide +kernel
theorem dX12_isText_10 : decode cX12_isText 10 = .ok (.aload_n 0, 1) := by decide +kernel
theorem dX12_isText_11 : decode cX12_isText 11 = .ok (.iconst 0, 1) := by decide +kernel
theorem dX12_isText_12 : decode cX12_isText 12 = .ok (.putfield 230, 3) := by decide +kernel
theorem dX12_isText_15 : decode cX12_isText 15 = .ok (.aload_n 0, 1) := by decide +kernel
theorem dX12_isText_16 : decode cX12_isText 16 = .ok (.invokevirtual 195, 3) := by decide +kernel
theorem dX12_isText_19 : decode cX12_isText 19 = .ok (.istore_n 1, 1) := by decide +kernel
theorem dX12_isText_20 : decode cX12_isText 20 = .ok (.iload_n 1, 1) := by decide +kernel
theorem dX12_isText_21 : decode cX12_isText 21 = .ok (.iconst (-1), 1) := by decide +kernel
theorem dX12_isText_22 : decode cX12_isText 22 = .ok (.if_icmp .eq 27, 3) := by decide +kernel
theorem dX12_isText_25 : decode cX12_isText 25 = .ok (.iload_n 1, 1) := by decide +kernel
theorem dX12_isText_26 : decode cX12_isText 26 = .ok (.bipush 104, 2) := by decide +kernel
theorem dX12_isText_28 : decode cX12_isText 28 = .ok (.if_icmp .eq 21, 3) := by decide +kernel
theorem dX12_isText_31 : decode cX12_isText 31 = .ok (.aload_n 0, 1) := by decide +kernel
theorem dX12_isText_32 : decode cX12_isText 32 = .ok (.iload_n 1, 1) := by decide +kernel
theorem dX12_isText_33 : decode cX12_isText 33 = .ok (.invokevirtual 236, 3) := by decide +kernel
theorem dX12_isText_36 : decode cX12_isText 36 = .ok (.ifCond .ne 5, 3) := by decide +kernel
theorem dX12_isText_39 : decode cX12_isText 39 = .ok (.iconst 0, 1) := by decide +kernel
theorem dX12_isText_40 : decode cX12_isText 40 = .ok (.ireturn, 1) := by decide +kernel
theorem dX12_isText_41 : decode cX12_isText 41 = .ok (.aload_n 0, 1) := by decide +kernel
theorem dX12_isText_42 : decode cX12_isText 42 = .ok (.invokevirtual 195, 3) := by decide +kernel
theorem dX12_isText_45 : decode cX12_isText 45 = .ok (.istore_n 1, 1) := by decide +kernel
theorem dX12_isText_46 : decode cX12_isText 46 = .ok (.goto (-26), 3) := by decide +kernel
theorem dX12_isText_49 : decode cX12_isText 49 = .ok (.aload_n 0, 1) := by decide +kernel
theorem dX12_isText_50 : decode cX12_isText 50 = .ok (.getfield 216, 3) := by decide +kernel
theorem dX12_isText_53 : decode cX12_isText 53 = .ok (.ifCond .ne 5, 3) := by decide +kernel
theorem dX12_isText_56 : decode cX12_isText 56 = .ok (.iconst 0, 1) := by decide +kernel
theorem dX12_isText_57 : decode cX12_isText 57 = .ok (.ireturn, 1) := by decide +kernel
theorem dX12_isText_58 : decode cX12_isText 58 = .ok (.iload_n 1, 1) := by decide +kernel
theorem dX12_isText_59 : decode cX12_isText 59 = .ok (.bipush 104, 2) := by decide +kernel
theorem dX12_isText_61 : decode cX12_isText 61 = .ok (.if_icmp .ne 20, 3) := by decide +kernel
theorem dX12_isText_64 : decode cX12_isText 64 = .ok (.aload_n 0, 1) := by decide +kernel
theorem dX12_isText_65 : decode cX12_isText 65 = .ok (.invokevirtual 239, 3) := by decide +kernel
theorem dX12_isText_68 : decode cX12_isText 68 = .ok (.ifCond .ne 5, 3) := by decide +kernel
theorem dX12_isText_71 : decode cX12_isText 71 = .ok (.iconst 0, 1) := by decide +kernel
theorem dX12_isText_72 : decode cX12_isText 72 = .ok (.ireturn, 1) := by decide +kernel
theorem dX12_isText_73 : decode cX12_isText 73 = .ok (.aload_n 0, 1) := by decide +kernel
theorem dX12_isText_74 : decode cX12_isText 74 = .ok (.invokevirtual 195, 3) := by decide +kernel
theorem dX12_isText_77 : decode cX12_isText 77 = .ok (.istore_n 1, 1) := by decide +kernel
theorem dX12_isText_78 : decode cX12_isText 78 = .ok (.goto (-20), 3) := by decide +kernel
theorem dX12_isText_81 : decode cX12_isText 81 = .ok (.iload_n 1, 1) := by decide +kernel
theorem dX12_isText_82 : decode cX12_isText 82 = .ok (.iconst (-1), 1) := by decide +kernel
theorem dX12_isText_83 : decode cX12_isText 83 = .ok (.if_icmp .ne 7, 3) := by decide +kernel
theorem dX12_isText_86 : decode cX12_isText 86 = .ok (.iconst 1, 1) := by decide +kernel
theorem dX12_isText_87 : decode cX12_isText 87 = .ok (.goto 4, 3) := by decide +kernel
theorem dX12_isText_90 : decode cX12_isText 90 = .ok (.iconst 0, 1) := by decide +kernel
theorem dX12_isText_91 : decode cX12_isText 91 = .ok (.ireturn, 1) := by decide +kernel
theorem dX12_fault_0 : decode cX12_fault 0 = .ok (.aload_n 0, 1) := by decide +kernel
theorem dX12_fault_1 : decode cX12_fault 1 = .ok (.iconst 0, 1) := by decide +kernel
theorem dX12_fault_2 : decode cX12_fault 2 = .ok (.putfield 169, 3) := by decide +kernel
theorem dX12_fault_5 : decode cX12_fault 5 = .ok (.aload_n 0, 1) := by decide +kernel
theorem dX12_fault_6 : decode cX12_fault 6 = .ok (.invokevirtual 241, 3) := by decide +kernel
theorem dX12_fault_9 : decode cX12_fault 9 = .ok (.ifCond .eq 7, 3) := by decide +kernel
theorem dX12_fault_12 : decode cX12_fault 12 = .ok (.iconst (-1), 1) := by decide +kernel
theorem dX12_fault_13 : decode cX12_fault 13 = .ok (.goto 7, 3) := by decide +kernel
theorem dX12_fault_16 : decode cX12_fault 16 = .ok (.aload_n 0, 1) := by decide +kernel
theorem dX12_fault_17 : decode cX12_fault 17 = .ok (.getfield 188, 3) := by decide +kernel
theorem dX12_fault_20 : decode cX12_fault 20 = .ok (.ireturn, 1) := by decide +kernel
theorem dX12_code_0 : decode cX12_code 0 = .ok (.aload_n 0, 1) := by decide +kernel
theorem dX12_code_1 : decode cX12_code 1 = .ok (.iconst 0, 1) := by decide +kernel
theorem dX12_code_2 : decode cX12_code 2 = .ok (.putfield 169, 3) := by decide +kernel
theorem dX12_code_5 : decode cX12_code 5 = .ok (.aload_n 0, 1) := by decide +kernel
theorem dX12_code_6 : decode cX12_code 6 = .ok (.invokevirtual 241, 3) := by decide +kernel
theorem dX12_code_9 : decode cX12_code 9 = .ok (.ifCond .ne 5, 3) := by decide +kernel
theorem dX12_code_12 : decode cX12_code 12 = .ok (.iconst (-1), 1) := by decide +kernel
theorem dX12_code_13 : decode cX12_code 13 = .ok (.ireturn, 1) := by decide +kernel
theorem dX12_code_14 : decode cX12_code 14 = .ok (.aload_n 0, 1) := by decide +kernel
theorem dX12_code_15 : decode cX12_code 15 = .ok (.aload_n 0, 1) := by decide +kernel
theorem dX12_code_16 : decode cX12_code 16 = .ok (.getfield 13, 3) := by decide +kernel
theorem dX12_code_19 : decode cX12_code 19 = .ok (.aload_n 0, 1) := by decide +kernel
theorem dX12_code_20 : decode cX12_code 20 = .ok (.getfield 17, 3) := by decide +kernel
theorem dX12_code_23 : decode cX12_code 23 = .ok (.aload_n 0, 1) := by decide +kernel
theorem dX12_code_24 : decode cX12_code 24 = .ok (.getfield 216, 3) := by decide +kernel
theorem dX12_code_27 : decode cX12_code 27 = .ok (.aload_n 0, 1) := by decide +kernel
theorem dX12_code_28 : decode cX12_code 28 = .ok (.getfield 20, 3) := by decide +kernel
theorem dX12_code_31 : decode cX12_code 31 = .ok (.aload_n 0, 1) := by decide +kernel
theorem dX12_code_32 : decode cX12_code 32 = .ok (.getfield 230, 3) := by decide +kernel
theorem dX12_code_35 : decode cX12_code 35 = .ok (.invokevirtual 302, 3) := by decide +kernel
theorem dX12_code_38 : decode cX12_code 38 = .ok (.aload_n 0, 1) := by decide +kernel
theorem dX12_code_39 : decode cX12_code 39 = .ok (.invokevirtual 306, 3) := by decide +kernel
theorem dX12_code_42 : decode cX12_code 42 = .ok (.istore_n 1, 1) := by decide +kernel
theorem dX12_code_43 : decode cX12_code 43 = .ok (.iload_n 1, 1) := by decide +kernel
theorem dX12_code_44 : decode cX12_code 44 = .ok (.ifCond .ge 5, 3) := by decide +kernel
theorem dX12_code_47 : decode cX12_code 47 = .ok (.iload_n 1, 1) := by decide +kernel
theorem dX12_code_48 : decode cX12_code 48 = .ok (.ireturn, 1) := by decide +kernel
theorem dX12_code_49 : decode cX12_code 49 = .ok (.aload_n 0, 1) := by decide +kernel
theorem dX12_code_50 : decode cX12_code 50 = .ok (.iconst 0, 1) := by decide +kernel
theorem dX12_code_51 : decode cX12_code 51 = .ok (.putfield 177, 3) := by decide +kernel
theorem dX12_code_54 : decode cX12_code 54 = .ok (.aload_n 0, 1) := by decide +kernel
theorem dX12_code_55 : decode cX12_code 55 = .ok (.invokevirtual 309, 3) := by decide +kernel
theorem dX12_code_58 : decode cX12_code 58 = .ok (.ireturn, 1) := by decide +kernel
theorem dX12_put_0 : decode cX12_put 0 = .ok (.aload_n 0, 1) := by decide +kernel
theorem dX12_put_1 : decode cX12_put 1 = .ok (.iconst 0, 1) := by decide +kernel
theorem dX12_put_2 : decode cX12_put 2 = .ok (.putfield 169, 3) := by decide +kernel
theorem dX12_put_5 : decode cX12_put 5 = .ok (.aload_n 0, 1) := by decide +kernel
theorem dX12_put_6 : decode cX12_put 6 = .ok (.getfield 292, 3) := by decide +kernel
theorem dX12_put_9 : decode cX12_put 9 = .ok (.ifCond .eq 27, 3) := by decide +kernel
theorem dX12_put_12 : decode cX12_put 12 = .ok (.iload_n 1, 1) := by decide +kernel
theorem dX12_put_13 : decode cX12_put 13 = .ok (.i2l, 1) := by decide +kernel
theorem dX12_put_14 : decode cX12_put 14 = .ok (.lconst 0, 1) := by decide +kernel
theorem dX12_put_15 : decode cX12_put 15 = .ok (.aload_n 0, 1) := by decide +kernel
theorem dX12_put_16 : decode cX12_put 16 = .ok (.getfield 286, 3) := by decide +kernel
theorem dX12_put_19 : decode cX12_put 19 = .ok (.iconst 1, 1) := by decide +kernel
theorem dX12_put_20 : decode cX12_put 20 = .ok (.isub, 1) := by decide +kernel
theorem dX12_put_21 : decode cX12_put 21 = .ok (.i2l, 1) := by decide +kernel
theorem dX12_put_22 : decode cX12_put 22 = .ok (.invokestatic 312, 3) := by decide +kernel
theorem dX12_put_25 : decode cX12_put 25 = .ok (.ifCond .eq 11, 3) := by decide +kernel
theorem dX12_put_28 : decode cX12_put 28 = .ok (.iload_n 2, 1) := by decide +kernel
theorem dX12_put_29 : decode cX12_put 29 = .ok (.iload_n 3, 1) := by decide +kernel
theorem dX12_put_30 : decode cX12_put 30 = .ok (.invokestatic 316, 3) := by decide +kernel
theorem dX12_put_33 : decode cX12_put 33 = .ok (.ifCond .ne 5, 3) := by decide +kernel
theorem dX12_put_36 : decode cX12_put 36 = .ok (.iconst (-1), 1) := by decide +kernel
theorem dX12_put_37 : decode cX12_put 37 = .ok (.ireturn, 1) := by decide +kernel
theorem dX12_put_38 : decode cX12_put 38 = .ok (.aload_n 0, 1) := by decide +kernel
theorem dX12_put_39 : decode cX12_put 39 = .ok (.aload_n 0, 1) := by decide +kernel
theorem dX12_put_40 : decode cX12_put 40 = .ok (.getfield 23, 3) := by decide +kernel
theorem dX12_put_43 : decode cX12_put 43 = .ok (.aload_n 0, 1) := by decide +kernel
theorem dX12_put_44 : decode cX12_put 44 = .ok (.getfield 26, 3) := by decide +kernel
theorem dX12_put_47 : decode cX12_put 47 = .ok (.aload_n 0, 1) := by decide +kernel
theorem dX12_put_48 : decode cX12_put 48 = .ok (.getfield 286, 3) := by decide +kernel
theorem dX12_put_51 : decode cX12_put 51 = .ok (.aload_n 0, 1) := by decide +kernel
theorem dX12_put_52 : decode cX12_put 52 = .ok (.getfield 29, 3) := by decide +kernel
theorem dX12_put_55 : decode cX12_put 55 = .ok (.aload_n 0, 1) := by decide +kernel
theorem dX12_put_56 : decode cX12_put 56 = .ok (.getfield 289, 3) := by decide +kernel
theorem dX12_put_59 : decode cX12_put 59 = .ok (.invokevirtual 302, 3) := by decide +kernel
theorem dX12_put_62 : decode cX12_put 62 = .ok (.aload_n 0, 1) := by decide +kernel
theorem dX12_put_63 : decode cX12_put 63 = .ok (.getfield 32, 3) := by decide +kernel
theorem dX12_put_66 : decode cX12_put 66 = .ok (.iload_n 1, 1) := by decide +kernel
theorem dX12_put_67 : decode cX12_put 67 = .ok (.iload_n 2, 1) := by decide +kernel
theorem dX12_put_68 : decode cX12_put 68 = .ok (.iastore, 1) := by decide +kernel
theorem dX12_put_69 : decode cX12_put 69 = .ok (.aload_n 0, 1) := by decide +kernel
theorem dX12_put_70 : decode cX12_put 70 = .ok (.getfield 35, 3) := by decide +kernel
theorem dX12_put_73 : decode cX12_put 73 = .ok (.iload_n 1, 1) := by decide +kernel
theorem dX12_put_74 : decode cX12_put 74 = .ok (.iload_n 3, 1) := by decide +kernel
theorem dX12_put_75 : decode cX12_put 75 = .ok (.iastore, 1) := by decide +kernel
theorem dX12_put_76 : decode cX12_put 76 = .ok (.aload_n 0, 1) := by decide +kernel
theorem dX12_put_77 : decode cX12_put 77 = .ok (.invokevirtual 306, 3) := by decide +kernel
theorem dX12_put_80 : decode cX12_put 80 = .ok (.istore 4, 2) := by decide +kernel
theorem dX12_put_82 : decode cX12_put 82 = .ok (.iload 4, 2) := by decide +kernel
theorem dX12_put_84 : decode cX12_put 84 = .ok (.ifCond .ge 8, 3) := by decide +kernel
theorem dX12_put_87 : decode cX12_put 87 = .ok (.iload 4, 2) := by decide +kernel
theorem dX12_put_89 : decode cX12_put 89 = .ok (.goto 7, 3) := by decide +kernel
theorem dX12_put_92 : decode cX12_put 92 = .ok (.aload_n 0, 1) := by decide +kernel
theorem dX12_put_93 : decode cX12_put 93 = .ok (.invokevirtual 309, 3) := by decide +kernel
theorem dX12_put_96 : decode cX12_put 96 = .ok (.ireturn, 1) := by decide +kernel
theorem dX12_isLine_0 : decode cX12_isLine 0 = .ok (.aload_n 0, 1) := by decide +kernel
theorem dX12_isLine_1 : decode cX12_isLine 1 = .ok (.getfield 292, 3) := by decide +kernel
theorem dX12_isLine_4 : decode cX12_isLine 4 = .ok (.ifCond .eq 31, 3) := by decide +kernel
theorem dX12_isLine_7 : decode cX12_isLine 7 = .ok (.aload_n 0, 1) := by decide +kernel
theorem dX12_isLine_8 : decode cX12_isLine 8 = .ok (.getfield 358, 3) := by decide +kernel
theorem dX12_isLine_11 : decode cX12_isLine 11 = .ok (.iconst (-1), 1) := by decide +kernel
theorem dX12_isLine_12 : decode cX12_isLine 12 = .ok (.if_icmp .eq 23, 3) := by decide +kernel
theorem dX12_isLine_15 : decode cX12_isLine 15 = .ok (.iload_n 1, 1) := by decide +kernel
theorem dX12_isLine_16 : decode cX12_isLine 16 = .ok (.i2l, 1) := by decide +kernel
theorem dX12_isLine_17 : decode cX12_isLine 17 = .ok (.lconst 0, 1) := by decide +kernel
theorem dX12_isLine_18 : decode cX12_isLine 18 = .ok (.aload_n 0, 1) := by decide +kernel
theorem dX12_isLine_19 : decode cX12_isLine 19 = .ok (.getfield 479, 3) := by decide +kernel
theorem dX12_isLine_22 : decode cX12_isLine 22 = .ok (.iconst 1, 1) := by decide +kernel
theorem dX12_isLine_23 : decode cX12_isLine 23 = .ok (.isub, 1) := by decide +kernel
theorem dX12_isLine_24 : decode cX12_isLine 24 = .ok (.i2l, 1) := by decide +kernel
theorem dX12_isLine_25 : decode cX12_isLine 25 = .ok (.invokestatic 312, 3) := by decide +kernel
theorem dX12_isLine_28 : decode cX12_isLine 28 = .ok (.ifCond .eq 7, 3) := by decide +kernel
theorem dX12_isLine_31 : decode cX12_isLine 31 = .ok (.iconst 1, 1) := by decide +kernel
theorem dX12_isLine_32 : decode cX12_isLine 32 = .ok (.goto 4, 3) := by decide +kernel
theorem dX12_isLine_35 : decode cX12_isLine 35 = .ok (.iconst 0, 1) := by decide +kernel
theorem dX12_isLine_36 : decode cX12_isLine 36 = .ok (.ireturn, 1) := by decide +kernel
theorem dX12_spell_0 : decode cX12_spell 0 = .ok (.aload_n 0, 1) := by decide +kernel
theorem dX12_spell_1 : decode cX12_spell 1 = .ok (.iconst 0, 1) := by decide +kernel
theorem dX12_spell_2 : decode cX12_spell 2 = .ok (.putfield 169, 3) := by decide +kernel
theorem dX12_spell_5 : decode cX12_spell 5 = .ok (.aload_n 0, 1) := by decide +kernel
theorem dX12_spell_6 : decode cX12_spell 6 = .ok (.iload_n 1, 1) := by decide +kernel
theorem dX12_spell_7 : decode cX12_spell 7 = .ok (.invokevirtual 603, 3) := by decide +kernel
theorem dX12_spell_10 : decode cX12_spell 10 = .ok (.ifCond .ne 5, 3) := by decide +kernel
theorem dX12_spell_13 : decode cX12_spell 13 = .ok (.iconst (-1), 1) := by decide +kernel
theorem dX12_spell_14 : decode cX12_spell 14 = .ok (.ireturn, 1) := by decide +kernel
theorem dX12_spell_15 : decode cX12_spell 15 = .ok (.aload_n 0, 1) := by decide +kernel
theorem dX12_spell_16 : decode cX12_spell 16 = .ok (.iload_n 1, 1) := by decide +kernel
theorem dX12_spell_17 : decode cX12_spell 17 = .ok (.invokevirtual 606, 3) := by decide +kernel
theorem dX12_spell_20 : decode cX12_spell 20 = .ok (.aload_n 0, 1) := by decide +kernel
theorem dX12_spell_21 : decode cX12_spell 21 = .ok (.iload_n 2, 1) := by decide +kernel
theorem dX12_spell_22 : decode cX12_spell 22 = .ok (.invokevirtual 609, 3) := by decide +kernel
theorem dX12_spell_25 : decode cX12_spell 25 = .ok (.ireturn, 1) := by decide +kernel
theorem dX12_line__0 : decode cX12_line_ 0 = .ok (.aload_n 0, 1) := by decide +kernel
theorem dX12_line__1 : decode cX12_line_ 1 = .ok (.iconst 0, 1) := by decide +kernel
theorem dX12_line__2 : decode cX12_line_ 2 = .ok (.putfield 169, 3) := by decide +kernel
theorem dX12_line__5 : decode cX12_line_ 5 = .ok (.aload_n 0, 1) := by decide +kernel
theorem dX12_line__6 : decode cX12_line_ 6 = .ok (.iload_n 1, 1) := by decide +kernel
theorem dX12_line__7 : decode cX12_line_ 7 = .ok (.invokevirtual 603, 3) := by decide +kernel
theorem dX12_line__10 : decode cX12_line_ 10 = .ok (.ifCond .eq 15, 3) := by decide +kernel
theorem dX12_line__13 : decode cX12_line_ 13 = .ok (.iload_n 2, 1) := by decide +kernel
theorem dX12_line__14 : decode cX12_line_ 14 = .ok (.i2l, 1) := by decide +kernel
theorem dX12_line__15 : decode cX12_line_ 15 = .ok (.lconst 0, 1) := by decide +kernel
theorem dX12_line__16 : decode cX12_line_ 16 = .ok (.ldc2_w 612, 3) := by decide +kernel
theorem dX12_line__19 : decode cX12_line_ 19 = .ok (.invokestatic 312, 3) := by decide +kernel
theorem dX12_line__22 : decode cX12_line_ 22 = .ok (.ifCond .ne 7, 3) := by decide +kernel
theorem dX12_line__25 : decode cX12_line_ 25 = .ok (.ldc_w 614, 3) := by decide +kernel
theorem dX12_line__28 : decode cX12_line_ 28 = .ok (.ireturn, 1) := by decide +kernel
theorem dX12_line__29 : decode cX12_line_ 29 = .ok (.iload_n 2, 1) := by decide +kernel
theorem dX12_line__30 : decode cX12_line_ 30 = .ok (.ifCond .ne 12, 3) := by decide +kernel
theorem dX12_line__33 : decode cX12_line_ 33 = .ok (.aload_n 0, 1) := by decide +kernel
theorem dX12_line__34 : decode cX12_line_ 34 = .ok (.getfield 133, 3) := by decide +kernel
theorem dX12_line__37 : decode cX12_line_ 37 = .ok (.iload_n 1, 1) := by decide +kernel
theorem dX12_line__38 : decode cX12_line_ 38 = .ok (.iaload, 1) := by decide +kernel
theorem dX12_line__39 : decode cX12_line_ 39 = .ok (.goto 23, 3) := by decide +kernel
theorem dX12_line__42 : decode cX12_line_ 42 = .ok (.iload_n 2, 1) := by decide +kernel
theorem dX12_line__43 : decode cX12_line_ 43 = .ok (.iconst 1, 1) := by decide +kernel
theorem dX12_line__44 : decode cX12_line_ 44 = .ok (.if_icmp .ne 12, 3) := by decide +kernel
theorem dX12_line__47 : decode cX12_line_ 47 = .ok (.aload_n 0, 1) := by decide +kernel
theorem dX12_line__48 : decode cX12_line_ 48 = .ok (.getfield 136, 3) := by decide +kernel
theorem dX12_line__51 : decode cX12_line_ 51 = .ok (.iload_n 1, 1) := by decide +kernel
theorem dX12_line__52 : decode cX12_line_ 52 = .ok (.iaload, 1) := by decide +kernel
theorem dX12_line__53 : decode cX12_line_ 53 = .ok (.goto 9, 3) := by decide +kernel
theorem dX12_line__56 : decode cX12_line_ 56 = .ok (.aload_n 0, 1) := by decide +kernel
theorem dX12_line__57 : decode cX12_line_ 57 = .ok (.getfield 139, 3) := by decide +kernel
theorem dX12_line__60 : decode cX12_line_ 60 = .ok (.iload_n 1, 1) := by decide +kernel
theorem dX12_line__61 : decode cX12_line_ 61 = .ok (.iaload, 1) := by decide +kernel
theorem dX12_line__62 : decode cX12_line_ 62 = .ok (.ireturn, 1) := by decide +kernel
theorem dX12_isBlock_0 : decode cX12_isBlock 0 = .ok (.aload_n 0, 1) := by decide +kernel
theorem dX12_isBlock_1 : decode cX12_isBlock 1 = .ok (.getfield 292, 3) := by decide +kernel
theorem dX12_isBlock_4 : decode cX12_isBlock 4 = .ok (.ifCond .eq 23, 3) := by decide +kernel
theorem dX12_isBlock_7 : decode cX12_isBlock 7 = .ok (.iload_n 1, 1) := by decide +kernel
theorem dX12_isBlock_8 : decode cX12_isBlock 8 = .ok (.i2l, 1) := by decide +kernel
theorem dX12_isBlock_9 : decode cX12_isBlock 9 = .ok (.lconst 0, 1) := by decide +kernel
theorem dX12_isBlock_10 : decode cX12_isBlock 10 = .ok (.aload_n 0, 1) := by decide +kernel
theorem dX12_isBlock_11 : decode cX12_isBlock 11 = .ok (.getfield 299, 3) := by decide +kernel
theorem dX12_isBlock_14 : decode cX12_isBlock 14 = .ok (.iconst 1, 1) := by decide +kernel
theorem dX12_isBlock_15 : decode cX12_isBlock 15 = .ok (.isub, 1) := by decide +kernel
theorem dX12_isBlock_16 : decode cX12_isBlock 16 = .ok (.i2l, 1) := by decide +kernel
theorem dX12_isBlock_17 : decode cX12_isBlock 17 = .ok (.invokestatic 312, 3) := by decide +kernel
theorem dX12_isBlock_20 : decode cX12_isBlock 20 = .ok (.ifCond .eq 7, 3) := by decide +kernel
theorem dX12_isBlock_23 : decode cX12_isBlock 23 = .ok (.iconst 1, 1) := by decide +kernel
theorem dX12_isBlock_24 : decode cX12_isBlock 24 = .ok (.goto 4, 3) := by decide +kernel
theorem dX12_isBlock_27 : decode cX12_isBlock 27 = .ok (.iconst 0, 1) := by decide +kernel
theorem dX12_isBlock_28 : decode cX12_isBlock 28 = .ok (.ireturn, 1) := by decide +kernel
theorem dX12_condition_0 : decode cX12_condition 0 = .ok (.aload_n 0, 1) := by decide +kernel
theorem dX12_condition_1 : decode cX12_condition 1 = .ok (.iconst 0, 1) := by decide +kernel
theorem dX12_condition_2 : decode cX12_condition 2 = .ok (.putfield 169, 3) := by decide +kernel
theorem dX12_condition_5 : decode cX12_condition 5 = .ok (.aload_n 0, 1) := by decide +kernel
theorem dX12_condition_6 : decode cX12_condition 6 = .ok (.iload_n 1, 1) := by decide +kernel
theorem dX12_condition_7 : decode cX12_condition 7 = .ok (.invokevirtual 615, 3) := by decide +kernel
theorem dX12_condition_10 : decode cX12_condition 10 = .ok (.ifCond .eq 13, 3) := by decide +kernel
theorem dX12_condition_13 : decode cX12_condition 13 = .ok (.aload_n 0, 1) := by decide +kernel
theorem dX12_condition_14 : decode cX12_condition 14 = .ok (.getfield 109, 3) := by decide +kernel
theorem dX12_condition_17 : decode cX12_condition 17 = .ok (.iload_n 1, 1) := by decide +kernel
theorem dX12_condition_18 : decode cX12_condition 18 = .ok (.iaload, 1) := by decide +kernel
theorem dX12_condition_19 : decode cX12_condition 19 = .ok (.iconst (-1), 1) := by decide +kernel
theorem dX12_condition_20 : decode cX12_condition 20 = .ok (.if_icmp .ne 5, 3) := by decide +kernel
theorem dX12_condition_23 : decode cX12_condition 23 = .ok (.iconst (-1), 1) := by decide +kernel
theorem dX12_condition_24 : decode cX12_condition 24 = .ok (.ireturn, 1) := by decide +kernel
theorem dX12_condition_25 : decode cX12_condition 25 = .ok (.aload_n 0, 1) := by decide +kernel
theorem dX12_condition_26 : decode cX12_condition 26 = .ok (.iconst 0, 1) := by decide +kernel
theorem dX12_condition_27 : decode cX12_condition 27 = .ok (.putfield 550, 3) := by decide +kernel
theorem dX12_condition_30 : decode cX12_condition 30 = .ok (.aload_n 0, 1) := by decide +kernel
theorem dX12_condition_31 : decode cX12_condition 31 = .ok (.aload_n 0, 1) := by decide +kernel
theorem dX12_condition_32 : decode cX12_condition 32 = .ok (.getfield 109, 3) := by decide +kernel
theorem dX12_condition_35 : decode cX12_condition 35 = .ok (.iload_n 1, 1) := by decide +kernel
theorem dX12_condition_36 : decode cX12_condition 36 = .ok (.iaload, 1) := by decide +kernel
theorem dX12_condition_37 : decode cX12_condition 37 = .ok (.invokevirtual 568, 3) := by decide +kernel
theorem dX12_condition_40 : decode cX12_condition 40 = .ok (.aload_n 0, 1) := by decide +kernel
theorem dX12_condition_41 : decode cX12_condition 41 = .ok (.iload_n 2, 1) := by decide +kernel
theorem dX12_condition_42 : decode cX12_condition 42 = .ok (.invokevirtual 609, 3) := by decide +kernel
theorem dX12_condition_45 : decode cX12_condition 45 = .ok (.ireturn, 1) := by decide +kernel
theorem dX12_statement_0 : decode cX12_statement 0 = .ok (.aload_n 0, 1) := by decide +kernel
theorem dX12_statement_1 : decode cX12_statement 1 = .ok (.iconst 0, 1) := by decide +kernel
theorem dX12_statement_2 : decode cX12_statement 2 = .ok (.putfield 169, 3) := by decide +kernel
theorem dX12_statement_5 : decode cX12_statement 5 = .ok (.aload_n 0, 1) := by decide +kernel
theorem dX12_statement_6 : decode cX12_statement 6 = .ok (.iload_n 1, 1) := by decide +kernel
theorem dX12_statement_7 : decode cX12_statement 7 = .ok (.invokevirtual 615, 3) := by decide +kernel
theorem dX12_statement_10 : decode cX12_statement 10 = .ok (.ifCond .eq 42, 3) := by decide +kernel
theorem dX12_statement_13 : decode cX12_statement 13 = .ok (.iload_n 2, 1) := by decide +kernel
theorem dX12_statement_14 : decode cX12_statement 14 = .ok (.i2l, 1) := by decide +kernel
theorem dX12_statement_15 : decode cX12_statement 15 = .ok (.lconst 0, 1) := by decide +kernel
theorem dX12_statement_16 : decode cX12_statement 16 = .ok (.aload_n 0, 1) := by decide +kernel
theorem dX12_statement_17 : decode cX12_statement 17 = .ok (.getfield 106, 3) := by decide +kernel
theorem dX12_statement_20 : decode cX12_statement 20 = .ok (.iload_n 1, 1) := by decide +kernel
theorem dX12_statement_21 : decode cX12_statement 21 = .ok (.iconst 1, 1) := by decide +kernel
theorem dX12_statement_22 : decode cX12_statement 22 = .ok (.iadd, 1) := by decide +kernel
theorem dX12_statement_23 : decode cX12_statement 23 = .ok (.iaload, 1) := by decide +kernel
theorem dX12_statement_24 : decode cX12_statement 24 = .ok (.aload_n 0, 1) := by decide +kernel
theorem dX12_statement_25 : decode cX12_statement 25 = .ok (.getfield 106, 3) := by decide +kernel
theorem dX12_statement_28 : decode cX12_statement 28 = .ok (.iload_n 1, 1) := by decide +kernel
theorem dX12_statement_29 : decode cX12_statement 29 = .ok (.iaload, 1) := by decide +kernel
theorem dX12_statement_30 : decode cX12_statement 30 = .ok (.isub, 1) := by decide +kernel
theorem dX12_statement_31 : decode cX12_statement 31 = .ok (.iconst 1, 1) := by decide +kernel
theorem dX12_statement_32 : decode cX12_statement 32 = .ok (.isub, 1) := by decide +kernel
theorem dX12_statement_33 : decode cX12_statement 33 = .ok (.i2l, 1) := by decide +kernel
theorem dX12_statement_34 : decode cX12_statement 34 = .ok (.invokestatic 312, 3) := by decide +kernel
theorem dX12_statement_37 : decode cX12_statement 37 = .ok (.ifCond .eq 15, 3) := by decide +kernel
theorem dX12_statement_40 : decode cX12_statement 40 = .ok (.iload_n 3, 1) := by decide +kernel
theorem dX12_statement_41 : decode cX12_statement 41 = .ok (.i2l, 1) := by decide +kernel
theorem dX12_statement_42 : decode cX12_statement 42 = .ok (.lconst 0, 1) := by decide +kernel
theorem dX12_statement_43 : decode cX12_statement 43 = .ok (.ldc2_w 618, 3) := by decide +kernel
theorem dX12_statement_46 : decode cX12_statement 46 = .ok (.invokestatic 312, 3) := by decide +kernel
theorem dX12_statement_49 : decode cX12_statement 49 = .ok (.ifCond .ne 7, 3) := by decide +kernel
theorem dX12_statement_52 : decode cX12_statement 52 = .ok (.ldc_w 614, 3) := by decide +kernel
theorem dX12_statement_55 : decode cX12_statement 55 = .ok (.ireturn, 1) := by decide +kernel
theorem dX12_statement_56 : decode cX12_statement 56 = .ok (.aload_n 0, 1) := by decide +kernel
theorem dX12_statement_57 : decode cX12_statement 57 = .ok (.getfield 106, 3) := by decide +kernel
theorem dX12_statement_60 : decode cX12_statement 60 = .ok (.iload_n 1, 1) := by decide +kernel
theorem dX12_statement_61 : decode cX12_statement 61 = .ok (.iaload, 1) := by decide +kernel
theorem dX12_statement_62 : decode cX12_statement 62 = .ok (.iload_n 2, 1) := by decide +kernel
theorem dX12_statement_63 : decode cX12_statement 63 = .ok (.iadd, 1) := by decide +kernel
theorem dX12_statement_64 : decode cX12_statement 64 = .ok (.istore 4, 2) := by decide +kernel
theorem dX12_statement_66 : decode cX12_statement 66 = .ok (.aload_n 0, 1) := by decide +kernel
theorem dX12_statement_67 : decode cX12_statement 67 = .ok (.getfield 103, 3) := by decide +kernel
theorem dX12_statement_70 : decode cX12_statement 70 = .ok (.iload 4, 2) := by decide +kernel
theorem dX12_statement_72 : decode cX12_statement 72 = .ok (.iaload, 1) := by decide +kernel
theorem dX12_statement_73 : decode cX12_statement 73 = .ok (.istore 5, 2) := by decide +kernel
theorem dX12_statement_75 : decode cX12_statement 75 = .ok (.iload_n 3, 1) := by decide +kernel
theorem dX12_statement_76 : decode cX12_statement 76 = .ok (.ifCond .ne 11, 3) := by decide +kernel
theorem dX12_statement_79 : decode cX12_statement 79 = .ok (.aload_n 0, 1) := by decide +kernel
theorem dX12_statement_80 : decode cX12_statement 80 = .ok (.getfield 97, 3) := by decide +kernel
theorem dX12_statement_83 : decode cX12_statement 83 = .ok (.iload 4, 2) := by decide +kernel
theorem dX12_statement_85 : decode cX12_statement 85 = .ok (.iaload, 1) := by decide +kernel
theorem dX12_statement_86 : decode cX12_statement 86 = .ok (.ireturn, 1) := by decide +kernel
theorem dX12_statement_87 : decode cX12_statement 87 = .ok (.iload_n 3, 1) := by decide +kernel
theorem dX12_statement_88 : decode cX12_statement 88 = .ok (.iconst 1, 1) := by decide +kernel
theorem dX12_statement_89 : decode cX12_statement 89 = .ok (.if_icmp .ne 11, 3) := by decide +kernel
theorem dX12_statement_92 : decode cX12_statement 92 = .ok (.aload_n 0, 1) := by decide +kernel
theorem dX12_statement_93 : decode cX12_statement 93 = .ok (.getfield 100, 3) := by decide +kernel
theorem dX12_statement_96 : decode cX12_statement 96 = .ok (.iload 4, 2) := by decide +kernel
theorem dX12_statement_98 : decode cX12_statement 98 = .ok (.iaload, 1) := by decide +kernel
theorem dX12_statement_99 : decode cX12_statement 99 = .ok (.ireturn, 1) := by decide +kernel
theorem dX12_statement_100 : decode cX12_statement 100 = .ok (.iload 5, 2) := by decide +kernel
theorem dX12_statement_102 : decode cX12_statement 102 = .ok (.iconst (-1), 1) := by decide +kernel
theorem dX12_statement_103 : decode cX12_statement 103 = .ok (.if_icmp .ne 5, 3) := by decide +kernel
theorem dX12_statement_106 : decode cX12_statement 106 = .ok (.iconst 0, 1) := by decide +kernel
theorem dX12_statement_107 : decode cX12_statement 107 = .ok (.ireturn, 1) := by decide +kernel
theorem dX12_statement_108 : decode cX12_statement 108 = .ok (.aload_n 0, 1) := by decide +kernel
theorem dX12_statement_109 : decode cX12_statement 109 = .ok (.iconst 0, 1) := by decide +kernel
theorem dX12_statement_110 : decode cX12_statement 110 = .ok (.putfield 550, 3) := by decide +kernel
theorem dX12_statement_113 : decode cX12_statement 113 = .ok (.aload_n 0, 1) := by decide +kernel
theorem dX12_statement_114 : decode cX12_statement 114 = .ok (.iload 5, 2) := by decide +kernel
theorem dX12_statement_116 : decode cX12_statement 116 = .ok (.invokevirtual 568, 3) := by decide +kernel
theorem dX12_statement_119 : decode cX12_statement 119 = .ok (.iload_n 3, 1) := by decide +kernel
theorem dX12_statement_120 : decode cX12_statement 120 = .ok (.iconst 2, 1) := by decide +kernel
theorem dX12_statement_121 : decode cX12_statement 121 = .ok (.if_icmp .ne 10, 3) := by decide +kernel
theorem dX12_statement_124 : decode cX12_statement 124 = .ok (.aload_n 0, 1) := by decide +kernel
theorem dX12_statement_125 : decode cX12_statement 125 = .ok (.getfield 550, 3) := by decide +kernel
theorem dX12_statement_128 : decode cX12_statement 128 = .ok (.goto 31, 3) := by decide +kernel
theorem dX12_statement_131 : decode cX12_statement 131 = .ok (.iload_n 3, 1) := by decide +kernel
theorem dX12_statement_132 : decode cX12_statement 132 = .ok (.iconst 3, 1) := by decide +kernel
theorem dX12_statement_133 : decode cX12_statement 133 = .ok (.if_icmp .ne 20, 3) := by decide +kernel
theorem dX12_statement_136 : decode cX12_statement 136 = .ok (.aload_n 0, 1) := by decide +kernel
theorem dX12_statement_137 : decode cX12_statement 137 = .ok (.iload 5, 2) := by decide +kernel
theorem dX12_statement_139 : decode cX12_statement 139 = .ok (.invokevirtual 384, 3) := by decide +kernel
theorem dX12_statement_142 : decode cX12_statement 142 = .ok (.ifCond .eq 7, 3) := by decide +kernel
theorem dX12_statement_145 : decode cX12_statement 145 = .ok (.iconst 1, 1) := by decide +kernel
theorem dX12_statement_146 : decode cX12_statement 146 = .ok (.goto 13, 3) := by decide +kernel
theorem dX12_statement_149 : decode cX12_statement 149 = .ok (.iconst 0, 1) := by decide +kernel
theorem dX12_statement_150 : decode cX12_statement 150 = .ok (.goto 9, 3) := by decide +kernel
theorem dX12_statement_153 : decode cX12_statement 153 = .ok (.aload_n 0, 1) := by decide +kernel
theorem dX12_statement_154 : decode cX12_statement 154 = .ok (.iload 5, 2) := by decide +kernel
theorem dX12_statement_156 : decode cX12_statement 156 = .ok (.invokevirtual 401, 3) := by decide +kernel
theorem dX12_statement_159 : decode cX12_statement 159 = .ok (.ireturn, 1) := by decide +kernel
theorem dX12_count_0 : decode cX12_count 0 = .ok (.aload_n 0, 1) := by decide +kernel
theorem dX12_count_1 : decode cX12_count 1 = .ok (.iconst 0, 1) := by decide +kernel
theorem dX12_count_2 : decode cX12_count 2 = .ok (.putfield 169, 3) := by decide +kernel
theorem dX12_count_5 : decode cX12_count 5 = .ok (.iload_n 1, 1) := by decide +kernel
theorem dX12_count_6 : decode cX12_count 6 = .ok (.bipush 12, 2) := by decide +kernel
theorem dX12_count_8 : decode cX12_count 8 = .ok (.if_icmp .ne 8, 3) := by decide +kernel
theorem dX12_count_11 : decode cX12_count 11 = .ok (.aload_n 0, 1) := by decide +kernel
theorem dX12_count_12 : decode cX12_count 12 = .ok (.getfield 177, 3) := by decide +kernel
theorem dX12_count_15 : decode cX12_count 15 = .ok (.ireturn, 1) := by decide +kernel
theorem dX12_count_16 : decode cX12_count 16 = .ok (.aload_n 0, 1) := by decide +kernel
theorem dX12_count_17 : decode cX12_count 17 = .ok (.getfield 292, 3) := by decide +kernel
theorem dX12_count_20 : decode cX12_count 20 = .ok (.ifCond .ne 7, 3) := by decide +kernel
theorem dX12_count_23 : decode cX12_count 23 = .ok (.ldc_w 614, 3) := by decide +kernel
theorem dX12_count_26 : decode cX12_count 26 = .ok (.ireturn, 1) := by decide +kernel
theorem dX12_count_27 : decode cX12_count 27 = .ok (.iload_n 1, 1) := by decide +kernel
theorem dX12_count_28 : decode cX12_count 28 = .ok (.tableswitch 166 0 14 #[76, 81, 86, 91, 96, 101, 106, 111, 124, 141, 146, 151, 166, 156, 161], 76) := by decide +kernel
theorem dX12_count_104 : decode cX12_count 104 = .ok (.aload_n 0, 1) := by decide +kernel
theorem dX12_count_105 : decode cX12_count 105 = .ok (.getfield 286, 3) := by decide +kernel
theorem dX12_count_108 : decode cX12_count 108 = .ok (.ireturn, 1) := by decide +kernel
theorem dX12_count_109 : decode cX12_count 109 = .ok (.aload_n 0, 1) := by decide +kernel
theorem dX12_count_110 : decode cX12_count 110 = .ok (.getfield 299, 3) := by decide +kernel
theorem dX12_count_113 : decode cX12_count 113 = .ok (.ireturn, 1) := by decide +kernel
theorem dX12_count_114 : decode cX12_count 114 = .ok (.aload_n 0, 1) := by decide +kernel
theorem dX12_count_115 : decode cX12_count 115 = .ok (.getfield 327, 3) := by decide +kernel
theorem dX12_count_118 : decode cX12_count 118 = .ok (.ireturn, 1) := by decide +kernel
theorem dX12_count_119 : decode cX12_count 119 = .ok (.aload_n 0, 1) := by decide +kernel
theorem dX12_count_120 : decode cX12_count 120 = .ok (.getfield 289, 3) := by decide +kernel
theorem dX12_count_123 : decode cX12_count 123 = .ok (.ireturn, 1) := by decide +kernel
theorem dX12_count_124 : decode cX12_count 124 = .ok (.aload_n 0, 1) := by decide +kernel
theorem dX12_count_125 : decode cX12_count 125 = .ok (.invokevirtual 626, 3) := by decide +kernel
theorem dX12_count_128 : decode cX12_count 128 = .ok (.ireturn, 1) := by decide +kernel
theorem dX12_count_129 : decode cX12_count 129 = .ok (.aload_n 0, 1) := by decide +kernel
theorem dX12_count_130 : decode cX12_count 130 = .ok (.invokevirtual 629, 3) := by decide +kernel
theorem dX12_count_133 : decode cX12_count 133 = .ok (.ireturn, 1) := by decide +kernel
theorem dX12_count_134 : decode cX12_count 134 = .ok (.aload_n 0, 1) := by decide +kernel
theorem dX12_count_135 : decode cX12_count 135 = .ok (.getfield 358, 3) := by decide +kernel
theorem dX12_count_138 : decode cX12_count 138 = .ok (.ireturn, 1) := by decide +kernel
theorem dX12_count_139 : decode cX12_count 139 = .ok (.aload_n 0, 1) := by decide +kernel
theorem dX12_count_140 : decode cX12_count 140 = .ok (.getfield 355, 3) := by decide +kernel
theorem dX12_count_143 : decode cX12_count 143 = .ok (.ifCond .eq 7, 3) := by decide +kernel
theorem dX12_count_146 : decode cX12_count 146 = .ok (.iconst 1, 1) := by decide +kernel
theorem dX12_count_147 : decode cX12_count 147 = .ok (.goto 4, 3) := by decide +kernel
theorem dX12_count_150 : decode cX12_count 150 = .ok (.iconst 0, 1) := by decide +kernel
theorem dX12_count_151 : decode cX12_count 151 = .ok (.ireturn, 1) := by decide +kernel
theorem dX12_count_152 : decode cX12_count 152 = .ok (.aload_n 0, 1) := by decide +kernel
theorem dX12_count_153 : decode cX12_count 153 = .ok (.getfield 358, 3) := by decide +kernel
theorem dX12_count_156 : decode cX12_count 156 = .ok (.iconst (-1), 1) := by decide +kernel
theorem dX12_count_157 : decode cX12_count 157 = .ok (.if_icmp .ne 7, 3) := by decide +kernel
theorem dX12_count_160 : decode cX12_count 160 = .ok (.iconst (-1), 1) := by decide +kernel
theorem dX12_count_161 : decode cX12_count 161 = .ok (.goto 7, 3) := by decide +kernel
theorem dX12_count_164 : decode cX12_count 164 = .ok (.aload_n 0, 1) := by decide +kernel
theorem dX12_count_165 : decode cX12_count 165 = .ok (.getfield 479, 3) := by decide +kernel
theorem dX12_count_168 : decode cX12_count 168 = .ok (.ireturn, 1) := by decide +kernel
theorem dX12_count_169 : decode cX12_count 169 = .ok (.aload_n 0, 1) := by decide +kernel
theorem dX12_count_170 : decode cX12_count 170 = .ok (.getfield 407, 3) := by decide +kernel
theorem dX12_count_173 : decode cX12_count 173 = .ok (.ireturn, 1) := by decide +kernel
theorem dX12_count_174 : decode cX12_count 174 = .ok (.aload_n 0, 1) := by decide +kernel
theorem dX12_count_175 : decode cX12_count 175 = .ok (.getfield 410, 3) := by decide +kernel
theorem dX12_count_178 : decode cX12_count 178 = .ok (.ireturn, 1) := by decide +kernel
theorem dX12_count_179 : decode cX12_count 179 = .ok (.aload_n 0, 1) := by decide +kernel
theorem dX12_count_180 : decode cX12_count 180 = .ok (.getfield 447, 3) := by decide +kernel
theorem dX12_count_183 : decode cX12_count 183 = .ok (.ireturn, 1) := by decide +kernel
theorem dX12_count_184 : decode cX12_count 184 = .ok (.aload_n 0, 1) := by decide +kernel
theorem dX12_count_185 : decode cX12_count 185 = .ok (.invokevirtual 632, 3) := by decide +kernel
theorem dX12_count_188 : decode cX12_count 188 = .ok (.ireturn, 1) := by decide +kernel
theorem dX12_count_189 : decode cX12_count 189 = .ok (.aload_n 0, 1) := by decide +kernel
theorem dX12_count_190 : decode cX12_count 190 = .ok (.invokevirtual 635, 3) := by decide +kernel
theorem dX12_count_193 : decode cX12_count 193 = .ok (.ireturn, 1) := by decide +kernel
theorem dX12_count_194 : decode cX12_count 194 = .ok (.ldc_w 614, 3) := by decide +kernel
theorem dX12_count_197 : decode cX12_count 197 = .ok (.ireturn, 1) := by decide +kernel
theorem dX12_instruction__0 : decode cX12_instruction_ 0 = .ok (.aload_n 0, 1) := by decide +kernel
theorem dX12_instruction__1 : decode cX12_instruction_ 1 = .ok (.aload_n 0, 1) := by decide +kernel
theorem dX12_instruction__2 : decode cX12_instruction_ 2 = .ok (.getfield 292, 3) := by decide +kernel
theorem dX12_instruction__5 : decode cX12_instruction_ 5 = .ok (.ifCond .eq 35, 3) := by decide +kernel
theorem dX12_instruction__8 : decode cX12_instruction_ 8 = .ok (.iload_n 1, 1) := by decide +kernel
theorem dX12_instruction__9 : decode cX12_instruction_ 9 = .ok (.i2l, 1) := by decide +kernel
theorem dX12_instruction__10 : decode cX12_instruction_ 10 = .ok (.lconst 0, 1) := by decide +kernel
theorem dX12_instruction__11 : decode cX12_instruction_ 11 = .ok (.aload_n 0, 1) := by decide +kernel
theorem dX12_instruction__12 : decode cX12_instruction_ 12 = .ok (.getfield 286, 3) := by decide +kernel
theorem dX12_instruction__15 : decode cX12_instruction_ 15 = .ok (.iconst 1, 1) := by decide +kernel
theorem dX12_instruction__16 : decode cX12_instruction_ 16 = .ok (.isub, 1) := by decide +kernel
theorem dX12_instruction__17 : decode cX12_instruction_ 17 = .ok (.i2l, 1) := by decide +kernel
theorem dX12_instruction__18 : decode cX12_instruction_ 18 = .ok (.invokestatic 312, 3) := by decide +kernel
theorem dX12_instruction__21 : decode cX12_instruction_ 21 = .ok (.ifCond .eq 19, 3) := by decide +kernel
theorem dX12_instruction__24 : decode cX12_instruction_ 24 = .ok (.iload_n 2, 1) := by decide +kernel
theorem dX12_instruction__25 : decode cX12_instruction_ 25 = .ok (.i2l, 1) := by decide +kernel
theorem dX12_instruction__26 : decode cX12_instruction_ 26 = .ok (.lconst 0, 1) := by decide +kernel
theorem dX12_instruction__27 : decode cX12_instruction_ 27 = .ok (.ldc2_w 638, 3) := by decide +kernel
theorem dX12_instruction__30 : decode cX12_instruction_ 30 = .ok (.invokestatic 312, 3) := by decide +kernel
theorem dX12_instruction__33 : decode cX12_instruction_ 33 = .ok (.ifCond .eq 7, 3) := by decide +kernel
theorem dX12_instruction__36 : decode cX12_instruction_ 36 = .ok (.iconst 0, 1) := by decide +kernel
theorem dX12_instruction__37 : decode cX12_instruction_ 37 = .ok (.goto 4, 3) := by decide +kernel
theorem dX12_instruction__40 : decode cX12_instruction_ 40 = .ok (.iconst 1, 1) := by decide +kernel
theorem dX12_instruction__41 : decode cX12_instruction_ 41 = .ok (.putfield 169, 3) := by decide +kernel
theorem dX12_instruction__44 : decode cX12_instruction_ 44 = .ok (.aload_n 0, 1) := by decide +kernel
theorem dX12_instruction__45 : decode cX12_instruction_ 45 = .ok (.getfield 169, 3) := by decide +kernel
theorem dX12_instruction__48 : decode cX12_instruction_ 48 = .ok (.ifCond .le 5, 3) := by decide +kernel
theorem dX12_instruction__51 : decode cX12_instruction_ 51 = .ok (.iconst 0, 1) := by decide +kernel
theorem dX12_instruction__52 : decode cX12_instruction_ 52 = .ok (.ireturn, 1) := by decide +kernel
theorem dX12_instruction__53 : decode cX12_instruction_ 53 = .ok (.iload_n 2, 1) := by decide +kernel
theorem dX12_instruction__54 : decode cX12_instruction_ 54 = .ok (.tableswitch 75 0 4 #[34, 41, 48, 55, 62], 34) := by decide +kernel
theorem dX12_instruction__88 : decode cX12_instruction_ 88 = .ok (.aload_n 0, 1) := by decide +kernel
theorem dX12_instruction__89 : decode cX12_instruction_ 89 = .ok (.getfield 23, 3) := by decide +kernel
theorem dX12_instruction__92 : decode cX12_instruction_ 92 = .ok (.iload_n 1, 1) := by decide +kernel
theorem dX12_instruction__93 : decode cX12_instruction_ 93 = .ok (.iaload, 1) := by decide +kernel
theorem dX12_instruction__94 : decode cX12_instruction_ 94 = .ok (.ireturn, 1) := by decide +kernel
theorem dX12_instruction__95 : decode cX12_instruction_ 95 = .ok (.aload_n 0, 1) := by decide +kernel
theorem dX12_instruction__96 : decode cX12_instruction_ 96 = .ok (.getfield 26, 3) := by decide +kernel
theorem dX12_instruction__99 : decode cX12_instruction_ 99 = .ok (.iload_n 1, 1) := by decide +kernel
theorem dX12_instruction__100 : decode cX12_instruction_ 100 = .ok (.iaload, 1) := by decide +kernel
theorem dX12_instruction__101 : decode cX12_instruction_ 101 = .ok (.ireturn, 1) := by decide +kernel
theorem dX12_instruction__102 : decode cX12_instruction_ 102 = .ok (.aload_n 0, 1) := by decide +kernel
theorem dX12_instruction__103 : decode cX12_instruction_ 103 = .ok (.getfield 44, 3) := by decide +kernel
theorem dX12_instruction__106 : decode cX12_instruction_ 106 = .ok (.iload_n 1, 1) := by decide +kernel
theorem dX12_instruction__107 : decode cX12_instruction_ 107 = .ok (.iaload, 1) := by decide +kernel
theorem dX12_instruction__108 : decode cX12_instruction_ 108 = .ok (.ireturn, 1) := by decide +kernel
theorem dX12_instruction__109 : decode cX12_instruction_ 109 = .ok (.aload_n 0, 1) := by decide +kernel
theorem dX12_instruction__110 : decode cX12_instruction_ 110 = .ok (.getfield 53, 3) := by decide +kernel
theorem dX12_instruction__113 : decode cX12_instruction_ 113 = .ok (.iload_n 1, 1) := by decide +kernel
theorem dX12_instruction__114 : decode cX12_instruction_ 114 = .ok (.iaload, 1) := by decide +kernel
theorem dX12_instruction__115 : decode cX12_instruction_ 115 = .ok (.ireturn, 1) := by decide +kernel
theorem dX12_instruction__116 : decode cX12_instruction_ 116 = .ok (.aload_n 0, 1) := by decide +kernel
theorem dX12_instruction__117 : decode cX12_instruction_ 117 = .ok (.getfield 29, 3) := by decide +kernel
theorem dX12_instruction__120 : decode cX12_instruction_ 120 = .ok (.aload_n 0, 1) := by decide +kernel
theorem dX12_instruction__121 : decode cX12_instruction_ 121 = .ok (.getfield 289, 3) := by decide +kernel
theorem dX12_instruction__124 : decode cX12_instruction_ 124 = .ok (.iload_n 1, 1) := by decide +kernel
theorem dX12_instruction__125 : decode cX12_instruction_ 125 = .ok (.invokestatic 279, 3) := by decide +kernel
theorem dX12_instruction__128 : decode cX12_instruction_ 128 = .ok (.ireturn, 1) := by decide +kernel
theorem dX12_instruction__129 : decode cX12_instruction_ 129 = .ok (.aload_n 0, 1) := by decide +kernel
theorem dX12_instruction__130 : decode cX12_instruction_ 130 = .ok (.getfield 130, 3) := by decide +kernel
theorem dX12_instruction__133 : decode cX12_instruction_ 133 = .ok (.iload_n 1, 1) := by decide +kernel
theorem dX12_instruction__134 : decode cX12_instruction_ 134 = .ok (.baload, 1) := by decide +kernel
theorem dX12_instruction__135 : decode cX12_instruction_ 135 = .ok (.ifCond .eq 7, 3) := by decide +kernel
theorem dX12_instruction__138 : decode cX12_instruction_ 138 = .ok (.iconst 1, 1) := by decide +kernel
theorem dX12_instruction__139 : decode cX12_instruction_ 139 = .ok (.goto 4, 3) := by decide +kernel
theorem dX12_instruction__142 : decode cX12_instruction_ 142 = .ok (.iconst 0, 1) := by decide +kernel
theorem dX12_instruction__143 : decode cX12_instruction_ 143 = .ok (.ireturn, 1) := by decide +kernel
theorem dX12_block_0 : decode cX12_block 0 = .ok (.aload_n 0, 1) := by decide +kernel
theorem dX12_block_1 : decode cX12_block 1 = .ok (.aload_n 0, 1) := by decide +kernel
theorem dX12_block_2 : decode cX12_block 2 = .ok (.iload_n 1, 1) := by decide +kernel
theorem dX12_block_3 : decode cX12_block 3 = .ok (.invokevirtual 615, 3) := by decide +kernel
theorem dX12_block_6 : decode cX12_block 6 = .ok (.ifCond .eq 19, 3) := by decide +kernel
theorem dX12_block_9 : decode cX12_block 9 = .ok (.iload_n 2, 1) := by decide +kernel
theorem dX12_block_10 : decode cX12_block 10 = .ok (.i2l, 1) := by decide +kernel
theorem dX12_block_11 : decode cX12_block 11 = .ok (.lconst 0, 1) := by decide +kernel
theorem dX12_block_12 : decode cX12_block 12 = .ok (.ldc2_w 644, 3) := by decide +kernel
theorem dX12_block_15 : decode cX12_block 15 = .ok (.invokestatic 312, 3) := by decide +kernel
theorem dX12_block_18 : decode cX12_block 18 = .ok (.ifCond .eq 7, 3) := by decide +kernel
theorem dX12_block_21 : decode cX12_block 21 = .ok (.iconst 0, 1) := by decide +kernel
theorem dX12_block_22 : decode cX12_block 22 = .ok (.goto 4, 3) := by decide +kernel
theorem dX12_block_25 : decode cX12_block 25 = .ok (.iconst 1, 1) := by decide +kernel
theorem dX12_block_26 : decode cX12_block 26 = .ok (.putfield 169, 3) := by decide +kernel
theorem dX12_block_29 : decode cX12_block 29 = .ok (.aload_n 0, 1) := by decide +kernel
theorem dX12_block_30 : decode cX12_block 30 = .ok (.getfield 169, 3) := by decide +kernel
theorem dX12_block_33 : decode cX12_block 33 = .ok (.ifCond .le 5, 3) := by decide +kernel
theorem dX12_block_36 : decode cX12_block 36 = .ok (.iconst 0, 1) := by decide +kernel
theorem dX12_block_37 : decode cX12_block 37 = .ok (.ireturn, 1) := by decide +kernel
theorem dX12_block_38 : decode cX12_block 38 = .ok (.iload_n 2, 1) := by decide +kernel
theorem dX12_block_39 : decode cX12_block 39 = .ok (.tableswitch 174 0 11 #[61, 68, 75, 87, 94, 101, 107, 113, 127, 144, 160, 167], 61) := by decide +kernel
theorem dX12_block_100 : decode cX12_block 100 = .ok (.aload_n 0, 1) := by decide +kernel
theorem dX12_block_101 : decode cX12_block 101 = .ok (.getfield 47, 3) := by decide +kernel
theorem dX12_block_104 : decode cX12_block 104 = .ok (.iload_n 1, 1) := by decide +kernel
theorem dX12_block_105 : decode cX12_block 105 = .ok (.iaload, 1) := by decide +kernel
theorem dX12_block_106 : decode cX12_block 106 = .ok (.ireturn, 1) := by decide +kernel
theorem dX12_block_107 : decode cX12_block 107 = .ok (.aload_n 0, 1) := by decide +kernel
theorem dX12_block_108 : decode cX12_block 108 = .ok (.getfield 50, 3) := by decide +kernel
theorem dX12_block_111 : decode cX12_block 111 = .ok (.iload_n 1, 1) := by decide +kernel
theorem dX12_block_112 : decode cX12_block 112 = .ok (.iaload, 1) := by decide +kernel
theorem dX12_block_113 : decode cX12_block 113 = .ok (.ireturn, 1) := by decide +kernel
theorem dX12_block_114 : decode cX12_block 114 = .ok (.aload_n 0, 1) := by decide +kernel
theorem dX12_block_115 : decode cX12_block 115 = .ok (.getfield 44, 3) := by decide +kernel
theorem dX12_block_118 : decode cX12_block 118 = .ok (.aload_n 0, 1) := by decide +kernel
theorem dX12_block_119 : decode cX12_block 119 = .ok (.getfield 47, 3) := by decide +kernel
theorem dX12_block_122 : decode cX12_block 122 = .ok (.iload_n 1, 1) := by decide +kernel
theorem dX12_block_123 : decode cX12_block 123 = .ok (.iaload, 1) := by decide +kernel
theorem dX12_block_124 : decode cX12_block 124 = .ok (.iaload, 1) := by decide +kernel
theorem dX12_block_125 : decode cX12_block 125 = .ok (.ireturn, 1) := by decide +kernel
theorem dX12_block_126 : decode cX12_block 126 = .ok (.aload_n 0, 1) := by decide +kernel
theorem dX12_block_127 : decode cX12_block 127 = .ok (.getfield 82, 3) := by decide +kernel
theorem dX12_block_130 : decode cX12_block 130 = .ok (.iload_n 1, 1) := by decide +kernel
theorem dX12_block_131 : decode cX12_block 131 = .ok (.iaload, 1) := by decide +kernel
theorem dX12_block_132 : decode cX12_block 132 = .ok (.ireturn, 1) := by decide +kernel
theorem dX12_block_133 : decode cX12_block 133 = .ok (.aload_n 0, 1) := by decide +kernel
theorem dX12_block_134 : decode cX12_block 134 = .ok (.getfield 85, 3) := by decide +kernel
theorem dX12_block_137 : decode cX12_block 137 = .ok (.iload_n 1, 1) := by decide +kernel
theorem dX12_block_138 : decode cX12_block 138 = .ok (.iaload, 1) := by decide +kernel
theorem dX12_block_139 : decode cX12_block 139 = .ok (.ireturn, 1) := by decide +kernel
theorem dX12_block_140 : decode cX12_block 140 = .ok (.aload_n 0, 1) := by decide +kernel
theorem dX12_block_141 : decode cX12_block 141 = .ok (.iload_n 1, 1) := by decide +kernel
theorem dX12_block_142 : decode cX12_block 142 = .ok (.invokevirtual 646, 3) := by decide +kernel
theorem dX12_block_145 : decode cX12_block 145 = .ok (.ireturn, 1) := by decide +kernel
theorem dX12_block_146 : decode cX12_block 146 = .ok (.aload_n 0, 1) := by decide +kernel
theorem dX12_block_147 : decode cX12_block 147 = .ok (.iload_n 1, 1) := by decide +kernel
theorem dX12_block_148 : decode cX12_block 148 = .ok (.invokevirtual 649, 3) := by decide +kernel
theorem dX12_block_151 : decode cX12_block 151 = .ok (.ireturn, 1) := by decide +kernel
theorem dX12_block_152 : decode cX12_block 152 = .ok (.aload_n 0, 1) := by decide +kernel
theorem dX12_block_153 : decode cX12_block 153 = .ok (.iload_n 1, 1) := by decide +kernel
theorem dX12_block_154 : decode cX12_block 154 = .ok (.invokevirtual 497, 3) := by decide +kernel
theorem dX12_block_157 : decode cX12_block 157 = .ok (.ifCond .eq 7, 3) := by decide +kernel
theorem dX12_block_160 : decode cX12_block 160 = .ok (.iconst 1, 1) := by decide +kernel
theorem dX12_block_161 : decode cX12_block 161 = .ok (.goto 4, 3) := by decide +kernel
theorem dX12_block_164 : decode cX12_block 164 = .ok (.iconst 0, 1) := by decide +kernel
theorem dX12_block_165 : decode cX12_block 165 = .ok (.ireturn, 1) := by decide +kernel
theorem dX12_block_166 : decode cX12_block 166 = .ok (.aload_n 0, 1) := by decide +kernel
theorem dX12_block_167 : decode cX12_block 167 = .ok (.getfield 79, 3) := by decide +kernel
theorem dX12_block_170 : decode cX12_block 170 = .ok (.iload_n 1, 1) := by decide +kernel
theorem dX12_block_171 : decode cX12_block 171 = .ok (.laload, 1) := by decide +kernel
theorem dX12_block_172 : decode cX12_block 172 = .ok (.lconst 0, 1) := by decide +kernel
theorem dX12_block_173 : decode cX12_block 173 = .ok (.lcmp, 1) := by decide +kernel
theorem dX12_block_174 : decode cX12_block 174 = .ok (.ifCond .ne 7, 3) := by decide +kernel
theorem dX12_block_177 : decode cX12_block 177 = .ok (.iconst 0, 1) := by decide +kernel
theorem dX12_block_178 : decode cX12_block 178 = .ok (.goto 4, 3) := by decide +kernel
theorem dX12_block_181 : decode cX12_block 181 = .ok (.iconst 1, 1) := by decide +kernel
theorem dX12_block_182 : decode cX12_block 182 = .ok (.ireturn, 1) := by decide +kernel
theorem dX12_block_183 : decode cX12_block 183 = .ok (.aload_n 0, 1) := by decide +kernel
theorem dX12_block_184 : decode cX12_block 184 = .ok (.getfield 106, 3) := by decide +kernel
theorem dX12_block_187 : decode cX12_block 187 = .ok (.iload_n 1, 1) := by decide +kernel
theorem dX12_block_188 : decode cX12_block 188 = .ok (.iconst 1, 1) := by decide +kernel
theorem dX12_block_189 : decode cX12_block 189 = .ok (.iadd, 1) := by decide +kernel
theorem dX12_block_190 : decode cX12_block 190 = .ok (.iaload, 1) := by decide +kernel
theorem dX12_block_191 : decode cX12_block 191 = .ok (.aload_n 0, 1) := by decide +kernel
theorem dX12_block_192 : decode cX12_block 192 = .ok (.getfield 106, 3) := by decide +kernel
theorem dX12_block_195 : decode cX12_block 195 = .ok (.iload_n 1, 1) := by decide +kernel
theorem dX12_block_196 : decode cX12_block 196 = .ok (.iaload, 1) := by decide +kernel
theorem dX12_block_197 : decode cX12_block 197 = .ok (.isub, 1) := by decide +kernel
theorem dX12_block_198 : decode cX12_block 198 = .ok (.ireturn, 1) := by decide +kernel
theorem dX12_block_199 : decode cX12_block 199 = .ok (.aload_n 0, 1) := by decide +kernel
theorem dX12_block_200 : decode cX12_block 200 = .ok (.getfield 124, 3) := by decide +kernel
theorem dX12_block_203 : decode cX12_block 203 = .ok (.iload_n 1, 1) := by decide +kernel
theorem dX12_block_204 : decode cX12_block 204 = .ok (.iaload, 1) := by decide +kernel
theorem dX12_block_205 : decode cX12_block 205 = .ok (.ireturn, 1) := by decide +kernel
theorem dX12_block_206 : decode cX12_block 206 = .ok (.aload_n 0, 1) := by decide +kernel
theorem dX12_block_207 : decode cX12_block 207 = .ok (.getfield 127, 3) := by decide +kernel
theorem dX12_block_210 : decode cX12_block 210 = .ok (.iload_n 1, 1) := by decide +kernel
theorem dX12_block_211 : decode cX12_block 211 = .ok (.iaload, 1) := by decide +kernel
theorem dX12_block_212 : decode cX12_block 212 = .ok (.ireturn, 1) := by decide +kernel
theorem dX12_block_213 : decode cX12_block 213 = .ok (.aload_n 0, 1) := by decide +kernel
theorem dX12_block_214 : decode cX12_block 214 = .ok (.getfield 56, 3) := by decide +kernel
theorem dX12_block_217 : decode cX12_block 217 = .ok (.iload_n 1, 1) := by decide +kernel
theorem dX12_block_218 : decode cX12_block 218 = .ok (.iaload, 1) := by decide +kernel
theorem dX12_block_219 : decode cX12_block 219 = .ok (.ireturn, 1) := by decide +kernel
theorem dX12_edge_0 : decode cX12_edge 0 = .ok (.aload_n 0, 1) := by decide +kernel
theorem dX12_edge_1 : decode cX12_edge 1 = .ok (.iconst 0, 1) := by decide +kernel
theorem dX12_edge_2 : decode cX12_edge 2 = .ok (.putfield 169, 3) := by decide +kernel
theorem dX12_edge_5 : decode cX12_edge 5 = .ok (.aload_n 0, 1) := by decide +kernel
theorem dX12_edge_6 : decode cX12_edge 6 = .ok (.getfield 292, 3) := by decide +kernel
theorem dX12_edge_9 : decode cX12_edge 9 = .ok (.ifCond .eq 31, 3) := by decide +kernel
theorem dX12_edge_12 : decode cX12_edge 12 = .ok (.iload_n 1, 1) := by decide +kernel
theorem dX12_edge_13 : decode cX12_edge 13 = .ok (.i2l, 1) := by decide +kernel
theorem dX12_edge_14 : decode cX12_edge 14 = .ok (.lconst 0, 1) := by decide +kernel
theorem dX12_edge_15 : decode cX12_edge 15 = .ok (.aload_n 0, 1) := by decide +kernel
theorem dX12_edge_16 : decode cX12_edge 16 = .ok (.getfield 327, 3) := by decide +kernel
theorem dX12_edge_19 : decode cX12_edge 19 = .ok (.iconst 1, 1) := by decide +kernel
theorem dX12_edge_20 : decode cX12_edge 20 = .ok (.isub, 1) := by decide +kernel
theorem dX12_edge_21 : decode cX12_edge 21 = .ok (.i2l, 1) := by decide +kernel
theorem dX12_edge_22 : decode cX12_edge 22 = .ok (.invokestatic 312, 3) := by decide +kernel
theorem dX12_edge_25 : decode cX12_edge 25 = .ok (.ifCond .eq 15, 3) := by decide +kernel
theorem dX12_edge_28 : decode cX12_edge 28 = .ok (.iload_n 2, 1) := by decide +kernel
theorem dX12_edge_29 : decode cX12_edge 29 = .ok (.i2l, 1) := by decide +kernel
theorem dX12_edge_30 : decode cX12_edge 30 = .ok (.lconst 0, 1) := by decide +kernel
theorem dX12_edge_31 : decode cX12_edge 31 = .ok (.ldc2_w 618, 3) := by decide +kernel
theorem dX12_edge_34 : decode cX12_edge 34 = .ok (.invokestatic 312, 3) := by decide +kernel
theorem dX12_edge_37 : decode cX12_edge 37 = .ok (.ifCond .ne 7, 3) := by decide +kernel
theorem dX12_edge_40 : decode cX12_edge 40 = .ok (.ldc_w 614, 3) := by decide +kernel
theorem dX12_edge_43 : decode cX12_edge 43 = .ok (.ireturn, 1) := by decide +kernel
theorem dX12_edge_44 : decode cX12_edge 44 = .ok (.iload_n 2, 1) := by decide +kernel
theorem dX12_edge_45 : decode cX12_edge 45 = .ok (.tableswitch 75 0 3 #[31, 38, 45, 60], 31) := by decide +kernel
theorem dX12_edge_76 : decode cX12_edge 76 = .ok (.aload_n 0, 1) := by decide +kernel
theorem dX12_edge_77 : decode cX12_edge 77 = .ok (.getfield 59, 3) := by decide +kernel
theorem dX12_edge_80 : decode cX12_edge 80 = .ok (.iload_n 1, 1) := by decide +kernel
theorem dX12_edge_81 : decode cX12_edge 81 = .ok (.iaload, 1) := by decide +kernel
theorem dX12_edge_82 : decode cX12_edge 82 = .ok (.ireturn, 1) := by decide +kernel
theorem dX12_edge_83 : decode cX12_edge 83 = .ok (.aload_n 0, 1) := by decide +kernel
theorem dX12_edge_84 : decode cX12_edge 84 = .ok (.getfield 62, 3) := by decide +kernel
theorem dX12_edge_87 : decode cX12_edge 87 = .ok (.iload_n 1, 1) := by decide +kernel
theorem dX12_edge_88 : decode cX12_edge 88 = .ok (.iaload, 1) := by decide +kernel
theorem dX12_edge_89 : decode cX12_edge 89 = .ok (.ireturn, 1) := by decide +kernel
theorem dX12_edge_90 : decode cX12_edge 90 = .ok (.aload_n 0, 1) := by decide +kernel
theorem dX12_edge_91 : decode cX12_edge 91 = .ok (.getfield 72, 3) := by decide +kernel
theorem dX12_edge_94 : decode cX12_edge 94 = .ok (.iload_n 1, 1) := by decide +kernel
theorem dX12_edge_95 : decode cX12_edge 95 = .ok (.baload, 1) := by decide +kernel
theorem dX12_edge_96 : decode cX12_edge 96 = .ok (.ifCond .eq 7, 3) := by decide +kernel
theorem dX12_edge_99 : decode cX12_edge 99 = .ok (.iconst 1, 1) := by decide +kernel
theorem dX12_edge_100 : decode cX12_edge 100 = .ok (.goto 4, 3) := by decide +kernel
theorem dX12_edge_103 : decode cX12_edge 103 = .ok (.iconst 0, 1) := by decide +kernel
theorem dX12_edge_104 : decode cX12_edge 104 = .ok (.ireturn, 1) := by decide +kernel
theorem dX12_edge_105 : decode cX12_edge 105 = .ok (.aload_n 0, 1) := by decide +kernel
theorem dX12_edge_106 : decode cX12_edge 106 = .ok (.getfield 69, 3) := by decide +kernel
theorem dX12_edge_109 : decode cX12_edge 109 = .ok (.iload_n 1, 1) := by decide +kernel
theorem dX12_edge_110 : decode cX12_edge 110 = .ok (.baload, 1) := by decide +kernel
theorem dX12_edge_111 : decode cX12_edge 111 = .ok (.ifCond .eq 7, 3) := by decide +kernel
theorem dX12_edge_114 : decode cX12_edge 114 = .ok (.iconst 1, 1) := by decide +kernel
theorem dX12_edge_115 : decode cX12_edge 115 = .ok (.goto 4, 3) := by decide +kernel
theorem dX12_edge_118 : decode cX12_edge 118 = .ok (.iconst 0, 1) := by decide +kernel
theorem dX12_edge_119 : decode cX12_edge 119 = .ok (.ireturn, 1) := by decide +kernel
theorem dX12_edge_120 : decode cX12_edge 120 = .ok (.aload_n 0, 1) := by decide +kernel
theorem dX12_edge_121 : decode cX12_edge 121 = .ok (.getfield 65, 3) := by decide +kernel
theorem dX12_edge_124 : decode cX12_edge 124 = .ok (.iload_n 1, 1) := by decide +kernel
theorem dX12_edge_125 : decode cX12_edge 125 = .ok (.baload, 1) := by decide +kernel
theorem dX12_edge_126 : decode cX12_edge 126 = .ok (.ifCond .eq 7, 3) := by decide +kernel
theorem dX12_edge_129 : decode cX12_edge 129 = .ok (.iconst 1, 1) := by decide +kernel
theorem dX12_edge_130 : decode cX12_edge 130 = .ok (.goto 4, 3) := by decide +kernel
theorem dX12_edge_133 : decode cX12_edge 133 = .ok (.iconst 0, 1) := by decide +kernel
theorem dX12_edge_134 : decode cX12_edge 134 = .ok (.ireturn, 1) := by decide +kernel
theorem dX12_dominates_0 : decode cX12_dominates 0 = .ok (.aload_n 0, 1) := by decide +kernel
theorem dX12_dominates_1 : decode cX12_dominates 1 = .ok (.iconst 0, 1) := by decide +kernel
theorem dX12_dominates_2 : decode cX12_dominates 2 = .ok (.putfield 169, 3) := by decide +kernel
theorem dX12_dominates_5 : decode cX12_dominates 5 = .ok (.aload_n 0, 1) := by decide +kernel
theorem dX12_dominates_6 : decode cX12_dominates 6 = .ok (.iload_n 1, 1) := by decide +kernel
theorem dX12_dominates_7 : decode cX12_dominates 7 = .ok (.invokevirtual 615, 3) := by decide +kernel
theorem dX12_dominates_10 : decode cX12_dominates 10 = .ok (.ifCond .eq 28, 3) := by decide +kernel
theorem dX12_dominates_13 : decode cX12_dominates 13 = .ok (.aload_n 0, 1) := by decide +kernel
theorem dX12_dominates_14 : decode cX12_dominates 14 = .ok (.iload_n 2, 1) := by decide +kernel
theorem dX12_dominates_15 : decode cX12_dominates 15 = .ok (.invokevirtual 615, 3) := by decide +kernel
theorem dX12_dominates_18 : decode cX12_dominates 18 = .ok (.ifCond .eq 20, 3) := by decide +kernel
theorem dX12_dominates_21 : decode cX12_dominates 21 = .ok (.aload_n 0, 1) := by decide +kernel
theorem dX12_dominates_22 : decode cX12_dominates 22 = .ok (.getfield 75, 3) := by decide +kernel
theorem dX12_dominates_25 : decode cX12_dominates 25 = .ok (.iload_n 2, 1) := by decide +kernel
theorem dX12_dominates_26 : decode cX12_dominates 26 = .ok (.laload, 1) := by decide +kernel
theorem dX12_dominates_27 : decode cX12_dominates 27 = .ok (.iload_n 1, 1) := by decide +kernel
theorem dX12_dominates_28 : decode cX12_dominates 28 = .ok (.invokestatic 173, 3) := by decide +kernel
theorem dX12_dominates_31 : decode cX12_dominates 31 = .ok (.ifCond .eq 7, 3) := by decide +kernel
theorem dX12_dominates_34 : decode cX12_dominates 34 = .ok (.iconst 1, 1) := by decide +kernel
theorem dX12_dominates_35 : decode cX12_dominates 35 = .ok (.goto 4, 3) := by decide +kernel
theorem dX12_dominates_38 : decode cX12_dominates 38 = .ok (.iconst 0, 1) := by decide +kernel
theorem dX12_dominates_39 : decode cX12_dominates 39 = .ok (.ireturn, 1) := by decide +kernel
theorem dX12_loop_0 : decode cX12_loop 0 = .ok (.aload_n 0, 1) := by decide +kernel
theorem dX12_loop_1 : decode cX12_loop 1 = .ok (.iconst 0, 1) := by decide +kernel
theorem dX12_loop_2 : decode cX12_loop 2 = .ok (.putfield 169, 3) := by decide +kernel
theorem dX12_loop_5 : decode cX12_loop 5 = .ok (.aload_n 0, 1) := by decide +kernel
theorem dX12_loop_6 : decode cX12_loop 6 = .ok (.iload_n 1, 1) := by decide +kernel
theorem dX12_loop_7 : decode cX12_loop 7 = .ok (.invokevirtual 615, 3) := by decide +kernel
theorem dX12_loop_10 : decode cX12_loop 10 = .ok (.ifCond .eq 23, 3) := by decide +kernel
theorem dX12_loop_13 : decode cX12_loop 13 = .ok (.aload_n 0, 1) := by decide +kernel
theorem dX12_loop_14 : decode cX12_loop 14 = .ok (.getfield 79, 3) := by decide +kernel
theorem dX12_loop_17 : decode cX12_loop 17 = .ok (.iload_n 1, 1) := by decide +kernel
theorem dX12_loop_18 : decode cX12_loop 18 = .ok (.laload, 1) := by decide +kernel
theorem dX12_loop_19 : decode cX12_loop 19 = .ok (.lconst 0, 1) := by decide +kernel
theorem dX12_loop_20 : decode cX12_loop 20 = .ok (.lcmp, 1) := by decide +kernel
theorem dX12_loop_21 : decode cX12_loop 21 = .ok (.ifCond .eq 12, 3) := by decide +kernel
theorem dX12_loop_24 : decode cX12_loop 24 = .ok (.aload_n 0, 1) := by decide +kernel
theorem dX12_loop_25 : decode cX12_loop 25 = .ok (.getfield 79, 3) := by decide +kernel
theorem dX12_loop_28 : decode cX12_loop 28 = .ok (.iload_n 1, 1) := by decide +kernel
theorem dX12_loop_29 : decode cX12_loop 29 = .ok (.laload, 1) := by decide +kernel
theorem dX12_loop_30 : decode cX12_loop 30 = .ok (.goto 6, 3) := by decide +kernel
theorem dX12_loop_33 : decode cX12_loop 33 = .ok (.ldc2_w 652, 3) := by decide +kernel
theorem dX12_loop_36 : decode cX12_loop 36 = .ok (.lreturn, 1) := by decide +kernel
theorem dX12_type_0 : decode cX12_type 0 = .ok (.aload_n 0, 1) := by decide +kernel
theorem dX12_type_1 : decode cX12_type 1 = .ok (.iconst 0, 1) := by decide +kernel
theorem dX12_type_2 : decode cX12_type 2 = .ok (.putfield 169, 3) := by decide +kernel
theorem dX12_type_5 : decode cX12_type 5 = .ok (.aload_n 0, 1) := by decide +kernel
theorem dX12_type_6 : decode cX12_type 6 = .ok (.getfield 292, 3) := by decide +kernel
theorem dX12_type_9 : decode cX12_type 9 = .ok (.ifCond .eq 52, 3) := by decide +kernel
theorem dX12_type_12 : decode cX12_type 12 = .ok (.iload_n 1, 1) := by decide +kernel
theorem dX12_type_13 : decode cX12_type 13 = .ok (.i2l, 1) := by decide +kernel
theorem dX12_type_14 : decode cX12_type 14 = .ok (.lconst 0, 1) := by decide +kernel
theorem dX12_type_15 : decode cX12_type 15 = .ok (.ldc2_w 612, 3) := by decide +kernel
theorem dX12_type_18 : decode cX12_type 18 = .ok (.invokestatic 312, 3) := by decide +kernel
theorem dX12_type_21 : decode cX12_type 21 = .ok (.ifCond .eq 40, 3) := by decide +kernel
theorem dX12_type_24 : decode cX12_type 24 = .ok (.iload_n 2, 1) := by decide +kernel
theorem dX12_type_25 : decode cX12_type 25 = .ok (.i2l, 1) := by decide +kernel
theorem dX12_type_26 : decode cX12_type 26 = .ok (.lconst 0, 1) := by decide +kernel
theorem dX12_type_27 : decode cX12_type 27 = .ok (.iload_n 1, 1) := by decide +kernel
theorem dX12_type_28 : decode cX12_type 28 = .ok (.ifCond .ne 8, 3) := by decide +kernel
theorem dX12_type_31 : decode cX12_type 31 = .ok (.bipush 6, 2) := by decide +kernel
theorem dX12_type_33 : decode cX12_type 33 = .ok (.goto 19, 3) := by decide +kernel
theorem dX12_type_36 : decode cX12_type 36 = .ok (.iload_n 1, 1) := by decide +kernel
theorem dX12_type_37 : decode cX12_type 37 = .ok (.iconst 1, 1) := by decide +kernel
theorem dX12_type_38 : decode cX12_type 38 = .ok (.if_icmp .ne 10, 3) := by decide +kernel
theorem dX12_type_41 : decode cX12_type 41 = .ok (.aload_n 0, 1) := by decide +kernel
theorem dX12_type_42 : decode cX12_type 42 = .ok (.getfield 447, 3) := by decide +kernel
theorem dX12_type_45 : decode cX12_type 45 = .ok (.goto 7, 3) := by decide +kernel
theorem dX12_type_48 : decode cX12_type 48 = .ok (.aload_n 0, 1) := by decide +kernel
theorem dX12_type_49 : decode cX12_type 49 = .ok (.getfield 410, 3) := by decide +kernel
theorem dX12_type_52 : decode cX12_type 52 = .ok (.iconst 1, 1) := by decide +kernel
theorem dX12_type_53 : decode cX12_type 53 = .ok (.isub, 1) := by decide +kernel
theorem dX12_type_54 : decode cX12_type 54 = .ok (.i2l, 1) := by decide +kernel
theorem dX12_type_55 : decode cX12_type 55 = .ok (.invokestatic 312, 3) := by decide +kernel
theorem dX12_type_58 : decode cX12_type 58 = .ok (.ifCond .ne 5, 3) := by decide +kernel
theorem dX12_type_61 : decode cX12_type 61 = .ok (.iconst (-1), 1) := by decide +kernel
theorem dX12_type_62 : decode cX12_type 62 = .ok (.ireturn, 1) := by decide +kernel
theorem dX12_type_63 : decode cX12_type 63 = .ok (.iload_n 1, 1) := by decide +kernel
theorem dX12_type_64 : decode cX12_type 64 = .ok (.ifCond .ne 15, 3) := by decide +kernel
theorem dX12_type_67 : decode cX12_type 67 = .ok (.aload_n 0, 1) := by decide +kernel
theorem dX12_type_68 : decode cX12_type 68 = .ok (.getfield 115, 3) := by decide +kernel
theorem dX12_type_71 : decode cX12_type 71 = .ok (.iload_n 2, 1) := by decide +kernel
theorem dX12_type_72 : decode cX12_type 72 = .ok (.baload, 1) := by decide +kernel
theorem dX12_type_73 : decode cX12_type 73 = .ok (.ifCond .eq 36, 3) := by decide +kernel
theorem dX12_type_76 : decode cX12_type 76 = .ok (.goto 29, 3) := by decide +kernel
theorem dX12_type_79 : decode cX12_type 79 = .ok (.iload_n 1, 1) := by decide +kernel
theorem dX12_type_80 : decode cX12_type 80 = .ok (.iconst 1, 1) := by decide +kernel
theorem dX12_type_81 : decode cX12_type 81 = .ok (.if_icmp .ne 15, 3) := by decide +kernel
theorem dX12_type_84 : decode cX12_type 84 = .ok (.aload_n 0, 1) := by decide +kernel
theorem dX12_type_85 : decode cX12_type 85 = .ok (.getfield 118, 3) := by decide +kernel
theorem dX12_type_88 : decode cX12_type 88 = .ok (.iload_n 2, 1) := by decide +kernel
theorem dX12_type_89 : decode cX12_type 89 = .ok (.baload, 1) := by decide +kernel
theorem dX12_type_90 : decode cX12_type 90 = .ok (.ifCond .eq 19, 3) := by decide +kernel
theorem dX12_type_93 : decode cX12_type 93 = .ok (.goto 12, 3) := by decide +kernel
theorem dX12_type_96 : decode cX12_type 96 = .ok (.aload_n 0, 1) := by decide +kernel
theorem dX12_type_97 : decode cX12_type 97 = .ok (.getfield 121, 3) := by decide +kernel
theorem dX12_type_100 : decode cX12_type 100 = .ok (.iload_n 2, 1) := by decide +kernel
theorem dX12_type_101 : decode cX12_type 101 = .ok (.baload, 1) := by decide +kernel
theorem dX12_type_102 : decode cX12_type 102 = .ok (.ifCond .eq 7, 3) := by decide +kernel
theorem dX12_type_105 : decode cX12_type 105 = .ok (.iconst 1, 1) := by decide +kernel
theorem dX12_type_106 : decode cX12_type 106 = .ok (.goto 4, 3) := by decide +kernel
theorem dX12_type_109 : decode cX12_type 109 = .ok (.iconst 0, 1) := by decide +kernel
theorem dX12_type_110 : decode cX12_type 110 = .ok (.ireturn, 1) := by decide +kernel
theorem dX12_comesTo_0 : decode cX12_comesTo 0 = .ok (.aload_n 0, 1) := by decide +kernel
theorem dX12_comesTo_1 : decode cX12_comesTo 1 = .ok (.iconst 0, 1) := by decide +kernel
theorem dX12_comesTo_2 : decode cX12_comesTo 2 = .ok (.putfield 169, 3) := by decide +kernel
theorem dX12_comesTo_5 : decode cX12_comesTo 5 = .ok (.aload_n 0, 1) := by decide +kernel
theorem dX12_comesTo_6 : decode cX12_comesTo 6 = .ok (.iload_n 1, 1) := by decide +kernel
theorem dX12_comesTo_7 : decode cX12_comesTo 7 = .ok (.invokevirtual 615, 3) := by decide +kernel
theorem dX12_comesTo_10 : decode cX12_comesTo 10 = .ok (.ifCond .ne 7, 3) := by decide +kernel
theorem dX12_comesTo_13 : decode cX12_comesTo 13 = .ok (.ldc2_w 652, 3) := by decide +kernel
theorem dX12_comesTo_16 : decode cX12_comesTo 16 = .ok (.lreturn, 1) := by decide +kernel
theorem dX12_comesTo_17 : decode cX12_comesTo 17 = .ok (.lconst 0, 1) := by decide +kernel
theorem dX12_comesTo_18 : decode cX12_comesTo 18 = .ok (.lstore_n 2, 1) := by decide +kernel
theorem dX12_comesTo_19 : decode cX12_comesTo 19 = .ok (.iconst 1, 1) := by decide +kernel
theorem dX12_comesTo_20 : decode cX12_comesTo 20 = .ok (.istore 4, 2) := by decide +kernel
theorem dX12_comesTo_22 : decode cX12_comesTo 22 = .ok (.iload 4, 2) := by decide +kernel
theorem dX12_comesTo_24 : decode cX12_comesTo 24 = .ok (.ifCond .eq 84, 3) := by decide +kernel
theorem dX12_comesTo_27 : decode cX12_comesTo 27 = .ok (.iconst 0, 1) := by decide +kernel
theorem dX12_comesTo_28 : decode cX12_comesTo 28 = .ok (.istore 4, 2) := by decide +kernel
theorem dX12_comesTo_30 : decode cX12_comesTo 30 = .ok (.iconst 0, 1) := by decide +kernel
theorem dX12_comesTo_31 : decode cX12_comesTo 31 = .ok (.istore 5, 2) := by decide +kernel
theorem dX12_comesTo_33 : decode cX12_comesTo 33 = .ok (.iload 5, 2) := by decide +kernel
theorem dX12_comesTo_35 : decode cX12_comesTo 35 = .ok (.aload_n 0, 1) := by decide +kernel
theorem dX12_comesTo_36 : decode cX12_comesTo 36 = .ok (.getfield 327, 3) := by decide +kernel
theorem dX12_comesTo_39 : decode cX12_comesTo 39 = .ok (.if_icmp .ge 66, 3) := by decide +kernel
theorem dX12_comesTo_42 : decode cX12_comesTo 42 = .ok (.aload_n 0, 1) := by decide +kernel
theorem dX12_comesTo_43 : decode cX12_comesTo 43 = .ok (.getfield 62, 3) := by decide +kernel
theorem dX12_comesTo_46 : decode cX12_comesTo 46 = .ok (.iload 5, 2) := by decide +kernel
theorem dX12_comesTo_48 : decode cX12_comesTo 48 = .ok (.iaload, 1) := by decide +kernel
theorem dX12_comesTo_49 : decode cX12_comesTo 49 = .ok (.iload_n 1, 1) := by decide +kernel
theorem dX12_comesTo_50 : decode cX12_comesTo 50 = .ok (.if_icmp .eq 17, 3) := by decide +kernel
theorem dX12_comesTo_53 : decode cX12_comesTo 53 = .ok (.lload_n 2, 1) := by decide +kernel
theorem dX12_comesTo_54 : decode cX12_comesTo 54 = .ok (.aload_n 0, 1) := by decide +kernel
theorem dX12_comesTo_55 : decode cX12_comesTo 55 = .ok (.getfield 62, 3) := by decide +kernel
theorem dX12_comesTo_58 : decode cX12_comesTo 58 = .ok (.iload 5, 2) := by decide +kernel
theorem dX12_comesTo_60 : decode cX12_comesTo 60 = .ok (.iaload, 1) := by decide +kernel
theorem dX12_comesTo_61 : decode cX12_comesTo 61 = .ok (.invokestatic 173, 3) := by decide +kernel
theorem dX12_comesTo_64 : decode cX12_comesTo 64 = .ok (.ifCond .eq 35, 3) := by decide +kernel
theorem dX12_comesTo_67 : decode cX12_comesTo 67 = .ok (.lload_n 2, 1) := by decide +kernel
theorem dX12_comesTo_68 : decode cX12_comesTo 68 = .ok (.aload_n 0, 1) := by decide +kernel
theorem dX12_comesTo_69 : decode cX12_comesTo 69 = .ok (.getfield 59, 3) := by decide +kernel
theorem dX12_comesTo_72 : decode cX12_comesTo 72 = .ok (.iload 5, 2) := by decide +kernel
theorem dX12_comesTo_74 : decode cX12_comesTo 74 = .ok (.iaload, 1) := by decide +kernel
theorem dX12_comesTo_75 : decode cX12_comesTo 75 = .ok (.invokestatic 173, 3) := by decide +kernel
theorem dX12_comesTo_78 : decode cX12_comesTo 78 = .ok (.ifCond .eq 6, 3) := by decide +kernel
theorem dX12_comesTo_81 : decode cX12_comesTo 81 = .ok (.goto 18, 3) := by decide +kernel
theorem dX12_comesTo_84 : decode cX12_comesTo 84 = .ok (.lload_n 2, 1) := by decide +kernel
theorem dX12_comesTo_85 : decode cX12_comesTo 85 = .ok (.lconst 1, 1) := by decide +kernel
theorem dX12_comesTo_86 : decode cX12_comesTo 86 = .ok (.aload_n 0, 1) := by decide +kernel
theorem dX12_comesTo_87 : decode cX12_comesTo 87 = .ok (.getfield 59, 3) := by decide +kernel
theorem dX12_comesTo_90 : decode cX12_comesTo 90 = .ok (.iload 5, 2) := by decide +kernel
theorem dX12_comesTo_92 : decode cX12_comesTo 92 = .ok (.iaload, 1) := by decide +kernel
theorem dX12_comesTo_93 : decode cX12_comesTo 93 = .ok (.lshl, 1) := by decide +kernel
theorem dX12_comesTo_94 : decode cX12_comesTo 94 = .ok (.lor, 1) := by decide +kernel
theorem dX12_comesTo_95 : decode cX12_comesTo 95 = .ok (.lstore_n 2, 1) := by decide +kernel
theorem dX12_comesTo_96 : decode cX12_comesTo 96 = .ok (.iconst 1, 1) := by decide +kernel
theorem dX12_comesTo_97 : decode cX12_comesTo 97 = .ok (.istore 4, 2) := by decide +kernel
theorem dX12_comesTo_99 : decode cX12_comesTo 99 = .ok (.iinc 5 1, 3) := by decide +kernel
theorem dX12_comesTo_102 : decode cX12_comesTo 102 = .ok (.goto (-69), 3) := by decide +kernel
theorem dX12_comesTo_105 : decode cX12_comesTo 105 = .ok (.goto (-83), 3) := by decide +kernel
theorem dX12_comesTo_108 : decode cX12_comesTo 108 = .ok (.lload_n 2, 1) := by decide +kernel
theorem dX12_comesTo_109 : decode cX12_comesTo 109 = .ok (.lreturn, 1) := by decide +kernel
theorem dX12_far_0 : decode cX12_far 0 = .ok (.aload_n 0, 1) := by decide +kernel
theorem dX12_far_1 : decode cX12_far 1 = .ok (.iconst 0, 1) := by decide +kernel
theorem dX12_far_2 : decode cX12_far 2 = .ok (.putfield 169, 3) := by decide +kernel
theorem dX12_far_5 : decode cX12_far 5 = .ok (.aload_n 0, 1) := by decide +kernel
theorem dX12_far_6 : decode cX12_far 6 = .ok (.iload_n 1, 1) := by decide +kernel
theorem dX12_far_7 : decode cX12_far 7 = .ok (.invokevirtual 615, 3) := by decide +kernel
theorem dX12_far_10 : decode cX12_far 10 = .ok (.ifCond .eq 11, 3) := by decide +kernel
theorem dX12_far_13 : decode cX12_far 13 = .ok (.aload_n 0, 1) := by decide +kernel
theorem dX12_far_14 : decode cX12_far 14 = .ok (.iload_n 2, 1) := by decide +kernel
theorem dX12_far_15 : decode cX12_far 15 = .ok (.invokevirtual 615, 3) := by decide +kernel
theorem dX12_far_18 : decode cX12_far 18 = .ok (.ifCond .ne 5, 3) := by decide +kernel
theorem dX12_far_21 : decode cX12_far 21 = .ok (.iconst (-1), 1) := by decide +kernel
theorem dX12_far_22 : decode cX12_far 22 = .ok (.ireturn, 1) := by decide +kernel
theorem dX12_far_23 : decode cX12_far 23 = .ok (.lconst 1, 1) := by decide +kernel
theorem dX12_far_24 : decode cX12_far 24 = .ok (.iload_n 1, 1) := by decide +kernel
theorem dX12_far_25 : decode cX12_far 25 = .ok (.lshl, 1) := by decide +kernel
theorem dX12_far_26 : decode cX12_far 26 = .ok (.lstore_n 3, 1) := by decide +kernel
theorem dX12_far_27 : decode cX12_far 27 = .ok (.iconst 0, 1) := by decide +kernel
theorem dX12_far_28 : decode cX12_far 28 = .ok (.istore 5, 2) := by decide +kernel
theorem dX12_far_30 : decode cX12_far 30 = .ok (.lload_n 3, 1) := by decide +kernel
theorem dX12_far_31 : decode cX12_far 31 = .ok (.iload_n 2, 1) := by decide +kernel
theorem dX12_far_32 : decode cX12_far 32 = .ok (.invokestatic 173, 3) := by decide +kernel
theorem dX12_far_35 : decode cX12_far 35 = .ok (.ifCond .ne 70, 3) := by decide +kernel
theorem dX12_far_38 : decode cX12_far 38 = .ok (.lload_n 3, 1) := by decide +kernel
theorem dX12_far_39 : decode cX12_far 39 = .ok (.lstore 6, 2) := by decide +kernel
theorem dX12_far_41 : decode cX12_far 41 = .ok (.iconst 0, 1) := by decide +kernel
theorem dX12_far_42 : decode cX12_far 42 = .ok (.istore 8, 2) := by decide +kernel
theorem dX12_far_44 : decode cX12_far 44 = .ok (.iload 8, 2) := by decide +kernel
theorem dX12_far_46 : decode cX12_far 46 = .ok (.aload_n 0, 1) := by decide +kernel
theorem dX12_far_47 : decode cX12_far 47 = .ok (.getfield 327, 3) := by decide +kernel
theorem dX12_far_50 : decode cX12_far 50 = .ok (.if_icmp .ge 37, 3) := by decide +kernel
theorem dX12_far_53 : decode cX12_far 53 = .ok (.lload_n 3, 1) := by decide +kernel
theorem dX12_far_54 : decode cX12_far 54 = .ok (.aload_n 0, 1) := by decide +kernel
theorem dX12_far_55 : decode cX12_far 55 = .ok (.getfield 59, 3) := by decide +kernel
theorem dX12_far_58 : decode cX12_far 58 = .ok (.iload 8, 2) := by decide +kernel
theorem dX12_far_60 : decode cX12_far 60 = .ok (.iaload, 1) := by decide +kernel
theorem dX12_far_61 : decode cX12_far 61 = .ok (.invokestatic 173, 3) := by decide +kernel
theorem dX12_far_64 : decode cX12_far 64 = .ok (.ifCond .eq 17, 3) := by decide +kernel
theorem dX12_far_67 : decode cX12_far 67 = .ok (.lload 6, 2) := by decide +kernel
theorem dX12_far_69 : decode cX12_far 69 = .ok (.lconst 1, 1) := by decide +kernel
theorem dX12_far_70 : decode cX12_far 70 = .ok (.aload_n 0, 1) := by decide +kernel
theorem dX12_far_71 : decode cX12_far 71 = .ok (.getfield 62, 3) := by decide +kernel
theorem dX12_far_74 : decode cX12_far 74 = .ok (.iload 8, 2) := by decide +kernel
theorem dX12_far_76 : decode cX12_far 76 = .ok (.iaload, 1) := by decide +kernel
theorem dX12_far_77 : decode cX12_far 77 = .ok (.lshl, 1) := by decide +kernel
theorem dX12_far_78 : decode cX12_far 78 = .ok (.lor, 1) := by decide +kernel
theorem dX12_far_79 : decode cX12_far 79 = .ok (.lstore 6, 2) := by decide +kernel
theorem dX12_far_81 : decode cX12_far 81 = .ok (.iinc 8 1, 3) := by decide +kernel
theorem dX12_far_84 : decode cX12_far 84 = .ok (.goto (-40), 3) := by decide +kernel
theorem dX12_far_87 : decode cX12_far 87 = .ok (.lload 6, 2) := by decide +kernel
theorem dX12_far_89 : decode cX12_far 89 = .ok (.lload_n 3, 1) := by decide +kernel
theorem dX12_far_90 : decode cX12_far 90 = .ok (.lcmp, 1) := by decide +kernel
theorem dX12_far_91 : decode cX12_far 91 = .ok (.ifCond .ne 5, 3) := by decide +kernel
theorem dX12_far_94 : decode cX12_far 94 = .ok (.iconst (-1), 1) := by decide +kernel
theorem dX12_far_95 : decode cX12_far 95 = .ok (.ireturn, 1) := by decide +kernel
theorem dX12_far_96 : decode cX12_far 96 = .ok (.lload 6, 2) := by decide +kernel
theorem dX12_far_98 : decode cX12_far 98 = .ok (.lstore_n 3, 1) := by decide +kernel
theorem dX12_far_99 : decode cX12_far 99 = .ok (.iinc 5 1, 3) := by decide +kernel
theorem dX12_far_102 : decode cX12_far 102 = .ok (.goto (-72), 3) := by decide +kernel
theorem dX12_far_105 : decode cX12_far 105 = .ok (.iload 5, 2) := by decide +kernel
theorem dX12_far_107 : decode cX12_far 107 = .ok (.ireturn, 1) := by decide +kernel
theorem dX12_most_0 : decode cX12_most 0 = .ok (.aload_n 0, 1) := by decide +kernel
theorem dX12_most_1 : decode cX12_most 1 = .ok (.iconst 0, 1) := by decide +kernel
theorem dX12_most_2 : decode cX12_most 2 = .ok (.putfield 169, 3) := by decide +kernel
theorem dX12_most_5 : decode cX12_most 5 = .ok (.aload_n 0, 1) := by decide +kernel
theorem dX12_most_6 : decode cX12_most 6 = .ok (.getfield 292, 3) := by decide +kernel
theorem dX12_most_9 : decode cX12_most 9 = .ok (.ifCond .ne 7, 3) := by decide +kernel
theorem dX12_most_12 : decode cX12_most 12 = .ok (.ldc_w 614, 3) := by decide +kernel
theorem dX12_most_15 : decode cX12_most 15 = .ok (.ireturn, 1) := by decide +kernel
theorem dX12_most_16 : decode cX12_most 16 = .ok (.iload_n 1, 1) := by decide +kernel
theorem dX12_most_17 : decode cX12_most 17 = .ok (.tableswitch 127 0 7 #[47, 52, 69, 88, 107, 112, 117, 122], 47) := by decide +kernel
theorem dX12_most_64 : decode cX12_most 64 = .ok (.aload_n 0, 1) := by decide +kernel
theorem dX12_most_65 : decode cX12_most 65 = .ok (.invokevirtual 654, 3) := by decide +kernel
theorem dX12_most_68 : decode cX12_most 68 = .ok (.ireturn, 1) := by decide +kernel
theorem dX12_most_69 : decode cX12_most 69 = .ok (.aload_n 0, 1) := by decide +kernel
theorem dX12_most_70 : decode cX12_most 70 = .ok (.getfield 358, 3) := by decide +kernel
theorem dX12_most_73 : decode cX12_most 73 = .ok (.iconst (-1), 1) := by decide +kernel
theorem dX12_most_74 : decode cX12_most 74 = .ok (.if_icmp .ne 7, 3) := by decide +kernel
theorem dX12_most_77 : decode cX12_most 77 = .ok (.iconst (-1), 1) := by decide +kernel
theorem dX12_most_78 : decode cX12_most 78 = .ok (.goto 7, 3) := by decide +kernel
theorem dX12_most_81 : decode cX12_most 81 = .ok (.aload_n 0, 1) := by decide +kernel
theorem dX12_most_82 : decode cX12_most 82 = .ok (.invokevirtual 657, 3) := by decide +kernel
theorem dX12_most_85 : decode cX12_most 85 = .ok (.ireturn, 1) := by decide +kernel
theorem dX12_most_86 : decode cX12_most 86 = .ok (.aload_n 0, 1) := by decide +kernel
theorem dX12_most_87 : decode cX12_most 87 = .ok (.getfield 358, 3) := by decide +kernel
theorem dX12_most_90 : decode cX12_most 90 = .ok (.iconst (-1), 1) := by decide +kernel
theorem dX12_most_91 : decode cX12_most 91 = .ok (.if_icmp .ne 7, 3) := by decide +kernel
theorem dX12_most_94 : decode cX12_most 94 = .ok (.iconst (-1), 1) := by decide +kernel
theorem dX12_most_95 : decode cX12_most 95 = .ok (.goto 9, 3) := by decide +kernel
theorem dX12_most_98 : decode cX12_most 98 = .ok (.aload_n 0, 1) := by decide +kernel
theorem dX12_most_99 : decode cX12_most 99 = .ok (.bipush 6, 2) := by decide +kernel
theorem dX12_most_101 : decode cX12_most 101 = .ok (.invokevirtual 660, 3) := by decide +kernel
theorem dX12_most_104 : decode cX12_most 104 = .ok (.ireturn, 1) := by decide +kernel
theorem dX12_most_105 : decode cX12_most 105 = .ok (.aload_n 0, 1) := by decide +kernel
theorem dX12_most_106 : decode cX12_most 106 = .ok (.getfield 358, 3) := by decide +kernel
theorem dX12_most_109 : decode cX12_most 109 = .ok (.iconst (-1), 1) := by decide +kernel
theorem dX12_most_110 : decode cX12_most 110 = .ok (.if_icmp .ne 7, 3) := by decide +kernel
theorem dX12_most_113 : decode cX12_most 113 = .ok (.iconst (-1), 1) := by decide +kernel
theorem dX12_most_114 : decode cX12_most 114 = .ok (.goto 9, 3) := by decide +kernel
theorem dX12_most_117 : decode cX12_most 117 = .ok (.aload_n 0, 1) := by decide +kernel
theorem dX12_most_118 : decode cX12_most 118 = .ok (.bipush 7, 2) := by decide +kernel
theorem dX12_most_120 : decode cX12_most 120 = .ok (.invokevirtual 660, 3) := by decide +kernel
theorem dX12_most_123 : decode cX12_most 123 = .ok (.ireturn, 1) := by decide +kernel
theorem dX12_most_124 : decode cX12_most 124 = .ok (.aload_n 0, 1) := by decide +kernel
theorem dX12_most_125 : decode cX12_most 125 = .ok (.invokevirtual 663, 3) := by decide +kernel
theorem dX12_most_128 : decode cX12_most 128 = .ok (.ireturn, 1) := by decide +kernel
theorem dX12_most_129 : decode cX12_most 129 = .ok (.aload_n 0, 1) := by decide +kernel
theorem dX12_most_130 : decode cX12_most 130 = .ok (.invokevirtual 666, 3) := by decide +kernel
theorem dX12_most_133 : decode cX12_most 133 = .ok (.ireturn, 1) := by decide +kernel
theorem dX12_most_134 : decode cX12_most 134 = .ok (.aload_n 0, 1) := by decide +kernel
theorem dX12_most_135 : decode cX12_most 135 = .ok (.invokevirtual 669, 3) := by decide +kernel
theorem dX12_most_138 : decode cX12_most 138 = .ok (.ireturn, 1) := by decide +kernel
theorem dX12_most_139 : decode cX12_most 139 = .ok (.aload_n 0, 1) := by decide +kernel
theorem dX12_most_140 : decode cX12_most 140 = .ok (.invokevirtual 672, 3) := by decide +kernel
theorem dX12_most_143 : decode cX12_most 143 = .ok (.ireturn, 1) := by decide +kernel
theorem dX12_most_144 : decode cX12_most 144 = .ok (.ldc_w 614, 3) := by decide +kernel
theorem dX12_most_147 : decode cX12_most 147 = .ok (.ireturn, 1) := by decide +kernel
theorem dX12_hasRun_0 : decode cX12_hasRun 0 = .ok (.aload_n 0, 1) := by decide +kernel
theorem dX12_hasRun_1 : decode cX12_hasRun 1 = .ok (.getfield 292, 3) := by decide +kernel
theorem dX12_hasRun_4 : decode cX12_hasRun 4 = .ok (.ifCond .eq 39, 3) := by decide +kernel
theorem dX12_hasRun_7 : decode cX12_hasRun 7 = .ok (.iload_n 1, 1) := by decide +kernel
theorem dX12_hasRun_8 : decode cX12_hasRun 8 = .ok (.i2l, 1) := by decide +kernel
theorem dX12_hasRun_9 : decode cX12_hasRun 9 = .ok (.lconst 0, 1) := by decide +kernel
theorem dX12_hasRun_10 : decode cX12_hasRun 10 = .ok (.lconst 1, 1) := by decide +kernel
theorem dX12_hasRun_11 : decode cX12_hasRun 11 = .ok (.invokestatic 312, 3) := by decide +kernel
theorem dX12_hasRun_14 : decode cX12_hasRun 14 = .ok (.ifCond .eq 29, 3) := by decide +kernel
theorem dX12_hasRun_17 : decode cX12_hasRun 17 = .ok (.iload_n 1, 1) := by decide +kernel
theorem dX12_hasRun_18 : decode cX12_hasRun 18 = .ok (.iconst 1, 1) := by decide +kernel
theorem dX12_hasRun_19 : decode cX12_hasRun 19 = .ok (.if_icmp .ne 11, 3) := by decide +kernel
theorem dX12_hasRun_22 : decode cX12_hasRun 22 = .ok (.aload_n 0, 1) := by decide +kernel
theorem dX12_hasRun_23 : decode cX12_hasRun 23 = .ok (.getfield 358, 3) := by decide +kernel
theorem dX12_hasRun_26 : decode cX12_hasRun 26 = .ok (.iconst (-1), 1) := by decide +kernel
theorem dX12_hasRun_27 : decode cX12_hasRun 27 = .ok (.if_icmp .eq 16, 3) := by decide +kernel
theorem dX12_hasRun_30 : decode cX12_hasRun 30 = .ok (.iload 5, 2) := by decide +kernel
theorem dX12_hasRun_32 : decode cX12_hasRun 32 = .ok (.i2l, 1) := by decide +kernel
theorem dX12_hasRun_33 : decode cX12_hasRun 33 = .ok (.lconst 1, 1) := by decide +kernel
theorem dX12_hasRun_34 : decode cX12_hasRun 34 = .ok (.ldc2_w 752, 3) := by decide +kernel
theorem dX12_hasRun_37 : decode cX12_hasRun 37 = .ok (.invokestatic 312, 3) := by decide +kernel
theorem dX12_hasRun_40 : decode cX12_hasRun 40 = .ok (.ifCond .ne 5, 3) := by decide +kernel
theorem dX12_hasRun_43 : decode cX12_hasRun 43 = .ok (.iconst 0, 1) := by decide +kernel
theorem dX12_hasRun_44 : decode cX12_hasRun 44 = .ok (.ireturn, 1) := by decide +kernel
theorem dX12_hasRun_45 : decode cX12_hasRun 45 = .ok (.aload_n 0, 1) := by decide +kernel
theorem dX12_hasRun_46 : decode cX12_hasRun 46 = .ok (.iload_n 2, 1) := by decide +kernel
theorem dX12_hasRun_47 : decode cX12_hasRun 47 = .ok (.iload_n 3, 1) := by decide +kernel
theorem dX12_hasRun_48 : decode cX12_hasRun 48 = .ok (.iload 4, 2) := by decide +kernel
theorem dX12_hasRun_50 : decode cX12_hasRun 50 = .ok (.iload 5, 2) := by decide +kernel
theorem dX12_hasRun_52 : decode cX12_hasRun 52 = .ok (.invokevirtual 754, 3) := by decide +kernel
theorem dX12_hasRun_55 : decode cX12_hasRun 55 = .ok (.iload_n 1, 1) := by decide +kernel
theorem dX12_hasRun_56 : decode cX12_hasRun 56 = .ok (.ifCond .ne 10, 3) := by decide +kernel
theorem dX12_hasRun_59 : decode cX12_hasRun 59 = .ok (.aload_n 0, 1) := by decide +kernel
theorem dX12_hasRun_60 : decode cX12_hasRun 60 = .ok (.invokevirtual 758, 3) := by decide +kernel
theorem dX12_hasRun_63 : decode cX12_hasRun 63 = .ok (.goto 7, 3) := by decide +kernel
theorem dX12_hasRun_66 : decode cX12_hasRun 66 = .ok (.aload_n 0, 1) := by decide +kernel
theorem dX12_hasRun_67 : decode cX12_hasRun 67 = .ok (.invokevirtual 761, 3) := by decide +kernel
theorem dX12_hasRun_70 : decode cX12_hasRun 70 = .ok (.iconst 1, 1) := by decide +kernel
theorem dX12_hasRun_71 : decode cX12_hasRun 71 = .ok (.ireturn, 1) := by decide +kernel
theorem dX12_run_0 : decode cX12_run 0 = .ok (.aload_n 0, 1) := by decide +kernel
theorem dX12_run_1 : decode cX12_run 1 = .ok (.iconst 0, 1) := by decide +kernel
theorem dX12_run_2 : decode cX12_run 2 = .ok (.putfield 169, 3) := by decide +kernel
theorem dX12_run_5 : decode cX12_run 5 = .ok (.iload 6, 2) := by decide +kernel
theorem dX12_run_7 : decode cX12_run 7 = .ok (.i2l, 1) := by decide +kernel
theorem dX12_run_8 : decode cX12_run 8 = .ok (.lconst 0, 1) := by decide +kernel
theorem dX12_run_9 : decode cX12_run 9 = .ok (.ldc2_w 764, 3) := by decide +kernel
theorem dX12_run_12 : decode cX12_run 12 = .ok (.invokestatic 312, 3) := by decide +kernel
theorem dX12_run_15 : decode cX12_run 15 = .ok (.ifCond .eq 17, 3) := by decide +kernel
theorem dX12_run_18 : decode cX12_run 18 = .ok (.aload_n 0, 1) := by decide +kernel
theorem dX12_run_19 : decode cX12_run 19 = .ok (.iload_n 1, 1) := by decide +kernel
theorem dX12_run_20 : decode cX12_run 20 = .ok (.iload_n 2, 1) := by decide +kernel
theorem dX12_run_21 : decode cX12_run 21 = .ok (.iload_n 3, 1) := by decide +kernel
theorem dX12_run_22 : decode cX12_run 22 = .ok (.iload 4, 2) := by decide +kernel
theorem dX12_run_24 : decode cX12_run 24 = .ok (.iload 5, 2) := by decide +kernel
theorem dX12_run_26 : decode cX12_run 26 = .ok (.invokevirtual 766, 3) := by decide +kernel
theorem dX12_run_29 : decode cX12_run 29 = .ok (.ifCond .ne 7, 3) := by decide +kernel
theorem dX12_run_32 : decode cX12_run 32 = .ok (.ldc_w 614, 3) := by decide +kernel
theorem dX12_run_35 : decode cX12_run 35 = .ok (.ireturn, 1) := by decide +kernel
theorem dX12_run_36 : decode cX12_run 36 = .ok (.iload 6, 2) := by decide +kernel
theorem dX12_run_38 : decode cX12_run 38 = .ok (.tableswitch 92 0 11 #[62, 67, 72, 77, 82, 92, 92, 92, 92, 92, 92, 87], 62) := by decide +kernel
theorem dX12_run_100 : decode cX12_run 100 = .ok (.aload_n 0, 1) := by decide +kernel
theorem dX12_run_101 : decode cX12_run 101 = .ok (.getfield 675, 3) := by decide +kernel
theorem dX12_run_104 : decode cX12_run 104 = .ok (.ireturn, 1) := by decide +kernel
theorem dX12_run_105 : decode cX12_run 105 = .ok (.aload_n 0, 1) := by decide +kernel
theorem dX12_run_106 : decode cX12_run 106 = .ok (.getfield 684, 3) := by decide +kernel
theorem dX12_run_109 : decode cX12_run 109 = .ok (.ireturn, 1) := by decide +kernel
theorem dX12_run_110 : decode cX12_run 110 = .ok (.aload_n 0, 1) := by decide +kernel
theorem dX12_run_111 : decode cX12_run 111 = .ok (.getfield 687, 3) := by decide +kernel
theorem dX12_run_114 : decode cX12_run 114 = .ok (.ireturn, 1) := by decide +kernel
theorem dX12_run_115 : decode cX12_run 115 = .ok (.aload_n 0, 1) := by decide +kernel
theorem dX12_run_116 : decode cX12_run 116 = .ok (.getfield 678, 3) := by decide +kernel
theorem dX12_run_119 : decode cX12_run 119 = .ok (.ireturn, 1) := by decide +kernel
theorem dX12_run_120 : decode cX12_run 120 = .ok (.aload_n 0, 1) := by decide +kernel
theorem dX12_run_121 : decode cX12_run 121 = .ok (.getfield 681, 3) := by decide +kernel
theorem dX12_run_124 : decode cX12_run 124 = .ok (.ireturn, 1) := by decide +kernel
theorem dX12_run_125 : decode cX12_run 125 = .ok (.aload_n 0, 1) := by decide +kernel
theorem dX12_run_126 : decode cX12_run 126 = .ok (.invokevirtual 770, 3) := by decide +kernel
theorem dX12_run_129 : decode cX12_run 129 = .ok (.ireturn, 1) := by decide +kernel
theorem dX12_run_130 : decode cX12_run 130 = .ok (.aload_n 0, 1) := by decide +kernel
theorem dX12_run_131 : decode cX12_run 131 = .ok (.getfield 154, 3) := by decide +kernel
theorem dX12_run_134 : decode cX12_run 134 = .ok (.iload 6, 2) := by decide +kernel
theorem dX12_run_136 : decode cX12_run 136 = .ok (.iconst 5, 1) := by decide +kernel
theorem dX12_run_137 : decode cX12_run 137 = .ok (.isub, 1) := by decide +kernel
theorem dX12_run_138 : decode cX12_run 138 = .ok (.iaload, 1) := by decide +kernel
theorem dX12_run_139 : decode cX12_run 139 = .ok (.ireturn, 1) := by decide +kernel
theorem dX12_output_0 : decode cX12_output 0 = .ok (.aload_n 0, 1) := by decide +kernel
theorem dX12_output_1 : decode cX12_output 1 = .ok (.iconst 0, 1) := by decide +kernel
theorem dX12_output_2 : decode cX12_output 2 = .ok (.putfield 169, 3) := by decide +kernel
theorem dX12_output_5 : decode cX12_output 5 = .ok (.iload 6, 2) := by decide +kernel
theorem dX12_output_7 : decode cX12_output 7 = .ok (.ifCond .lt 36, 3) := by decide +kernel
theorem dX12_output_10 : decode cX12_output 10 = .ok (.aload_n 0, 1) := by decide +kernel
theorem dX12_output_11 : decode cX12_output 11 = .ok (.iload_n 1, 1) := by decide +kernel
theorem dX12_output_12 : decode cX12_output 12 = .ok (.iload_n 2, 1) := by decide +kernel
theorem dX12_output_13 : decode cX12_output 13 = .ok (.iload_n 3, 1) := by decide +kernel
theorem dX12_output_14 : decode cX12_output 14 = .ok (.iload 4, 2) := by decide +kernel
theorem dX12_output_16 : decode cX12_output 16 = .ok (.iload 5, 2) := by decide +kernel
theorem dX12_output_18 : decode cX12_output 18 = .ok (.invokevirtual 766, 3) := by decide +kernel
theorem dX12_output_21 : decode cX12_output 21 = .ok (.ifCond .eq 22, 3) := by decide +kernel
theorem dX12_output_24 : decode cX12_output 24 = .ok (.iload 6, 2) := by decide +kernel
theorem dX12_output_26 : decode cX12_output 26 = .ok (.aload_n 0, 1) := by decide +kernel
theorem dX12_output_27 : decode cX12_output 27 = .ok (.getfield 675, 3) := by decide +kernel
theorem dX12_output_30 : decode cX12_output 30 = .ok (.if_icmp .ge 13, 3) := by decide +kernel
theorem dX12_output_33 : decode cX12_output 33 = .ok (.aload_n 0, 1) := by decide +kernel
theorem dX12_output_34 : decode cX12_output 34 = .ok (.getfield 157, 3) := by decide +kernel
theorem dX12_output_37 : decode cX12_output 37 = .ok (.iload 6, 2) := by decide +kernel
theorem dX12_output_39 : decode cX12_output 39 = .ok (.iaload, 1) := by decide +kernel
theorem dX12_output_40 : decode cX12_output 40 = .ok (.goto 6, 3) := by decide +kernel
theorem dX12_output_43 : decode cX12_output 43 = .ok (.ldc_w 614, 3) := by decide +kernel
theorem dX12_output_46 : decode cX12_output 46 = .ok (.ireturn, 1) := by decide +kernel
theorem dL_instruction_0 : decode cL_instruction 0 = .ok (.aload_n 3, 1) := by decide +kernel
theorem dL_instruction_1 : decode cL_instruction 1 = .ok (.iconst 0, 1) := by decide +kernel
theorem dL_instruction_2 : decode cL_instruction 2 = .ok (.aload_n 0, 1) := by decide +kernel
theorem dL_instruction_3 : decode cL_instruction 3 = .ok (.iload_n 1, 1) := by decide +kernel
theorem dL_instruction_4 : decode cL_instruction 4 = .ok (.iload_n 2, 1) := by decide +kernel
theorem dL_instruction_5 : decode cL_instruction 5 = .ok (.invokevirtual 7, 3) := by decide +kernel
theorem dL_instruction_8 : decode cL_instruction 8 = .ok (.i2l, 1) := by decide +kernel
theorem dL_instruction_9 : decode cL_instruction 9 = .ok (.lastore, 1) := by decide +kernel
theorem dL_instruction_10 : decode cL_instruction 10 = .ok (.goto 7, 3) := by decide +kernel
theorem dL_instruction_13 : decode cL_instruction 13 = .ok (.astore 4, 2) := by decide +kernel
theorem dL_instruction_15 : decode cL_instruction 15 = .ok (.iconst 1, 1) := by decide +kernel
theorem dL_instruction_16 : decode cL_instruction 16 = .ok (.ireturn, 1) := by decide +kernel
theorem dL_instruction_17 : decode cL_instruction 17 = .ok (.iconst 0, 1) := by decide +kernel
theorem dL_instruction_18 : decode cL_instruction 18 = .ok (.ireturn, 1) := by decide +kernel
theorem dL_block_0 : decode cL_block 0 = .ok (.aload_n 3, 1) := by decide +kernel
theorem dL_block_1 : decode cL_block 1 = .ok (.iconst 0, 1) := by decide +kernel
theorem dL_block_2 : decode cL_block 2 = .ok (.aload_n 0, 1) := by decide +kernel
theorem dL_block_3 : decode cL_block 3 = .ok (.iload_n 1, 1) := by decide +kernel
theorem dL_block_4 : decode cL_block 4 = .ok (.iload_n 2, 1) := by decide +kernel
theorem dL_block_5 : decode cL_block 5 = .ok (.invokevirtual 15, 3) := by decide +kernel
theorem dL_block_8 : decode cL_block 8 = .ok (.i2l, 1) := by decide +kernel
theorem dL_block_9 : decode cL_block 9 = .ok (.lastore, 1) := by decide +kernel
theorem dL_block_10 : decode cL_block 10 = .ok (.goto 7, 3) := by decide +kernel
theorem dL_block_13 : decode cL_block 13 = .ok (.astore 4, 2) := by decide +kernel
theorem dL_block_15 : decode cL_block 15 = .ok (.iconst 1, 1) := by decide +kernel
theorem dL_block_16 : decode cL_block 16 = .ok (.ireturn, 1) := by decide +kernel
theorem dL_block_17 : decode cL_block 17 = .ok (.iconst 0, 1) := by decide +kernel
theorem dL_block_18 : decode cL_block 18 = .ok (.ireturn, 1) := by decide +kernel
theorem dL_law_0 : decode cL_law 0 = .ok (.new 8, 3) := by decide +kernel
theorem dL_law_3 : decode cL_law 3 = .ok (.dup, 1) := by decide +kernel
theorem dL_law_4 : decode cL_law 4 = .ok (.invokespecial 18, 3) := by decide +kernel
theorem dL_law_7 : decode cL_law 7 = .ok (.astore_n 1, 1) := by decide +kernel
theorem dL_law_8 : decode cL_law 8 = .ok (.new 19, 3) := by decide +kernel
theorem dL_law_11 : decode cL_law 11 = .ok (.dup, 1) := by decide +kernel
theorem dL_law_12 : decode cL_law 12 = .ok (.invokespecial 21, 3) := by decide +kernel
theorem dL_law_15 : decode cL_law 15 = .ok (.astore_n 2, 1) := by decide +kernel
theorem dL_law_16 : decode cL_law 16 = .ok (.iconst 1, 1) := by decide +kernel
theorem dL_law_17 : decode cL_law 17 = .ok (.newarray .long, 2) := by decide +kernel
theorem dL_law_19 : decode cL_law 19 = .ok (.astore_n 3, 1) := by decide +kernel
theorem dL_law_20 : decode cL_law 20 = .ok (.iconst 0, 1) := by decide +kernel
theorem dL_law_21 : decode cL_law 21 = .ok (.istore 4, 2) := by decide +kernel
theorem dL_law_23 : decode cL_law 23 = .ok (.iload 4, 2) := by decide +kernel
theorem dL_law_25 : decode cL_law 25 = .ok (.aload_n 0, 1) := by decide +kernel
theorem dL_law_26 : decode cL_law 26 = .ok (.arraylength, 1) := by decide +kernel
theorem dL_law_27 : decode cL_law 27 = .ok (.bipush 7, 2) := by decide +kernel
theorem dL_law_29 : decode cL_law 29 = .ok (.isub, 1) := by decide +kernel
theorem dL_law_30 : decode cL_law 30 = .ok (.if_icmp .gt 1009, 3) := by decide +kernel
theorem dL_law_33 : decode cL_law 33 = .ok (.aload_n 0, 1) := by decide +kernel
theorem dL_law_34 : decode cL_law 34 = .ok (.iload 4, 2) := by decide +kernel
theorem dL_law_36 : decode cL_law 36 = .ok (.iaload, 1) := by decide +kernel
theorem dL_law_37 : decode cL_law 37 = .ok (.bipush 31, 2) := by decide +kernel
theorem dL_law_39 : decode cL_law 39 = .ok (.iand, 1) := by decide +kernel
theorem dL_law_40 : decode cL_law 40 = .ok (.tableswitch 993 0 20 #[100, 173, 198, 211, 224, 273, 298, 366, 434, 471, 508, 534, 583, 620, 657, 694, 731, 818, 905, 931, 968], 100) := by decide +kernel
theorem dL_law_140 : decode cL_law 140 = .ok (.aload_n 1, 1) := by decide +kernel
theorem dL_law_141 : decode cL_law 141 = .ok (.aload_n 0, 1) := by decide +kernel
theorem dL_law_142 : decode cL_law 142 = .ok (.iload 4, 2) := by decide +kernel
theorem dL_law_144 : decode cL_law 144 = .ok (.iconst 1, 1) := by decide +kernel
theorem dL_law_145 : decode cL_law 145 = .ok (.iadd, 1) := by decide +kernel
theorem dL_law_146 : decode cL_law 146 = .ok (.iaload, 1) := by decide +kernel
theorem dL_law_147 : decode cL_law 147 = .ok (.aload_n 0, 1) := by decide +kernel
theorem dL_law_148 : decode cL_law 148 = .ok (.iload 4, 2) := by decide +kernel
theorem dL_law_150 : decode cL_law 150 = .ok (.iconst 2, 1) := by decide +kernel
theorem dL_law_151 : decode cL_law 151 = .ok (.iadd, 1) := by decide +kernel
theorem dL_law_152 : decode cL_law 152 = .ok (.iaload, 1) := by decide +kernel
theorem dL_law_153 : decode cL_law 153 = .ok (.aload_n 0, 1) := by decide +kernel
theorem dL_law_154 : decode cL_law 154 = .ok (.iload 4, 2) := by decide +kernel
theorem dL_law_156 : decode cL_law 156 = .ok (.iconst 3, 1) := by decide +kernel
theorem dL_law_157 : decode cL_law 157 = .ok (.iadd, 1) := by decide +kernel
theorem dL_law_158 : decode cL_law 158 = .ok (.iaload, 1) := by decide +kernel
theorem dL_law_159 : decode cL_law 159 = .ok (.aload_n 0, 1) := by decide +kernel
theorem dL_law_160 : decode cL_law 160 = .ok (.iload 4, 2) := by decide +kernel
theorem dL_law_162 : decode cL_law 162 = .ok (.iconst 4, 1) := by decide +kernel
theorem dL_law_163 : decode cL_law 163 = .ok (.iadd, 1) := by decide +kernel
theorem dL_law_164 : decode cL_law 164 = .ok (.iaload, 1) := by decide +kernel
theorem dL_law_165 : decode cL_law 165 = .ok (.aload_n 0, 1) := by decide +kernel
theorem dL_law_166 : decode cL_law 166 = .ok (.iload 4, 2) := by decide +kernel
theorem dL_law_168 : decode cL_law 168 = .ok (.iconst 5, 1) := by decide +kernel
theorem dL_law_169 : decode cL_law 169 = .ok (.iadd, 1) := by decide +kernel
theorem dL_law_170 : decode cL_law 170 = .ok (.iaload, 1) := by decide +kernel
theorem dL_law_171 : decode cL_law 171 = .ok (.invokevirtual 22, 3) := by decide +kernel
theorem dL_law_174 : decode cL_law 174 = .ok (.aload_n 2, 1) := by decide +kernel
theorem dL_law_175 : decode cL_law 175 = .ok (.aload_n 0, 1) := by decide +kernel
theorem dL_law_176 : decode cL_law 176 = .ok (.iload 4, 2) := by decide +kernel
theorem dL_law_178 : decode cL_law 178 = .ok (.iconst 1, 1) := by decide +kernel
theorem dL_law_179 : decode cL_law 179 = .ok (.iadd, 1) := by decide +kernel
theorem dL_law_180 : decode cL_law 180 = .ok (.iaload, 1) := by decide +kernel
theorem dL_law_181 : decode cL_law 181 = .ok (.aload_n 0, 1) := by decide +kernel
theorem dL_law_182 : decode cL_law 182 = .ok (.iload 4, 2) := by decide +kernel
theorem dL_law_184 : decode cL_law 184 = .ok (.iconst 2, 1) := by decide +kernel
theorem dL_law_185 : decode cL_law 185 = .ok (.iadd, 1) := by decide +kernel
theorem dL_law_186 : decode cL_law 186 = .ok (.iaload, 1) := by decide +kernel
theorem dL_law_187 : decode cL_law 187 = .ok (.aload_n 0, 1) := by decide +kernel
theorem dL_law_188 : decode cL_law 188 = .ok (.iload 4, 2) := by decide +kernel
theorem dL_law_190 : decode cL_law 190 = .ok (.iconst 3, 1) := by decide +kernel
theorem dL_law_191 : decode cL_law 191 = .ok (.iadd, 1) := by decide +kernel
theorem dL_law_192 : decode cL_law 192 = .ok (.iaload, 1) := by decide +kernel
theorem dL_law_193 : decode cL_law 193 = .ok (.aload_n 0, 1) := by decide +kernel
theorem dL_law_194 : decode cL_law 194 = .ok (.iload 4, 2) := by decide +kernel
theorem dL_law_196 : decode cL_law 196 = .ok (.iconst 4, 1) := by decide +kernel
theorem dL_law_197 : decode cL_law 197 = .ok (.iadd, 1) := by decide +kernel
theorem dL_law_198 : decode cL_law 198 = .ok (.iaload, 1) := by decide +kernel
theorem dL_law_199 : decode cL_law 199 = .ok (.aload_n 0, 1) := by decide +kernel
theorem dL_law_200 : decode cL_law 200 = .ok (.iload 4, 2) := by decide +kernel
theorem dL_law_202 : decode cL_law 202 = .ok (.iconst 5, 1) := by decide +kernel
theorem dL_law_203 : decode cL_law 203 = .ok (.iadd, 1) := by decide +kernel
theorem dL_law_204 : decode cL_law 204 = .ok (.iaload, 1) := by decide +kernel
theorem dL_law_205 : decode cL_law 205 = .ok (.invokevirtual 26, 3) := by decide +kernel
theorem dL_law_208 : decode cL_law 208 = .ok (.if_icmp .eq 825, 3) := by decide +kernel
theorem dL_law_211 : decode cL_law 211 = .ok (.iconst 0, 1) := by decide +kernel
theorem dL_law_212 : decode cL_law 212 = .ok (.ireturn, 1) := by decide +kernel
theorem dL_law_213 : decode cL_law 213 = .ok (.aload_n 1, 1) := by decide +kernel
theorem dL_law_214 : decode cL_law 214 = .ok (.aload_n 0, 1) := by decide +kernel
theorem dL_law_215 : decode cL_law 215 = .ok (.iload 4, 2) := by decide +kernel
theorem dL_law_217 : decode cL_law 217 = .ok (.iconst 1, 1) := by decide +kernel
theorem dL_law_218 : decode cL_law 218 = .ok (.iadd, 1) := by decide +kernel
theorem dL_law_219 : decode cL_law 219 = .ok (.iaload, 1) := by decide +kernel
theorem dL_law_220 : decode cL_law 220 = .ok (.invokevirtual 27, 3) := by decide +kernel
theorem dL_law_223 : decode cL_law 223 = .ok (.aload_n 2, 1) := by decide +kernel
theorem dL_law_224 : decode cL_law 224 = .ok (.aload_n 0, 1) := by decide +kernel
theorem dL_law_225 : decode cL_law 225 = .ok (.iload 4, 2) := by decide +kernel
theorem dL_law_227 : decode cL_law 227 = .ok (.iconst 1, 1) := by decide +kernel
theorem dL_law_228 : decode cL_law 228 = .ok (.iadd, 1) := by decide +kernel
theorem dL_law_229 : decode cL_law 229 = .ok (.iaload, 1) := by decide +kernel
theorem dL_law_230 : decode cL_law 230 = .ok (.invokevirtual 31, 3) := by decide +kernel
theorem dL_law_233 : decode cL_law 233 = .ok (.if_icmp .eq 800, 3) := by decide +kernel
theorem dL_law_236 : decode cL_law 236 = .ok (.iconst 0, 1) := by decide +kernel
theorem dL_law_237 : decode cL_law 237 = .ok (.ireturn, 1) := by decide +kernel
theorem dL_law_238 : decode cL_law 238 = .ok (.aload_n 1, 1) := by decide +kernel
theorem dL_law_239 : decode cL_law 239 = .ok (.invokevirtual 32, 3) := by decide +kernel
theorem dL_law_242 : decode cL_law 242 = .ok (.aload_n 2, 1) := by decide +kernel
theorem dL_law_243 : decode cL_law 243 = .ok (.invokevirtual 36, 3) := by decide +kernel
theorem dL_law_246 : decode cL_law 246 = .ok (.if_icmp .eq 787, 3) := by decide +kernel
theorem dL_law_249 : decode cL_law 249 = .ok (.iconst 0, 1) := by decide +kernel
theorem dL_law_250 : decode cL_law 250 = .ok (.ireturn, 1) := by decide +kernel
theorem dL_law_251 : decode cL_law 251 = .ok (.aload_n 1, 1) := by decide +kernel
theorem dL_law_252 : decode cL_law 252 = .ok (.invokevirtual 37, 3) := by decide +kernel
theorem dL_law_255 : decode cL_law 255 = .ok (.aload_n 2, 1) := by decide +kernel
theorem dL_law_256 : decode cL_law 256 = .ok (.invokevirtual 40, 3) := by decide +kernel
theorem dL_law_259 : decode cL_law 259 = .ok (.if_icmp .eq 774, 3) := by decide +kernel
theorem dL_law_262 : decode cL_law 262 = .ok (.iconst 0, 1) := by decide +kernel
theorem dL_law_263 : decode cL_law 263 = .ok (.ireturn, 1) := by decide +kernel
theorem dL_law_264 : decode cL_law 264 = .ok (.aload_n 1, 1) := by decide +kernel
theorem dL_law_265 : decode cL_law 265 = .ok (.aload_n 0, 1) := by decide +kernel
theorem dL_law_266 : decode cL_law 266 = .ok (.iload 4, 2) := by decide +kernel
theorem dL_law_268 : decode cL_law 268 = .ok (.iconst 1, 1) := by decide +kernel
theorem dL_law_269 : decode cL_law 269 = .ok (.iadd, 1) := by decide +kernel
theorem dL_law_270 : decode cL_law 270 = .ok (.iaload, 1) := by decide +kernel
theorem dL_law_271 : decode cL_law 271 = .ok (.aload_n 0, 1) := by decide +kernel
theorem dL_law_272 : decode cL_law 272 = .ok (.iload 4, 2) := by decide +kernel
theorem dL_law_274 : decode cL_law 274 = .ok (.iconst 2, 1) := by decide +kernel
theorem dL_law_275 : decode cL_law 275 = .ok (.iadd, 1) := by decide +kernel
theorem dL_law_276 : decode cL_law 276 = .ok (.iaload, 1) := by decide +kernel
theorem dL_law_277 : decode cL_law 277 = .ok (.aload_n 0, 1) := by decide +kernel
theorem dL_law_278 : decode cL_law 278 = .ok (.iload 4, 2) := by decide +kernel
theorem dL_law_280 : decode cL_law 280 = .ok (.iconst 3, 1) := by decide +kernel
theorem dL_law_281 : decode cL_law 281 = .ok (.iadd, 1) := by decide +kernel
theorem dL_law_282 : decode cL_law 282 = .ok (.iaload, 1) := by decide +kernel
theorem dL_law_283 : decode cL_law 283 = .ok (.invokevirtual 41, 3) := by decide +kernel
theorem dL_law_286 : decode cL_law 286 = .ok (.aload_n 2, 1) := by decide +kernel
theorem dL_law_287 : decode cL_law 287 = .ok (.aload_n 0, 1) := by decide +kernel
theorem dL_law_288 : decode cL_law 288 = .ok (.iload 4, 2) := by decide +kernel
theorem dL_law_290 : decode cL_law 290 = .ok (.iconst 1, 1) := by decide +kernel
theorem dL_law_291 : decode cL_law 291 = .ok (.iadd, 1) := by decide +kernel
theorem dL_law_292 : decode cL_law 292 = .ok (.iaload, 1) := by decide +kernel
theorem dL_law_293 : decode cL_law 293 = .ok (.aload_n 0, 1) := by decide +kernel
theorem dL_law_294 : decode cL_law 294 = .ok (.iload 4, 2) := by decide +kernel
theorem dL_law_296 : decode cL_law 296 = .ok (.iconst 2, 1) := by decide +kernel
theorem dL_law_297 : decode cL_law 297 = .ok (.iadd, 1) := by decide +kernel
theorem dL_law_298 : decode cL_law 298 = .ok (.iaload, 1) := by decide +kernel
theorem dL_law_299 : decode cL_law 299 = .ok (.aload_n 0, 1) := by decide +kernel
theorem dL_law_300 : decode cL_law 300 = .ok (.iload 4, 2) := by decide +kernel
theorem dL_law_302 : decode cL_law 302 = .ok (.iconst 3, 1) := by decide +kernel
theorem dL_law_303 : decode cL_law 303 = .ok (.iadd, 1) := by decide +kernel
theorem dL_law_304 : decode cL_law 304 = .ok (.iaload, 1) := by decide +kernel
theorem dL_law_305 : decode cL_law 305 = .ok (.invokevirtual 45, 3) := by decide +kernel
theorem dL_law_308 : decode cL_law 308 = .ok (.if_icmp .eq 725, 3) := by decide +kernel
theorem dL_law_311 : decode cL_law 311 = .ok (.iconst 0, 1) := by decide +kernel
theorem dL_law_312 : decode cL_law 312 = .ok (.ireturn, 1) := by decide +kernel
theorem dL_law_313 : decode cL_law 313 = .ok (.aload_n 1, 1) := by decide +kernel
theorem dL_law_314 : decode cL_law 314 = .ok (.aload_n 0, 1) := by decide +kernel
theorem dL_law_315 : decode cL_law 315 = .ok (.iload 4, 2) := by decide +kernel
theorem dL_law_317 : decode cL_law 317 = .ok (.iconst 1, 1) := by decide +kernel
theorem dL_law_318 : decode cL_law 318 = .ok (.iadd, 1) := by decide +kernel
theorem dL_law_319 : decode cL_law 319 = .ok (.iaload, 1) := by decide +kernel
theorem dL_law_320 : decode cL_law 320 = .ok (.invokevirtual 46, 3) := by decide +kernel
theorem dL_law_323 : decode cL_law 323 = .ok (.aload_n 2, 1) := by decide +kernel
theorem dL_law_324 : decode cL_law 324 = .ok (.aload_n 0, 1) := by decide +kernel
theorem dL_law_325 : decode cL_law 325 = .ok (.iload 4, 2) := by decide +kernel
theorem dL_law_327 : decode cL_law 327 = .ok (.iconst 1, 1) := by decide +kernel
theorem dL_law_328 : decode cL_law 328 = .ok (.iadd, 1) := by decide +kernel
theorem dL_law_329 : decode cL_law 329 = .ok (.iaload, 1) := by decide +kernel
theorem dL_law_330 : decode cL_law 330 = .ok (.invokevirtual 50, 3) := by decide +kernel
theorem dL_law_333 : decode cL_law 333 = .ok (.if_icmp .eq 700, 3) := by decide +kernel
theorem dL_law_336 : decode cL_law 336 = .ok (.iconst 0, 1) := by decide +kernel
theorem dL_law_337 : decode cL_law 337 = .ok (.ireturn, 1) := by decide +kernel
theorem dL_law_338 : decode cL_law 338 = .ok (.aload_n 1, 1) := by decide +kernel
theorem dL_law_339 : decode cL_law 339 = .ok (.aload_n 0, 1) := by decide +kernel
theorem dL_law_340 : decode cL_law 340 = .ok (.iload 4, 2) := by decide +kernel
theorem dL_law_342 : decode cL_law 342 = .ok (.iconst 1, 1) := by decide +kernel
theorem dL_law_343 : decode cL_law 343 = .ok (.iadd, 1) := by decide +kernel
theorem dL_law_344 : decode cL_law 344 = .ok (.iaload, 1) := by decide +kernel
theorem dL_law_345 : decode cL_law 345 = .ok (.aload_n 0, 1) := by decide +kernel
theorem dL_law_346 : decode cL_law 346 = .ok (.iload 4, 2) := by decide +kernel
theorem dL_law_348 : decode cL_law 348 = .ok (.iconst 2, 1) := by decide +kernel
theorem dL_law_349 : decode cL_law 349 = .ok (.iadd, 1) := by decide +kernel
theorem dL_law_350 : decode cL_law 350 = .ok (.iaload, 1) := by decide +kernel
theorem dL_law_351 : decode cL_law 351 = .ok (.aload_n 3, 1) := by decide +kernel
theorem dL_law_352 : decode cL_law 352 = .ok (.invokestatic 51, 3) := by decide +kernel
theorem dL_law_355 : decode cL_law 355 = .ok (.istore 5, 2) := by decide +kernel
theorem dL_law_357 : decode cL_law 357 = .ok (.aload_n 2, 1) := by decide +kernel
theorem dL_law_358 : decode cL_law 358 = .ok (.aload_n 0, 1) := by decide +kernel
theorem dL_law_359 : decode cL_law 359 = .ok (.iload 4, 2) := by decide +kernel
theorem dL_law_361 : decode cL_law 361 = .ok (.iconst 1, 1) := by decide +kernel
theorem dL_law_362 : decode cL_law 362 = .ok (.iadd, 1) := by decide +kernel
theorem dL_law_363 : decode cL_law 363 = .ok (.iaload, 1) := by decide +kernel
theorem dL_law_364 : decode cL_law 364 = .ok (.aload_n 0, 1) := by decide +kernel
theorem dL_law_365 : decode cL_law 365 = .ok (.iload 4, 2) := by decide +kernel
theorem dL_law_367 : decode cL_law 367 = .ok (.iconst 2, 1) := by decide +kernel
theorem dL_law_368 : decode cL_law 368 = .ok (.iadd, 1) := by decide +kernel
theorem dL_law_369 : decode cL_law 369 = .ok (.iaload, 1) := by decide +kernel
theorem dL_law_370 : decode cL_law 370 = .ok (.invokevirtual 56, 3) := by decide +kernel
theorem dL_law_373 : decode cL_law 373 = .ok (.istore 6, 2) := by decide +kernel
theorem dL_law_375 : decode cL_law 375 = .ok (.aload_n 2, 1) := by decide +kernel
theorem dL_law_376 : decode cL_law 376 = .ok (.invokevirtual 57, 3) := by decide +kernel
theorem dL_law_379 : decode cL_law 379 = .ok (.iload 5, 2) := by decide +kernel
theorem dL_law_381 : decode cL_law 381 = .ok (.if_icmp .eq 5, 3) := by decide +kernel
theorem dL_law_384 : decode cL_law 384 = .ok (.iconst 0, 1) := by decide +kernel
theorem dL_law_385 : decode cL_law 385 = .ok (.ireturn, 1) := by decide +kernel
theorem dL_law_386 : decode cL_law 386 = .ok (.iload 5, 2) := by decide +kernel
theorem dL_law_388 : decode cL_law 388 = .ok (.ifCond .ne 15, 3) := by decide +kernel
theorem dL_law_391 : decode cL_law 391 = .ok (.aload_n 3, 1) := by decide +kernel
theorem dL_law_392 : decode cL_law 392 = .ok (.iconst 0, 1) := by decide +kernel
theorem dL_law_393 : decode cL_law 393 = .ok (.laload, 1) := by decide +kernel
theorem dL_law_394 : decode cL_law 394 = .ok (.iload 6, 2) := by decide +kernel
theorem dL_law_396 : decode cL_law 396 = .ok (.i2l, 1) := by decide +kernel
theorem dL_law_397 : decode cL_law 397 = .ok (.lcmp, 1) := by decide +kernel
theorem dL_law_398 : decode cL_law 398 = .ok (.ifCond .eq 5, 3) := by decide +kernel
theorem dL_law_401 : decode cL_law 401 = .ok (.iconst 0, 1) := by decide +kernel
theorem dL_law_402 : decode cL_law 402 = .ok (.ireturn, 1) := by decide +kernel
theorem dL_law_403 : decode cL_law 403 = .ok (.goto 630, 3) := by decide +kernel
theorem dL_law_406 : decode cL_law 406 = .ok (.aload_n 1, 1) := by decide +kernel
theorem dL_law_407 : decode cL_law 407 = .ok (.aload_n 0, 1) := by decide +kernel
theorem dL_law_408 : decode cL_law 408 = .ok (.iload 4, 2) := by decide +kernel
theorem dL_law_410 : decode cL_law 410 = .ok (.iconst 1, 1) := by decide +kernel
theorem dL_law_411 : decode cL_law 411 = .ok (.iadd, 1) := by decide +kernel
theorem dL_law_412 : decode cL_law 412 = .ok (.iaload, 1) := by decide +kernel
theorem dL_law_413 : decode cL_law 413 = .ok (.aload_n 0, 1) := by decide +kernel
theorem dL_law_414 : decode cL_law 414 = .ok (.iload 4, 2) := by decide +kernel
theorem dL_law_416 : decode cL_law 416 = .ok (.iconst 2, 1) := by decide +kernel
theorem dL_law_417 : decode cL_law 417 = .ok (.iadd, 1) := by decide +kernel
theorem dL_law_418 : decode cL_law 418 = .ok (.iaload, 1) := by decide +kernel
theorem dL_law_419 : decode cL_law 419 = .ok (.aload_n 3, 1) := by decide +kernel
theorem dL_law_420 : decode cL_law 420 = .ok (.invokestatic 60, 3) := by decide +kernel
theorem dL_law_423 : decode cL_law 423 = .ok (.istore 5, 2) := by decide +kernel
theorem dL_law_425 : decode cL_law 425 = .ok (.aload_n 2, 1) := by decide +kernel
theorem dL_law_426 : decode cL_law 426 = .ok (.aload_n 0, 1) := by decide +kernel
theorem dL_law_427 : decode cL_law 427 = .ok (.iload 4, 2) := by decide +kernel
theorem dL_law_429 : decode cL_law 429 = .ok (.iconst 1, 1) := by decide +kernel
theorem dL_law_430 : decode cL_law 430 = .ok (.iadd, 1) := by decide +kernel
theorem dL_law_431 : decode cL_law 431 = .ok (.iaload, 1) := by decide +kernel
theorem dL_law_432 : decode cL_law 432 = .ok (.aload_n 0, 1) := by decide +kernel
theorem dL_law_433 : decode cL_law 433 = .ok (.iload 4, 2) := by decide +kernel
theorem dL_law_435 : decode cL_law 435 = .ok (.iconst 2, 1) := by decide +kernel
theorem dL_law_436 : decode cL_law 436 = .ok (.iadd, 1) := by decide +kernel
theorem dL_law_437 : decode cL_law 437 = .ok (.iaload, 1) := by decide +kernel
theorem dL_law_438 : decode cL_law 438 = .ok (.invokevirtual 62, 3) := by decide +kernel
theorem dL_law_441 : decode cL_law 441 = .ok (.istore 6, 2) := by decide +kernel
theorem dL_law_443 : decode cL_law 443 = .ok (.aload_n 2, 1) := by decide +kernel
theorem dL_law_444 : decode cL_law 444 = .ok (.invokevirtual 57, 3) := by decide +kernel
theorem dL_law_447 : decode cL_law 447 = .ok (.iload 5, 2) := by decide +kernel
theorem dL_law_449 : decode cL_law 449 = .ok (.if_icmp .eq 5, 3) := by decide +kernel
theorem dL_law_452 : decode cL_law 452 = .ok (.iconst 0, 1) := by decide +kernel
theorem dL_law_453 : decode cL_law 453 = .ok (.ireturn, 1) := by decide +kernel
theorem dL_law_454 : decode cL_law 454 = .ok (.iload 5, 2) := by decide +kernel
theorem dL_law_456 : decode cL_law 456 = .ok (.ifCond .ne 15, 3) := by decide +kernel
theorem dL_law_459 : decode cL_law 459 = .ok (.aload_n 3, 1) := by decide +kernel
theorem dL_law_460 : decode cL_law 460 = .ok (.iconst 0, 1) := by decide +kernel
theorem dL_law_461 : decode cL_law 461 = .ok (.laload, 1) := by decide +kernel
theorem dL_law_462 : decode cL_law 462 = .ok (.iload 6, 2) := by decide +kernel
theorem dL_law_464 : decode cL_law 464 = .ok (.i2l, 1) := by decide +kernel
theorem dL_law_465 : decode cL_law 465 = .ok (.lcmp, 1) := by decide +kernel
theorem dL_law_466 : decode cL_law 466 = .ok (.ifCond .eq 5, 3) := by decide +kernel
theorem dL_law_469 : decode cL_law 469 = .ok (.iconst 0, 1) := by decide +kernel
theorem dL_law_470 : decode cL_law 470 = .ok (.ireturn, 1) := by decide +kernel
theorem dL_law_471 : decode cL_law 471 = .ok (.goto 562, 3) := by decide +kernel
theorem dL_law_474 : decode cL_law 474 = .ok (.aload_n 1, 1) := by decide +kernel
theorem dL_law_475 : decode cL_law 475 = .ok (.aload_n 0, 1) := by decide +kernel
theorem dL_law_476 : decode cL_law 476 = .ok (.iload 4, 2) := by decide +kernel
theorem dL_law_478 : decode cL_law 478 = .ok (.iconst 1, 1) := by decide +kernel
theorem dL_law_479 : decode cL_law 479 = .ok (.iadd, 1) := by decide +kernel
theorem dL_law_480 : decode cL_law 480 = .ok (.iaload, 1) := by decide +kernel
theorem dL_law_481 : decode cL_law 481 = .ok (.aload_n 0, 1) := by decide +kernel
theorem dL_law_482 : decode cL_law 482 = .ok (.iload 4, 2) := by decide +kernel
theorem dL_law_484 : decode cL_law 484 = .ok (.iconst 2, 1) := by decide +kernel
theorem dL_law_485 : decode cL_law 485 = .ok (.iadd, 1) := by decide +kernel
theorem dL_law_486 : decode cL_law 486 = .ok (.iaload, 1) := by decide +kernel
theorem dL_law_487 : decode cL_law 487 = .ok (.invokevirtual 63, 3) := by decide +kernel
theorem dL_law_490 : decode cL_law 490 = .ok (.aload_n 2, 1) := by decide +kernel
theorem dL_law_491 : decode cL_law 491 = .ok (.aload_n 0, 1) := by decide +kernel
theorem dL_law_492 : decode cL_law 492 = .ok (.iload 4, 2) := by decide +kernel
theorem dL_law_494 : decode cL_law 494 = .ok (.iconst 1, 1) := by decide +kernel
theorem dL_law_495 : decode cL_law 495 = .ok (.iadd, 1) := by decide +kernel
theorem dL_law_496 : decode cL_law 496 = .ok (.iaload, 1) := by decide +kernel
theorem dL_law_497 : decode cL_law 497 = .ok (.aload_n 0, 1) := by decide +kernel
theorem dL_law_498 : decode cL_law 498 = .ok (.iload 4, 2) := by decide +kernel
theorem dL_law_500 : decode cL_law 500 = .ok (.iconst 2, 1) := by decide +kernel
theorem dL_law_501 : decode cL_law 501 = .ok (.iadd, 1) := by decide +kernel
theorem dL_law_502 : decode cL_law 502 = .ok (.iaload, 1) := by decide +kernel
theorem dL_law_503 : decode cL_law 503 = .ok (.invokevirtual 66, 3) := by decide +kernel
theorem dL_law_506 : decode cL_law 506 = .ok (.if_icmp .eq 527, 3) := by decide +kernel
theorem dL_law_509 : decode cL_law 509 = .ok (.iconst 0, 1) := by decide +kernel
theorem dL_law_510 : decode cL_law 510 = .ok (.ireturn, 1) := by decide +kernel
theorem dL_law_511 : decode cL_law 511 = .ok (.aload_n 1, 1) := by decide +kernel
theorem dL_law_512 : decode cL_law 512 = .ok (.aload_n 0, 1) := by decide +kernel
theorem dL_law_513 : decode cL_law 513 = .ok (.iload 4, 2) := by decide +kernel
theorem dL_law_515 : decode cL_law 515 = .ok (.iconst 1, 1) := by decide +kernel
theorem dL_law_516 : decode cL_law 516 = .ok (.iadd, 1) := by decide +kernel
theorem dL_law_517 : decode cL_law 517 = .ok (.iaload, 1) := by decide +kernel
theorem dL_law_518 : decode cL_law 518 = .ok (.aload_n 0, 1) := by decide +kernel
theorem dL_law_519 : decode cL_law 519 = .ok (.iload 4, 2) := by decide +kernel
theorem dL_law_521 : decode cL_law 521 = .ok (.iconst 2, 1) := by decide +kernel
theorem dL_law_522 : decode cL_law 522 = .ok (.iadd, 1) := by decide +kernel
theorem dL_law_523 : decode cL_law 523 = .ok (.iaload, 1) := by decide +kernel
theorem dL_law_524 : decode cL_law 524 = .ok (.invokevirtual 67, 3) := by decide +kernel
theorem dL_law_527 : decode cL_law 527 = .ok (.aload_n 2, 1) := by decide +kernel
theorem dL_law_528 : decode cL_law 528 = .ok (.aload_n 0, 1) := by decide +kernel
theorem dL_law_529 : decode cL_law 529 = .ok (.iload 4, 2) := by decide +kernel
theorem dL_law_531 : decode cL_law 531 = .ok (.iconst 1, 1) := by decide +kernel
theorem dL_law_532 : decode cL_law 532 = .ok (.iadd, 1) := by decide +kernel
theorem dL_law_533 : decode cL_law 533 = .ok (.iaload, 1) := by decide +kernel
theorem dL_law_534 : decode cL_law 534 = .ok (.aload_n 0, 1) := by decide +kernel
theorem dL_law_535 : decode cL_law 535 = .ok (.iload 4, 2) := by decide +kernel
theorem dL_law_537 : decode cL_law 537 = .ok (.iconst 2, 1) := by decide +kernel
theorem dL_law_538 : decode cL_law 538 = .ok (.iadd, 1) := by decide +kernel
theorem dL_law_539 : decode cL_law 539 = .ok (.iaload, 1) := by decide +kernel
theorem dL_law_540 : decode cL_law 540 = .ok (.invokevirtual 71, 3) := by decide +kernel
theorem dL_law_543 : decode cL_law 543 = .ok (.if_icmp .eq 490, 3) := by decide +kernel
theorem dL_law_546 : decode cL_law 546 = .ok (.iconst 0, 1) := by decide +kernel
theorem dL_law_547 : decode cL_law 547 = .ok (.ireturn, 1) := by decide +kernel
theorem dL_law_548 : decode cL_law 548 = .ok (.aload_n 1, 1) := by decide +kernel
theorem dL_law_549 : decode cL_law 549 = .ok (.aload_n 0, 1) := by decide +kernel
theorem dL_law_550 : decode cL_law 550 = .ok (.iload 4, 2) := by decide +kernel
theorem dL_law_552 : decode cL_law 552 = .ok (.iconst 1, 1) := by decide +kernel
theorem dL_law_553 : decode cL_law 553 = .ok (.iadd, 1) := by decide +kernel
theorem dL_law_554 : decode cL_law 554 = .ok (.iaload, 1) := by decide +kernel
theorem dL_law_555 : decode cL_law 555 = .ok (.invokevirtual 72, 3) := by decide +kernel
theorem dL_law_558 : decode cL_law 558 = .ok (.aload_n 2, 1) := by decide +kernel
theorem dL_law_559 : decode cL_law 559 = .ok (.aload_n 0, 1) := by decide +kernel
theorem dL_law_560 : decode cL_law 560 = .ok (.iload 4, 2) := by decide +kernel
theorem dL_law_562 : decode cL_law 562 = .ok (.iconst 1, 1) := by decide +kernel
theorem dL_law_563 : decode cL_law 563 = .ok (.iadd, 1) := by decide +kernel
theorem dL_law_564 : decode cL_law 564 = .ok (.iaload, 1) := by decide +kernel
theorem dL_law_565 : decode cL_law 565 = .ok (.invokevirtual 76, 3) := by decide +kernel
theorem dL_law_568 : decode cL_law 568 = .ok (.lcmp, 1) := by decide +kernel
theorem dL_law_569 : decode cL_law 569 = .ok (.ifCond .eq 464, 3) := by decide +kernel
theorem dL_law_572 : decode cL_law 572 = .ok (.iconst 0, 1) := by decide +kernel
theorem dL_law_573 : decode cL_law 573 = .ok (.ireturn, 1) := by decide +kernel
theorem dL_law_574 : decode cL_law 574 = .ok (.aload_n 1, 1) := by decide +kernel
theorem dL_law_575 : decode cL_law 575 = .ok (.aload_n 0, 1) := by decide +kernel
theorem dL_law_576 : decode cL_law 576 = .ok (.iload 4, 2) := by decide +kernel
theorem dL_law_578 : decode cL_law 578 = .ok (.iconst 1, 1) := by decide +kernel
theorem dL_law_579 : decode cL_law 579 = .ok (.iadd, 1) := by decide +kernel
theorem dL_law_580 : decode cL_law 580 = .ok (.iaload, 1) := by decide +kernel
theorem dL_law_581 : decode cL_law 581 = .ok (.aload_n 0, 1) := by decide +kernel
theorem dL_law_582 : decode cL_law 582 = .ok (.iload 4, 2) := by decide +kernel
theorem dL_law_584 : decode cL_law 584 = .ok (.iconst 2, 1) := by decide +kernel
theorem dL_law_585 : decode cL_law 585 = .ok (.iadd, 1) := by decide +kernel
theorem dL_law_586 : decode cL_law 586 = .ok (.iaload, 1) := by decide +kernel
theorem dL_law_587 : decode cL_law 587 = .ok (.aload_n 0, 1) := by decide +kernel
theorem dL_law_588 : decode cL_law 588 = .ok (.iload 4, 2) := by decide +kernel
theorem dL_law_590 : decode cL_law 590 = .ok (.iconst 3, 1) := by decide +kernel
theorem dL_law_591 : decode cL_law 591 = .ok (.iadd, 1) := by decide +kernel
theorem dL_law_592 : decode cL_law 592 = .ok (.iaload, 1) := by decide +kernel
theorem dL_law_593 : decode cL_law 593 = .ok (.invokevirtual 77, 3) := by decide +kernel
theorem dL_law_596 : decode cL_law 596 = .ok (.aload_n 2, 1) := by decide +kernel
theorem dL_law_597 : decode cL_law 597 = .ok (.aload_n 0, 1) := by decide +kernel
theorem dL_law_598 : decode cL_law 598 = .ok (.iload 4, 2) := by decide +kernel
theorem dL_law_600 : decode cL_law 600 = .ok (.iconst 1, 1) := by decide +kernel
theorem dL_law_601 : decode cL_law 601 = .ok (.iadd, 1) := by decide +kernel
theorem dL_law_602 : decode cL_law 602 = .ok (.iaload, 1) := by decide +kernel
theorem dL_law_603 : decode cL_law 603 = .ok (.aload_n 0, 1) := by decide +kernel
theorem dL_law_604 : decode cL_law 604 = .ok (.iload 4, 2) := by decide +kernel
theorem dL_law_606 : decode cL_law 606 = .ok (.iconst 2, 1) := by decide +kernel
theorem dL_law_607 : decode cL_law 607 = .ok (.iadd, 1) := by decide +kernel
theorem dL_law_608 : decode cL_law 608 = .ok (.iaload, 1) := by decide +kernel
theorem dL_law_609 : decode cL_law 609 = .ok (.aload_n 0, 1) := by decide +kernel
theorem dL_law_610 : decode cL_law 610 = .ok (.iload 4, 2) := by decide +kernel
theorem dL_law_612 : decode cL_law 612 = .ok (.iconst 3, 1) := by decide +kernel
theorem dL_law_613 : decode cL_law 613 = .ok (.iadd, 1) := by decide +kernel
theorem dL_law_614 : decode cL_law 614 = .ok (.iaload, 1) := by decide +kernel
theorem dL_law_615 : decode cL_law 615 = .ok (.invokevirtual 80, 3) := by decide +kernel
theorem dL_law_618 : decode cL_law 618 = .ok (.if_icmp .eq 415, 3) := by decide +kernel
theorem dL_law_621 : decode cL_law 621 = .ok (.iconst 0, 1) := by decide +kernel
theorem dL_law_622 : decode cL_law 622 = .ok (.ireturn, 1) := by decide +kernel
theorem dL_law_623 : decode cL_law 623 = .ok (.aload_n 1, 1) := by decide +kernel
theorem dL_law_624 : decode cL_law 624 = .ok (.aload_n 0, 1) := by decide +kernel
theorem dL_law_625 : decode cL_law 625 = .ok (.iload 4, 2) := by decide +kernel
theorem dL_law_627 : decode cL_law 627 = .ok (.iconst 1, 1) := by decide +kernel
theorem dL_law_628 : decode cL_law 628 = .ok (.iadd, 1) := by decide +kernel
theorem dL_law_629 : decode cL_law 629 = .ok (.iaload, 1) := by decide +kernel
theorem dL_law_630 : decode cL_law 630 = .ok (.aload_n 0, 1) := by decide +kernel
theorem dL_law_631 : decode cL_law 631 = .ok (.iload 4, 2) := by decide +kernel
theorem dL_law_633 : decode cL_law 633 = .ok (.iconst 2, 1) := by decide +kernel
theorem dL_law_634 : decode cL_law 634 = .ok (.iadd, 1) := by decide +kernel
theorem dL_law_635 : decode cL_law 635 = .ok (.iaload, 1) := by decide +kernel
theorem dL_law_636 : decode cL_law 636 = .ok (.invokevirtual 81, 3) := by decide +kernel
theorem dL_law_639 : decode cL_law 639 = .ok (.aload_n 2, 1) := by decide +kernel
theorem dL_law_640 : decode cL_law 640 = .ok (.aload_n 0, 1) := by decide +kernel
theorem dL_law_641 : decode cL_law 641 = .ok (.iload 4, 2) := by decide +kernel
theorem dL_law_643 : decode cL_law 643 = .ok (.iconst 1, 1) := by decide +kernel
theorem dL_law_644 : decode cL_law 644 = .ok (.iadd, 1) := by decide +kernel
theorem dL_law_645 : decode cL_law 645 = .ok (.iaload, 1) := by decide +kernel
theorem dL_law_646 : decode cL_law 646 = .ok (.aload_n 0, 1) := by decide +kernel
theorem dL_law_647 : decode cL_law 647 = .ok (.iload 4, 2) := by decide +kernel
theorem dL_law_649 : decode cL_law 649 = .ok (.iconst 2, 1) := by decide +kernel
theorem dL_law_650 : decode cL_law 650 = .ok (.iadd, 1) := by decide +kernel
theorem dL_law_651 : decode cL_law 651 = .ok (.iaload, 1) := by decide +kernel
theorem dL_law_652 : decode cL_law 652 = .ok (.invokevirtual 84, 3) := by decide +kernel
theorem dL_law_655 : decode cL_law 655 = .ok (.if_icmp .eq 378, 3) := by decide +kernel
theorem dL_law_658 : decode cL_law 658 = .ok (.iconst 0, 1) := by decide +kernel
theorem dL_law_659 : decode cL_law 659 = .ok (.ireturn, 1) := by decide +kernel
theorem dL_law_660 : decode cL_law 660 = .ok (.aload_n 1, 1) := by decide +kernel
theorem dL_law_661 : decode cL_law 661 = .ok (.aload_n 0, 1) := by decide +kernel
theorem dL_law_662 : decode cL_law 662 = .ok (.iload 4, 2) := by decide +kernel
theorem dL_law_664 : decode cL_law 664 = .ok (.iconst 1, 1) := by decide +kernel
theorem dL_law_665 : decode cL_law 665 = .ok (.iadd, 1) := by decide +kernel
theorem dL_law_666 : decode cL_law 666 = .ok (.iaload, 1) := by decide +kernel
theorem dL_law_667 : decode cL_law 667 = .ok (.aload_n 0, 1) := by decide +kernel
theorem dL_law_668 : decode cL_law 668 = .ok (.iload 4, 2) := by decide +kernel
theorem dL_law_670 : decode cL_law 670 = .ok (.iconst 2, 1) := by decide +kernel
theorem dL_law_671 : decode cL_law 671 = .ok (.iadd, 1) := by decide +kernel
theorem dL_law_672 : decode cL_law 672 = .ok (.iaload, 1) := by decide +kernel
theorem dL_law_673 : decode cL_law 673 = .ok (.invokevirtual 85, 3) := by decide +kernel
theorem dL_law_676 : decode cL_law 676 = .ok (.aload_n 2, 1) := by decide +kernel
theorem dL_law_677 : decode cL_law 677 = .ok (.aload_n 0, 1) := by decide +kernel
theorem dL_law_678 : decode cL_law 678 = .ok (.iload 4, 2) := by decide +kernel
theorem dL_law_680 : decode cL_law 680 = .ok (.iconst 1, 1) := by decide +kernel
theorem dL_law_681 : decode cL_law 681 = .ok (.iadd, 1) := by decide +kernel
theorem dL_law_682 : decode cL_law 682 = .ok (.iaload, 1) := by decide +kernel
theorem dL_law_683 : decode cL_law 683 = .ok (.aload_n 0, 1) := by decide +kernel
theorem dL_law_684 : decode cL_law 684 = .ok (.iload 4, 2) := by decide +kernel
theorem dL_law_686 : decode cL_law 686 = .ok (.iconst 2, 1) := by decide +kernel
theorem dL_law_687 : decode cL_law 687 = .ok (.iadd, 1) := by decide +kernel
theorem dL_law_688 : decode cL_law 688 = .ok (.iaload, 1) := by decide +kernel
theorem dL_law_689 : decode cL_law 689 = .ok (.invokevirtual 88, 3) := by decide +kernel
theorem dL_law_692 : decode cL_law 692 = .ok (.if_icmp .eq 341, 3) := by decide +kernel
theorem dL_law_695 : decode cL_law 695 = .ok (.iconst 0, 1) := by decide +kernel
theorem dL_law_696 : decode cL_law 696 = .ok (.ireturn, 1) := by decide +kernel
theorem dL_law_697 : decode cL_law 697 = .ok (.aload_n 1, 1) := by decide +kernel
theorem dL_law_698 : decode cL_law 698 = .ok (.aload_n 0, 1) := by decide +kernel
theorem dL_law_699 : decode cL_law 699 = .ok (.iload 4, 2) := by decide +kernel
theorem dL_law_701 : decode cL_law 701 = .ok (.iconst 1, 1) := by decide +kernel
theorem dL_law_702 : decode cL_law 702 = .ok (.iadd, 1) := by decide +kernel
theorem dL_law_703 : decode cL_law 703 = .ok (.iaload, 1) := by decide +kernel
theorem dL_law_704 : decode cL_law 704 = .ok (.aload_n 0, 1) := by decide +kernel
theorem dL_law_705 : decode cL_law 705 = .ok (.iload 4, 2) := by decide +kernel
theorem dL_law_707 : decode cL_law 707 = .ok (.iconst 2, 1) := by decide +kernel
theorem dL_law_708 : decode cL_law 708 = .ok (.iadd, 1) := by decide +kernel
theorem dL_law_709 : decode cL_law 709 = .ok (.iaload, 1) := by decide +kernel
theorem dL_law_710 : decode cL_law 710 = .ok (.invokevirtual 89, 3) := by decide +kernel
theorem dL_law_713 : decode cL_law 713 = .ok (.aload_n 2, 1) := by decide +kernel
theorem dL_law_714 : decode cL_law 714 = .ok (.aload_n 0, 1) := by decide +kernel
theorem dL_law_715 : decode cL_law 715 = .ok (.iload 4, 2) := by decide +kernel
theorem dL_law_717 : decode cL_law 717 = .ok (.iconst 1, 1) := by decide +kernel
theorem dL_law_718 : decode cL_law 718 = .ok (.iadd, 1) := by decide +kernel
theorem dL_law_719 : decode cL_law 719 = .ok (.iaload, 1) := by decide +kernel
theorem dL_law_720 : decode cL_law 720 = .ok (.aload_n 0, 1) := by decide +kernel
theorem dL_law_721 : decode cL_law 721 = .ok (.iload 4, 2) := by decide +kernel
theorem dL_law_723 : decode cL_law 723 = .ok (.iconst 2, 1) := by decide +kernel
theorem dL_law_724 : decode cL_law 724 = .ok (.iadd, 1) := by decide +kernel
theorem dL_law_725 : decode cL_law 725 = .ok (.iaload, 1) := by decide +kernel
theorem dL_law_726 : decode cL_law 726 = .ok (.invokevirtual 92, 3) := by decide +kernel
theorem dL_law_729 : decode cL_law 729 = .ok (.if_icmp .eq 304, 3) := by decide +kernel
theorem dL_law_732 : decode cL_law 732 = .ok (.iconst 0, 1) := by decide +kernel
theorem dL_law_733 : decode cL_law 733 = .ok (.ireturn, 1) := by decide +kernel
theorem dL_law_734 : decode cL_law 734 = .ok (.aload_n 1, 1) := by decide +kernel
theorem dL_law_735 : decode cL_law 735 = .ok (.aload_n 0, 1) := by decide +kernel
theorem dL_law_736 : decode cL_law 736 = .ok (.iload 4, 2) := by decide +kernel
theorem dL_law_738 : decode cL_law 738 = .ok (.iconst 1, 1) := by decide +kernel
theorem dL_law_739 : decode cL_law 739 = .ok (.iadd, 1) := by decide +kernel
theorem dL_law_740 : decode cL_law 740 = .ok (.iaload, 1) := by decide +kernel
theorem dL_law_741 : decode cL_law 741 = .ok (.aload_n 0, 1) := by decide +kernel
theorem dL_law_742 : decode cL_law 742 = .ok (.iload 4, 2) := by decide +kernel
theorem dL_law_744 : decode cL_law 744 = .ok (.iconst 2, 1) := by decide +kernel
theorem dL_law_745 : decode cL_law 745 = .ok (.iadd, 1) := by decide +kernel
theorem dL_law_746 : decode cL_law 746 = .ok (.iaload, 1) := by decide +kernel
theorem dL_law_747 : decode cL_law 747 = .ok (.invokevirtual 93, 3) := by decide +kernel
theorem dL_law_750 : decode cL_law 750 = .ok (.aload_n 2, 1) := by decide +kernel
theorem dL_law_751 : decode cL_law 751 = .ok (.aload_n 0, 1) := by decide +kernel
theorem dL_law_752 : decode cL_law 752 = .ok (.iload 4, 2) := by decide +kernel
theorem dL_law_754 : decode cL_law 754 = .ok (.iconst 1, 1) := by decide +kernel
theorem dL_law_755 : decode cL_law 755 = .ok (.iadd, 1) := by decide +kernel
theorem dL_law_756 : decode cL_law 756 = .ok (.iaload, 1) := by decide +kernel
theorem dL_law_757 : decode cL_law 757 = .ok (.aload_n 0, 1) := by decide +kernel
theorem dL_law_758 : decode cL_law 758 = .ok (.iload 4, 2) := by decide +kernel
theorem dL_law_760 : decode cL_law 760 = .ok (.iconst 2, 1) := by decide +kernel
theorem dL_law_761 : decode cL_law 761 = .ok (.iadd, 1) := by decide +kernel
theorem dL_law_762 : decode cL_law 762 = .ok (.iaload, 1) := by decide +kernel
theorem dL_law_763 : decode cL_law 763 = .ok (.invokevirtual 96, 3) := by decide +kernel
theorem dL_law_766 : decode cL_law 766 = .ok (.if_icmp .eq 267, 3) := by decide +kernel
theorem dL_law_769 : decode cL_law 769 = .ok (.iconst 0, 1) := by decide +kernel
theorem dL_law_770 : decode cL_law 770 = .ok (.ireturn, 1) := by decide +kernel
theorem dL_law_771 : decode cL_law 771 = .ok (.aload_n 1, 1) := by decide +kernel
theorem dL_law_772 : decode cL_law 772 = .ok (.aload_n 0, 1) := by decide +kernel
theorem dL_law_773 : decode cL_law 773 = .ok (.iload 4, 2) := by decide +kernel
theorem dL_law_775 : decode cL_law 775 = .ok (.iconst 1, 1) := by decide +kernel
theorem dL_law_776 : decode cL_law 776 = .ok (.iadd, 1) := by decide +kernel
theorem dL_law_777 : decode cL_law 777 = .ok (.iaload, 1) := by decide +kernel
theorem dL_law_778 : decode cL_law 778 = .ok (.aload_n 0, 1) := by decide +kernel
theorem dL_law_779 : decode cL_law 779 = .ok (.iload 4, 2) := by decide +kernel
theorem dL_law_781 : decode cL_law 781 = .ok (.iconst 2, 1) := by decide +kernel
theorem dL_law_782 : decode cL_law 782 = .ok (.iadd, 1) := by decide +kernel
theorem dL_law_783 : decode cL_law 783 = .ok (.iaload, 1) := by decide +kernel
theorem dL_law_784 : decode cL_law 784 = .ok (.aload_n 0, 1) := by decide +kernel
theorem dL_law_785 : decode cL_law 785 = .ok (.iload 4, 2) := by decide +kernel
theorem dL_law_787 : decode cL_law 787 = .ok (.iconst 3, 1) := by decide +kernel
theorem dL_law_788 : decode cL_law 788 = .ok (.iadd, 1) := by decide +kernel
theorem dL_law_789 : decode cL_law 789 = .ok (.iaload, 1) := by decide +kernel
theorem dL_law_790 : decode cL_law 790 = .ok (.aload_n 0, 1) := by decide +kernel
theorem dL_law_791 : decode cL_law 791 = .ok (.iload 4, 2) := by decide +kernel
theorem dL_law_793 : decode cL_law 793 = .ok (.iconst 4, 1) := by decide +kernel
theorem dL_law_794 : decode cL_law 794 = .ok (.iadd, 1) := by decide +kernel
theorem dL_law_795 : decode cL_law 795 = .ok (.iaload, 1) := by decide +kernel
theorem dL_law_796 : decode cL_law 796 = .ok (.aload_n 0, 1) := by decide +kernel
theorem dL_law_797 : decode cL_law 797 = .ok (.iload 4, 2) := by decide +kernel
theorem dL_law_799 : decode cL_law 799 = .ok (.iconst 5, 1) := by decide +kernel
theorem dL_law_800 : decode cL_law 800 = .ok (.iadd, 1) := by decide +kernel
theorem dL_law_801 : decode cL_law 801 = .ok (.iaload, 1) := by decide +kernel
theorem dL_law_802 : decode cL_law 802 = .ok (.aload_n 0, 1) := by decide +kernel
theorem dL_law_803 : decode cL_law 803 = .ok (.iload 4, 2) := by decide +kernel
theorem dL_law_805 : decode cL_law 805 = .ok (.bipush 6, 2) := by decide +kernel
theorem dL_law_807 : decode cL_law 807 = .ok (.iadd, 1) := by decide +kernel
theorem dL_law_808 : decode cL_law 808 = .ok (.iaload, 1) := by decide +kernel
theorem dL_law_809 : decode cL_law 809 = .ok (.invokevirtual 97, 3) := by decide +kernel
theorem dL_law_812 : decode cL_law 812 = .ok (.aload_n 2, 1) := by decide +kernel
theorem dL_law_813 : decode cL_law 813 = .ok (.aload_n 0, 1) := by decide +kernel
theorem dL_law_814 : decode cL_law 814 = .ok (.iload 4, 2) := by decide +kernel
theorem dL_law_816 : decode cL_law 816 = .ok (.iconst 1, 1) := by decide +kernel
theorem dL_law_817 : decode cL_law 817 = .ok (.iadd, 1) := by decide +kernel
theorem dL_law_818 : decode cL_law 818 = .ok (.iaload, 1) := by decide +kernel
theorem dL_law_819 : decode cL_law 819 = .ok (.aload_n 0, 1) := by decide +kernel
theorem dL_law_820 : decode cL_law 820 = .ok (.iload 4, 2) := by decide +kernel
theorem dL_law_822 : decode cL_law 822 = .ok (.iconst 2, 1) := by decide +kernel
theorem dL_law_823 : decode cL_law 823 = .ok (.iadd, 1) := by decide +kernel
theorem dL_law_824 : decode cL_law 824 = .ok (.iaload, 1) := by decide +kernel
theorem dL_law_825 : decode cL_law 825 = .ok (.aload_n 0, 1) := by decide +kernel
theorem dL_law_826 : decode cL_law 826 = .ok (.iload 4, 2) := by decide +kernel
theorem dL_law_828 : decode cL_law 828 = .ok (.iconst 3, 1) := by decide +kernel
theorem dL_law_829 : decode cL_law 829 = .ok (.iadd, 1) := by decide +kernel
theorem dL_law_830 : decode cL_law 830 = .ok (.iaload, 1) := by decide +kernel
theorem dL_law_831 : decode cL_law 831 = .ok (.aload_n 0, 1) := by decide +kernel
theorem dL_law_832 : decode cL_law 832 = .ok (.iload 4, 2) := by decide +kernel
theorem dL_law_834 : decode cL_law 834 = .ok (.iconst 4, 1) := by decide +kernel
theorem dL_law_835 : decode cL_law 835 = .ok (.iadd, 1) := by decide +kernel
theorem dL_law_836 : decode cL_law 836 = .ok (.iaload, 1) := by decide +kernel
theorem dL_law_837 : decode cL_law 837 = .ok (.aload_n 0, 1) := by decide +kernel
theorem dL_law_838 : decode cL_law 838 = .ok (.iload 4, 2) := by decide +kernel
theorem dL_law_840 : decode cL_law 840 = .ok (.iconst 5, 1) := by decide +kernel
theorem dL_law_841 : decode cL_law 841 = .ok (.iadd, 1) := by decide +kernel
theorem dL_law_842 : decode cL_law 842 = .ok (.iaload, 1) := by decide +kernel
theorem dL_law_843 : decode cL_law 843 = .ok (.aload_n 0, 1) := by decide +kernel
theorem dL_law_844 : decode cL_law 844 = .ok (.iload 4, 2) := by decide +kernel
theorem dL_law_846 : decode cL_law 846 = .ok (.bipush 6, 2) := by decide +kernel
theorem dL_law_848 : decode cL_law 848 = .ok (.iadd, 1) := by decide +kernel
theorem dL_law_849 : decode cL_law 849 = .ok (.iaload, 1) := by decide +kernel
theorem dL_law_850 : decode cL_law 850 = .ok (.invokevirtual 101, 3) := by decide +kernel
theorem dL_law_853 : decode cL_law 853 = .ok (.if_icmp .eq 180, 3) := by decide +kernel
theorem dL_law_856 : decode cL_law 856 = .ok (.iconst 0, 1) := by decide +kernel
theorem dL_law_857 : decode cL_law 857 = .ok (.ireturn, 1) := by decide +kernel
theorem dL_law_858 : decode cL_law 858 = .ok (.aload_n 1, 1) := by decide +kernel
theorem dL_law_859 : decode cL_law 859 = .ok (.aload_n 0, 1) := by decide +kernel
theorem dL_law_860 : decode cL_law 860 = .ok (.iload 4, 2) := by decide +kernel
theorem dL_law_862 : decode cL_law 862 = .ok (.iconst 1, 1) := by decide +kernel
theorem dL_law_863 : decode cL_law 863 = .ok (.iadd, 1) := by decide +kernel
theorem dL_law_864 : decode cL_law 864 = .ok (.iaload, 1) := by decide +kernel
theorem dL_law_865 : decode cL_law 865 = .ok (.aload_n 0, 1) := by decide +kernel
theorem dL_law_866 : decode cL_law 866 = .ok (.iload 4, 2) := by decide +kernel
theorem dL_law_868 : decode cL_law 868 = .ok (.iconst 2, 1) := by decide +kernel
theorem dL_law_869 : decode cL_law 869 = .ok (.iadd, 1) := by decide +kernel
theorem dL_law_870 : decode cL_law 870 = .ok (.iaload, 1) := by decide +kernel
theorem dL_law_871 : decode cL_law 871 = .ok (.aload_n 0, 1) := by decide +kernel
theorem dL_law_872 : decode cL_law 872 = .ok (.iload 4, 2) := by decide +kernel
theorem dL_law_874 : decode cL_law 874 = .ok (.iconst 3, 1) := by decide +kernel
theorem dL_law_875 : decode cL_law 875 = .ok (.iadd, 1) := by decide +kernel
theorem dL_law_876 : decode cL_law 876 = .ok (.iaload, 1) := by decide +kernel
theorem dL_law_877 : decode cL_law 877 = .ok (.aload_n 0, 1) := by decide +kernel
theorem dL_law_878 : decode cL_law 878 = .ok (.iload 4, 2) := by decide +kernel
theorem dL_law_880 : decode cL_law 880 = .ok (.iconst 4, 1) := by decide +kernel
theorem dL_law_881 : decode cL_law 881 = .ok (.iadd, 1) := by decide +kernel
theorem dL_law_882 : decode cL_law 882 = .ok (.iaload, 1) := by decide +kernel
theorem dL_law_883 : decode cL_law 883 = .ok (.aload_n 0, 1) := by decide +kernel
theorem dL_law_884 : decode cL_law 884 = .ok (.iload 4, 2) := by decide +kernel
theorem dL_law_886 : decode cL_law 886 = .ok (.iconst 5, 1) := by decide +kernel
theorem dL_law_887 : decode cL_law 887 = .ok (.iadd, 1) := by decide +kernel
theorem dL_law_888 : decode cL_law 888 = .ok (.iaload, 1) := by decide +kernel
theorem dL_law_889 : decode cL_law 889 = .ok (.aload_n 0, 1) := by decide +kernel
theorem dL_law_890 : decode cL_law 890 = .ok (.iload 4, 2) := by decide +kernel
theorem dL_law_892 : decode cL_law 892 = .ok (.bipush 6, 2) := by decide +kernel
theorem dL_law_894 : decode cL_law 894 = .ok (.iadd, 1) := by decide +kernel
theorem dL_law_895 : decode cL_law 895 = .ok (.iaload, 1) := by decide +kernel
theorem dL_law_896 : decode cL_law 896 = .ok (.invokevirtual 102, 3) := by decide +kernel
theorem dL_law_899 : decode cL_law 899 = .ok (.aload_n 2, 1) := by decide +kernel
theorem dL_law_900 : decode cL_law 900 = .ok (.aload_n 0, 1) := by decide +kernel
theorem dL_law_901 : decode cL_law 901 = .ok (.iload 4, 2) := by decide +kernel
theorem dL_law_903 : decode cL_law 903 = .ok (.iconst 1, 1) := by decide +kernel
theorem dL_law_904 : decode cL_law 904 = .ok (.iadd, 1) := by decide +kernel
theorem dL_law_905 : decode cL_law 905 = .ok (.iaload, 1) := by decide +kernel
theorem dL_law_906 : decode cL_law 906 = .ok (.aload_n 0, 1) := by decide +kernel
theorem dL_law_907 : decode cL_law 907 = .ok (.iload 4, 2) := by decide +kernel
theorem dL_law_909 : decode cL_law 909 = .ok (.iconst 2, 1) := by decide +kernel
theorem dL_law_910 : decode cL_law 910 = .ok (.iadd, 1) := by decide +kernel
theorem dL_law_911 : decode cL_law 911 = .ok (.iaload, 1) := by decide +kernel
theorem dL_law_912 : decode cL_law 912 = .ok (.aload_n 0, 1) := by decide +kernel
theorem dL_law_913 : decode cL_law 913 = .ok (.iload 4, 2) := by decide +kernel
theorem dL_law_915 : decode cL_law 915 = .ok (.iconst 3, 1) := by decide +kernel
theorem dL_law_916 : decode cL_law 916 = .ok (.iadd, 1) := by decide +kernel
theorem dL_law_917 : decode cL_law 917 = .ok (.iaload, 1) := by decide +kernel
theorem dL_law_918 : decode cL_law 918 = .ok (.aload_n 0, 1) := by decide +kernel
theorem dL_law_919 : decode cL_law 919 = .ok (.iload 4, 2) := by decide +kernel
theorem dL_law_921 : decode cL_law 921 = .ok (.iconst 4, 1) := by decide +kernel
theorem dL_law_922 : decode cL_law 922 = .ok (.iadd, 1) := by decide +kernel
theorem dL_law_923 : decode cL_law 923 = .ok (.iaload, 1) := by decide +kernel
theorem dL_law_924 : decode cL_law 924 = .ok (.aload_n 0, 1) := by decide +kernel
theorem dL_law_925 : decode cL_law 925 = .ok (.iload 4, 2) := by decide +kernel
theorem dL_law_927 : decode cL_law 927 = .ok (.iconst 5, 1) := by decide +kernel
theorem dL_law_928 : decode cL_law 928 = .ok (.iadd, 1) := by decide +kernel
theorem dL_law_929 : decode cL_law 929 = .ok (.iaload, 1) := by decide +kernel
theorem dL_law_930 : decode cL_law 930 = .ok (.aload_n 0, 1) := by decide +kernel
theorem dL_law_931 : decode cL_law 931 = .ok (.iload 4, 2) := by decide +kernel
theorem dL_law_933 : decode cL_law 933 = .ok (.bipush 6, 2) := by decide +kernel
theorem dL_law_935 : decode cL_law 935 = .ok (.iadd, 1) := by decide +kernel
theorem dL_law_936 : decode cL_law 936 = .ok (.iaload, 1) := by decide +kernel
theorem dL_law_937 : decode cL_law 937 = .ok (.invokevirtual 105, 3) := by decide +kernel
theorem dL_law_940 : decode cL_law 940 = .ok (.if_icmp .eq 93, 3) := by decide +kernel
theorem dL_law_943 : decode cL_law 943 = .ok (.iconst 0, 1) := by decide +kernel
theorem dL_law_944 : decode cL_law 944 = .ok (.ireturn, 1) := by decide +kernel
theorem dL_law_945 : decode cL_law 945 = .ok (.aload_n 1, 1) := by decide +kernel
theorem dL_law_946 : decode cL_law 946 = .ok (.aload_n 0, 1) := by decide +kernel
theorem dL_law_947 : decode cL_law 947 = .ok (.iload 4, 2) := by decide +kernel
theorem dL_law_949 : decode cL_law 949 = .ok (.iconst 1, 1) := by decide +kernel
theorem dL_law_950 : decode cL_law 950 = .ok (.iadd, 1) := by decide +kernel
theorem dL_law_951 : decode cL_law 951 = .ok (.iaload, 1) := by decide +kernel
theorem dL_law_952 : decode cL_law 952 = .ok (.invokevirtual 106, 3) := by decide +kernel
theorem dL_law_955 : decode cL_law 955 = .ok (.aload_n 2, 1) := by decide +kernel
theorem dL_law_956 : decode cL_law 956 = .ok (.aload_n 0, 1) := by decide +kernel
theorem dL_law_957 : decode cL_law 957 = .ok (.iload 4, 2) := by decide +kernel
theorem dL_law_959 : decode cL_law 959 = .ok (.iconst 1, 1) := by decide +kernel
theorem dL_law_960 : decode cL_law 960 = .ok (.iadd, 1) := by decide +kernel
theorem dL_law_961 : decode cL_law 961 = .ok (.iaload, 1) := by decide +kernel
theorem dL_law_962 : decode cL_law 962 = .ok (.invokevirtual 109, 3) := by decide +kernel
theorem dL_law_965 : decode cL_law 965 = .ok (.lcmp, 1) := by decide +kernel
theorem dL_law_966 : decode cL_law 966 = .ok (.ifCond .eq 67, 3) := by decide +kernel
theorem dL_law_969 : decode cL_law 969 = .ok (.iconst 0, 1) := by decide +kernel
theorem dL_law_970 : decode cL_law 970 = .ok (.ireturn, 1) := by decide +kernel
theorem dL_law_971 : decode cL_law 971 = .ok (.aload_n 1, 1) := by decide +kernel
theorem dL_law_972 : decode cL_law 972 = .ok (.aload_n 0, 1) := by decide +kernel
theorem dL_law_973 : decode cL_law 973 = .ok (.iload 4, 2) := by decide +kernel
theorem dL_law_975 : decode cL_law 975 = .ok (.iconst 1, 1) := by decide +kernel
theorem dL_law_976 : decode cL_law 976 = .ok (.iadd, 1) := by decide +kernel
theorem dL_law_977 : decode cL_law 977 = .ok (.iaload, 1) := by decide +kernel
theorem dL_law_978 : decode cL_law 978 = .ok (.aload_n 0, 1) := by decide +kernel
theorem dL_law_979 : decode cL_law 979 = .ok (.iload 4, 2) := by decide +kernel
theorem dL_law_981 : decode cL_law 981 = .ok (.iconst 2, 1) := by decide +kernel
theorem dL_law_982 : decode cL_law 982 = .ok (.iadd, 1) := by decide +kernel
theorem dL_law_983 : decode cL_law 983 = .ok (.iaload, 1) := by decide +kernel
theorem dL_law_984 : decode cL_law 984 = .ok (.invokevirtual 110, 3) := by decide +kernel
theorem dL_law_987 : decode cL_law 987 = .ok (.aload_n 2, 1) := by decide +kernel
theorem dL_law_988 : decode cL_law 988 = .ok (.aload_n 0, 1) := by decide +kernel
theorem dL_law_989 : decode cL_law 989 = .ok (.iload 4, 2) := by decide +kernel
theorem dL_law_991 : decode cL_law 991 = .ok (.iconst 1, 1) := by decide +kernel
theorem dL_law_992 : decode cL_law 992 = .ok (.iadd, 1) := by decide +kernel
theorem dL_law_993 : decode cL_law 993 = .ok (.iaload, 1) := by decide +kernel
theorem dL_law_994 : decode cL_law 994 = .ok (.aload_n 0, 1) := by decide +kernel
theorem dL_law_995 : decode cL_law 995 = .ok (.iload 4, 2) := by decide +kernel
theorem dL_law_997 : decode cL_law 997 = .ok (.iconst 2, 1) := by decide +kernel
theorem dL_law_998 : decode cL_law 998 = .ok (.iadd, 1) := by decide +kernel
theorem dL_law_999 : decode cL_law 999 = .ok (.iaload, 1) := by decide +kernel
theorem dL_law_1000 : decode cL_law 1000 = .ok (.invokevirtual 113, 3) := by decide +kernel
theorem dL_law_1003 : decode cL_law 1003 = .ok (.if_icmp .eq 30, 3) := by decide +kernel
theorem dL_law_1006 : decode cL_law 1006 = .ok (.iconst 0, 1) := by decide +kernel
theorem dL_law_1007 : decode cL_law 1007 = .ok (.ireturn, 1) := by decide +kernel
theorem dL_law_1008 : decode cL_law 1008 = .ok (.aload_n 1, 1) := by decide +kernel
theorem dL_law_1009 : decode cL_law 1009 = .ok (.aload_n 0, 1) := by decide +kernel
theorem dL_law_1010 : decode cL_law 1010 = .ok (.iload 4, 2) := by decide +kernel
theorem dL_law_1012 : decode cL_law 1012 = .ok (.iconst 1, 1) := by decide +kernel
theorem dL_law_1013 : decode cL_law 1013 = .ok (.iadd, 1) := by decide +kernel
theorem dL_law_1014 : decode cL_law 1014 = .ok (.iaload, 1) := by decide +kernel
theorem dL_law_1015 : decode cL_law 1015 = .ok (.invokevirtual 114, 3) := by decide +kernel
theorem dL_law_1018 : decode cL_law 1018 = .ok (.aload_n 2, 1) := by decide +kernel
theorem dL_law_1019 : decode cL_law 1019 = .ok (.aload_n 0, 1) := by decide +kernel
theorem dL_law_1020 : decode cL_law 1020 = .ok (.iload 4, 2) := by decide +kernel
theorem dL_law_1022 : decode cL_law 1022 = .ok (.iconst 1, 1) := by decide +kernel
theorem dL_law_1023 : decode cL_law 1023 = .ok (.iadd, 1) := by decide +kernel
theorem dL_law_1024 : decode cL_law 1024 = .ok (.iaload, 1) := by decide +kernel
theorem dL_law_1025 : decode cL_law 1025 = .ok (.invokevirtual 117, 3) := by decide +kernel
theorem dL_law_1028 : decode cL_law 1028 = .ok (.if_icmp .eq 5, 3) := by decide +kernel
theorem dL_law_1031 : decode cL_law 1031 = .ok (.iconst 0, 1) := by decide +kernel
theorem dL_law_1032 : decode cL_law 1032 = .ok (.ireturn, 1) := by decide +kernel
theorem dL_law_1033 : decode cL_law 1033 = .ok (.iinc 4 7, 3) := by decide +kernel
theorem dL_law_1036 : decode cL_law 1036 = .ok (.goto (-1013), 3) := by decide +kernel
theorem dL_law_1039 : decode cL_law 1039 = .ok (.iconst 1, 1) := by decide +kernel
theorem dL_law_1040 : decode cL_law 1040 = .ok (.ireturn, 1) := by decide +kernel
abbrev vwCl : List vw_C := [(RX0, TX0, 16), (RX1, TX1, 14), (RX2, TX2, 13), (RX3, TX3, 8), (RX4, TX4, 5), (RX5, TX5, 20), (RX6, TX6, 5), (RX7, TX7, 6), (RX8, TX8, 18), (RX9, TX9, 3), (RX10, TX10, 6), (RX11, TX11, 13), (RX12, TX12, 87)]
