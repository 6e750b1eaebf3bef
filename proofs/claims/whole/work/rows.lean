section
def RX0 : String := "WeightedLaws$Law"
def TX0 : u_T := fun k => match k with
  | 0 => ("WeightedLaws$Law", "there", "Z", false)
  | 1 => ("WeightedLaws$Law", "kind", "I", false)
  | 2 => ("WeightedLaws$Law", "weight", "I", false)
  | 3 => ("WeightedLaws$Law", "least", "I", false)
  | 4 => ("WeightedLaws$Law", "parts", "I", false)
  | 5 => ("WeightedLaws$Law", "bases", "[I", true)
  | 6 => ("WeightedLaws$Law", "firsts", "[I", true)
  | 7 => ("WeightedLaws$Law", "lasts", "[I", true)
  | _ => ("WeightedLaws$Law", "denied", "[Z", true)
def tyX0 : Nat → FieldType := fun k => match k with
  | 0 => .boolean
  | 1 => .int
  | 2 => .int
  | 3 => .int
  | 4 => .int
  | 5 => .array .int
  | 6 => .array .int
  | 7 => .array .int
  | _ => .array .boolean
abbrev wsX00 : List Cond := u_ws RX0 TX0 9
theorem nmX0 : ∀ a, a < 9 → ∀ b, b < 9 → a ≠ b → (TX0 a).2.1 ≠ (TX0 b).2.1 := by decide +kernel
theorem tyX0_ok : ∀ k, k < 9 → parseFieldDescriptor (TX0 k).2.2.1 = some (tyX0 k) := by decide +kernel
abbrev cX0_init : ByteArray := prog_2_method_1_code
def yX0_init : MethodName := ⟨RX0, "<init>", "()V"⟩
abbrev cX0_read : ByteArray := prog_2_method_2_code
def yX0_read : MethodName := ⟨RX0, "read", "(LWeightedLaws$Shelf;II)I"⟩
abbrev cX0_stateAfter : ByteArray := prog_2_method_3_code
def yX0_stateAfter : MethodName := ⟨RX0, "stateAfter", "(II)I"⟩
abbrev cX0_afterHead : ByteArray := prog_2_method_4_code
def yX0_afterHead : MethodName := ⟨RX0, "afterHead", "(I)I"⟩
abbrev cX0_afterFigure : ByteArray := prog_2_method_5_code
def yX0_afterFigure : MethodName := ⟨RX0, "afterFigure", "(I)I"⟩
abbrev cX0_afterPartStart : ByteArray := prog_2_method_6_code
def yX0_afterPartStart : MethodName := ⟨RX0, "afterPartStart", "(I)I"⟩
abbrev cX0_afterLetter : ByteArray := prog_2_method_7_code
def yX0_afterLetter : MethodName := ⟨RX0, "afterLetter", "(I)I"⟩
abbrev cX0_afterFirst : ByteArray := prog_2_method_8_code
def yX0_afterFirst : MethodName := ⟨RX0, "afterFirst", "(I)I"⟩
abbrev cX0_afterLast : ByteArray := prog_2_method_9_code
def yX0_afterLast : MethodName := ⟨RX0, "afterLast", "(I)I"⟩
abbrev cX0_afterPart : ByteArray := prog_2_method_10_code
def yX0_afterPart : MethodName := ⟨RX0, "afterPart", "(I)I"⟩
abbrev cX0_isVariable : ByteArray := prog_2_method_11_code
def yX0_isVariable : MethodName := ⟨RX0, "isVariable", "(I)Z"⟩
abbrev cX0_isOverNames : ByteArray := prog_2_method_12_code
def yX0_isOverNames : MethodName := ⟨RX0, "isOverNames", "()Z"⟩
abbrev cX0_has : ByteArray := prog_2_method_13_code
def yX0_has : MethodName := ⟨RX0, "has", "(I)Z"⟩
abbrev cX0_caseCount : ByteArray := prog_2_method_14_code
def yX0_caseCount : MethodName := ⟨RX0, "caseCount", "(I)I"⟩
abbrev cX0_choices : ByteArray := prog_2_method_15_code
def yX0_choices : MethodName := ⟨RX0, "choices", "(II)I"⟩
abbrev cX0_countDenied : ByteArray := prog_2_method_16_code
def yX0_countDenied : MethodName := ⟨RX0, "countDenied", "()I"⟩
abbrev cX0_sayingOf : ByteArray := prog_2_method_17_code
def yX0_sayingOf : MethodName := ⟨RX0, "sayingOf", "(III)I"⟩
abbrev cX0_sayingsOf : ByteArray := prog_2_method_18_code
def yX0_sayingsOf : MethodName := ⟨RX0, "sayingsOf", "(ZII)I"⟩
abbrev cX0_isBrokenBy : ByteArray := prog_2_method_19_code
def yX0_isBrokenBy : MethodName := ⟨RX0, "isBrokenBy", "(II)Z"⟩
def RX1 : String := "WeightedLaws$Shelf"
def TX1 : u_T := fun k => match k with
  | 0 => ("WeightedLaws$Shelf", "places", "[[I", true)
  | _ => ("WeightedLaws$Shelf", "sizes", "[I", true)
def tyX1 : Nat → FieldType := fun k => match k with
  | 0 => .array (.array .int)
  | _ => .array .int
abbrev wsX10 : List Cond := u_ws RX1 TX1 2
theorem nmX1 : ∀ a, a < 2 → ∀ b, b < 2 → a ≠ b → (TX1 a).2.1 ≠ (TX1 b).2.1 := by decide +kernel
theorem tyX1_ok : ∀ k, k < 2 → parseFieldDescriptor (TX1 k).2.2.1 = some (tyX1 k) := by decide +kernel
abbrev cX1_init : ByteArray := prog_3_method_1_code
def yX1_init : MethodName := ⟨RX1, "<init>", "(I)V"⟩
abbrev cX1_isNumber : ByteArray := prog_3_method_2_code
def yX1_isNumber : MethodName := ⟨RX1, "isNumber", "(I)Z"⟩
abbrev cX1_has : ByteArray := prog_3_method_3_code
def yX1_has : MethodName := ⟨RX1, "has", "(I)Z"⟩
abbrev cX1_sizeOf : ByteArray := prog_3_method_4_code
def yX1_sizeOf : MethodName := ⟨RX1, "sizeOf", "(I)I"⟩
abbrev cX1_hasPlaces : ByteArray := prog_3_method_5_code
def yX1_hasPlaces : MethodName := ⟨RX1, "hasPlaces", "(III)Z"⟩
abbrev cX1_make : ByteArray := prog_3_method_6_code
def yX1_make : MethodName := ⟨RX1, "make", "(III)V"⟩
abbrev cX1_remove : ByteArray := prog_3_method_7_code
def yX1_remove : MethodName := ⟨RX1, "remove", "(I)V"⟩
abbrev cX1_placeOf : ByteArray := prog_3_method_8_code
def yX1_placeOf : MethodName := ⟨RX1, "placeOf", "(II)I"⟩
abbrev cX1_change : ByteArray := prog_3_method_9_code
def yX1_change : MethodName := ⟨RX1, "change", "(III)V"⟩
abbrev cX1_move : ByteArray := prog_3_method_10_code
def yX1_move : MethodName := ⟨RX1, "move", "(IIIII)V"⟩
abbrev cX1_sumOf : ByteArray := prog_3_method_11_code
def yX1_sumOf : MethodName := ⟨RX1, "sumOf", "(I)J"⟩
abbrev cX1_countThere : ByteArray := prog_3_method_12_code
def yX1_countThere : MethodName := ⟨RX1, "countThere", "()I"⟩
abbrev cX1_digestOn : ByteArray := prog_3_method_13_code
def yX1_digestOn : MethodName := ⟨RX1, "digestOn", "(J)J"⟩
def RX2 : String := "WeightedLaws$Worlds"
def TX2 : u_T := fun k => match k with
  | 0 => ("WeightedLaws$Worlds", "number", "I", false)
  | 1 => ("WeightedLaws$Worlds", "open", "I", false)
  | 2 => ("WeightedLaws$Worlds", "truths", "[I", true)
  | 3 => ("WeightedLaws$Worlds", "breaks", "[J", true)
  | 4 => ("WeightedLaws$Worlds", "costs", "[I", true)
  | 5 => ("WeightedLaws$Worlds", "shares", "[J", true)
  | 6 => ("WeightedLaws$Worlds", "weights", "[I", true)
  | 7 => ("WeightedLaws$Worlds", "best", "I", false)
  | 8 => ("WeightedLaws$Worlds", "leastCost", "I", false)
  | _ => ("WeightedLaws$Worlds", "allShares", "J", false)
def tyX2 : Nat → FieldType := fun k => match k with
  | 0 => .int
  | 1 => .int
  | 2 => .array .int
  | 3 => .array .long
  | 4 => .array .int
  | 5 => .array .long
  | 6 => .array .int
  | 7 => .int
  | 8 => .int
  | _ => .long
abbrev wsX20 : List Cond := u_ws RX2 TX2 10
theorem nmX2 : ∀ a, a < 10 → ∀ b, b < 10 → a ≠ b → (TX2 a).2.1 ≠ (TX2 b).2.1 := by decide +kernel
theorem tyX2_ok : ∀ k, k < 10 → parseFieldDescriptor (TX2 k).2.2.1 = some (tyX2 k) := by decide +kernel
abbrev cX2_init : ByteArray := prog_4_method_1_code
def yX2_init : MethodName := ⟨RX2, "<init>", "()V"⟩
abbrev cX2_gather : ByteArray := prog_4_method_2_code
def yX2_gather : MethodName := ⟨RX2, "gather", "([II[LWeightedLaws$Law;)V"⟩
abbrev cX2_listTruths : ByteArray := prog_4_method_3_code
def yX2_listTruths : MethodName := ⟨RX2, "listTruths", "([I)V"⟩
abbrev cX2_splitBy : ByteArray := prog_4_method_4_code
def yX2_splitBy : MethodName := ⟨RX2, "splitBy", "(I)V"⟩
abbrev cX2_addBreaks : ByteArray := prog_4_method_5_code
def yX2_addBreaks : MethodName := ⟨RX2, "addBreaks", "(ILWeightedLaws$Law;I)V"⟩
abbrev cX2_addBreaksOverNames : ByteArray := prog_4_method_6_code
def yX2_addBreaksOverNames : MethodName := ⟨RX2, "addBreaksOverNames", "(ILWeightedLaws$Law;I)V"⟩
abbrev cX2_addCase : ByteArray := prog_4_method_7_code
def yX2_addCase : MethodName := ⟨RX2, "addCase", "(III)V"⟩
abbrev cX2_weigh : ByteArray := prog_4_method_8_code
def yX2_weigh : MethodName := ⟨RX2, "weigh", "([LWeightedLaws$Law;I)V"⟩
abbrev cX2_shareOut : ByteArray := prog_4_method_9_code
def yX2_shareOut : MethodName := ⟨RX2, "shareOut", "()V"⟩
abbrev cX2_softCost : ByteArray := prog_4_method_10_code
def yX2_softCost : MethodName := ⟨RX2, "softCost", "(I)I"⟩
abbrev cX2_hardBreaks : ByteArray := prog_4_method_11_code
def yX2_hardBreaks : MethodName := ⟨RX2, "hardBreaks", "(I[LWeightedLaws$Law;)I"⟩
abbrev cX2_breaksOf : ByteArray := prog_4_method_12_code
def yX2_breaksOf : MethodName := ⟨RX2, "breaksOf", "(II)I"⟩
abbrev cX2_isEmpty : ByteArray := prog_4_method_13_code
def yX2_isEmpty : MethodName := ⟨RX2, "isEmpty", "()Z"⟩
abbrev cX2_isBarred : ByteArray := prog_4_method_14_code
def yX2_isBarred : MethodName := ⟨RX2, "isBarred", "(I)Z"⟩
abbrev cX2_isSo : ByteArray := prog_4_method_15_code
def yX2_isSo : MethodName := ⟨RX2, "isSo", "(II)Z"⟩
abbrev cX2_countWithin : ByteArray := prog_4_method_16_code
def yX2_countWithin : MethodName := ⟨RX2, "countWithin", "(I)I"⟩
abbrev cX2_sharePowerOf : ByteArray := prog_4_method_17_code
def yX2_sharePowerOf : MethodName := ⟨RX2, "sharePowerOf", "(I)I"⟩
abbrev cX2_shareOf : ByteArray := prog_4_method_18_code
def yX2_shareOf : MethodName := ⟨RX2, "shareOf", "(I)J"⟩
abbrev cX2_sharesOf : ByteArray := prog_4_method_19_code
def yX2_sharesOf : MethodName := ⟨RX2, "sharesOf", "(I)J"⟩
abbrev cX2_worldAbove : ByteArray := prog_4_method_20_code
def yX2_worldAbove : MethodName := ⟨RX2, "worldAbove", "(J)I"⟩
def RX3 : String := "WeightedLaws"
def TX3 : u_T := fun k => match k with
  | 0 => ("WeightedLaws", "rows", "LWeightedLaws$Shelf;", true)
  | 1 => ("WeightedLaws", "texts", "LWeightedLaws$Shelf;", true)
  | 2 => ("WeightedLaws", "tellings", "[I", true)
  | 3 => ("WeightedLaws", "lawSlots", "[LWeightedLaws$Law;", true)
  | 4 => ("WeightedLaws", "table", "LWeightedLaws$Worlds;", true)
  | 5 => ("WeightedLaws", "findingCounts", "[I", true)
  | 6 => ("WeightedLaws", "draft", "LWeightedLaws$Law;", false)
  | 7 => ("WeightedLaws", "nameCount", "I", false)
  | 8 => ("WeightedLaws", "stale", "Z", false)
  | 9 => ("WeightedLaws", "askedNumber", "I", false)
  | 10 => ("WeightedLaws", "upperNumber", "J", false)
  | 11 => ("WeightedLaws", "lowerNumber", "J", false)
  | _ => ("WeightedLaws", "latestFinding", "I", false)
def tyX3 : Nat → FieldType := fun k => match k with
  | 0 => .object "WeightedLaws$Shelf"
  | 1 => .object "WeightedLaws$Shelf"
  | 2 => .array .int
  | 3 => .array (.object "WeightedLaws$Law")
  | 4 => .object "WeightedLaws$Worlds"
  | 5 => .array .int
  | 6 => .object "WeightedLaws$Law"
  | 7 => .int
  | 8 => .boolean
  | 9 => .int
  | 10 => .long
  | 11 => .long
  | _ => .int
abbrev wsX30 : List Cond := u_ws RX3 TX3 13
theorem nmX3 : ∀ a, a < 13 → ∀ b, b < 13 → a ≠ b → (TX3 a).2.1 ≠ (TX3 b).2.1 := by decide +kernel
theorem tyX3_ok : ∀ k, k < 13 → parseFieldDescriptor (TX3 k).2.2.1 = some (tyX3 k) := by decide +kernel
abbrev cX3_init : ByteArray := prog_1_method_1_code
def yX3_init : MethodName := ⟨RX3, "<init>", "()V"⟩
abbrev cX3_row : ByteArray := prog_1_method_2_code
def yX3_row : MethodName := ⟨RX3, "row", "(II)I"⟩
abbrev cX3_lay : ByteArray := prog_1_method_3_code
def yX3_lay : MethodName := ⟨RX3, "lay", "(III)I"⟩
abbrev cX3_at : ByteArray := prog_1_method_4_code
def yX3_at : MethodName := ⟨RX3, "at", "(II)I"⟩
abbrev cX3_tear : ByteArray := prog_1_method_5_code
def yX3_tear : MethodName := ⟨RX3, "tear", "(I)I"⟩
abbrev cX3_copy : ByteArray := prog_1_method_6_code
def yX3_copy : MethodName := ⟨RX3, "copy", "(IIIII)I"⟩
abbrev cX3_mean : ByteArray := prog_1_method_7_code
def yX3_mean : MethodName := ⟨RX3, "mean", "(I)I"⟩
abbrev cX3_text : ByteArray := prog_1_method_8_code
def yX3_text : MethodName := ⟨RX3, "text", "(II)I"⟩
abbrev cX3_put : ByteArray := prog_1_method_9_code
def yX3_put : MethodName := ⟨RX3, "put", "(III)I"⟩
abbrev cX3_names : ByteArray := prog_1_method_10_code
def yX3_names : MethodName := ⟨RX3, "names", "(I)I"⟩
abbrev cX3_tell : ByteArray := prog_1_method_11_code
def yX3_tell : MethodName := ⟨RX3, "tell", "(II)I"⟩
abbrev cX3_how : ByteArray := prog_1_method_12_code
def yX3_how : MethodName := ⟨RX3, "how", "(I)I"⟩
abbrev cX3_fault : ByteArray := prog_1_method_13_code
def yX3_fault : MethodName := ⟨RX3, "fault", "(II)I"⟩
abbrev cX3_law : ByteArray := prog_1_method_14_code
def yX3_law : MethodName := ⟨RX3, "law", "(IIII)I"⟩
abbrev cX3_drop : ByteArray := prog_1_method_15_code
def yX3_drop : MethodName := ⟨RX3, "drop", "(I)I"⟩
abbrev cX3_weight : ByteArray := prog_1_method_16_code
def yX3_weight : MethodName := ⟨RX3, "weight", "(II)I"⟩
abbrev cX3_told : ByteArray := prog_1_method_17_code
def yX3_told : MethodName := ⟨RX3, "told", "(II)I"⟩
abbrev cX3_mark : ByteArray := prog_1_method_18_code
def yX3_mark : MethodName := ⟨RX3, "mark", "(II)I"⟩
abbrev cX3_worlds : ByteArray := prog_1_method_19_code
def yX3_worlds : MethodName := ⟨RX3, "worlds", "()I"⟩
abbrev cX3_cost : ByteArray := prog_1_method_20_code
def yX3_cost : MethodName := ⟨RX3, "cost", "(I)I"⟩
abbrev cX3_broken : ByteArray := prog_1_method_21_code
def yX3_broken : MethodName := ⟨RX3, "broken", "(II)I"⟩
abbrev cX3_likeliest : ByteArray := prog_1_method_22_code
def yX3_likeliest : MethodName := ⟨RX3, "likeliest", "()I"⟩
abbrev cX3_near : ByteArray := prog_1_method_23_code
def yX3_near : MethodName := ⟨RX3, "near", "(I)I"⟩
abbrev cX3_odds : ByteArray := prog_1_method_24_code
def yX3_odds : MethodName := ⟨RX3, "odds", "(I)I"⟩
abbrev cX3_both : ByteArray := prog_1_method_25_code
def yX3_both : MethodName := ⟨RX3, "both", "(II)I"⟩
abbrev cX3_given : ByteArray := prog_1_method_26_code
def yX3_given : MethodName := ⟨RX3, "given", "(II)I"⟩
abbrev cX3_alike : ByteArray := prog_1_method_27_code
def yX3_alike : MethodName := ⟨RX3, "alike", "(II)I"⟩
abbrev cX3_draw : ByteArray := prog_1_method_28_code
def yX3_draw : MethodName := ⟨RX3, "draw", "(III)I"⟩
abbrev cX3_learn : ByteArray := prog_1_method_29_code
def yX3_learn : MethodName := ⟨RX3, "learn", "(III)I"⟩
abbrev cX3_pull : ByteArray := prog_1_method_30_code
def yX3_pull : MethodName := ⟨RX3, "pull", "(II)I"⟩
abbrev cX3_why : ByteArray := prog_1_method_31_code
def yX3_why : MethodName := ⟨RX3, "why", "(I)I"⟩
abbrev cX3_otherwise : ByteArray := prog_1_method_32_code
def yX3_otherwise : MethodName := ⟨RX3, "otherwise", "(III)I"⟩
abbrev cX3_act : ByteArray := prog_1_method_33_code
def yX3_act : MethodName := ⟨RX3, "act", "(II)I"⟩
abbrev cX3_look : ByteArray := prog_1_method_34_code
def yX3_look : MethodName := ⟨RX3, "look", "(III)I"⟩
abbrev cX3_wrong : ByteArray := prog_1_method_35_code
def yX3_wrong : MethodName := ⟨RX3, "wrong", "()I"⟩
abbrev cX3_held : ByteArray := prog_1_method_36_code
def yX3_held : MethodName := ⟨RX3, "held", "(II)I"⟩
abbrev cX3_asked : ByteArray := prog_1_method_37_code
def yX3_asked : MethodName := ⟨RX3, "asked", "()I"⟩
abbrev cX3_upper : ByteArray := prog_1_method_38_code
def yX3_upper : MethodName := ⟨RX3, "upper", "()J"⟩
abbrev cX3_lower : ByteArray := prog_1_method_39_code
def yX3_lower : MethodName := ⟨RX3, "lower", "()J"⟩
abbrev cX3_count : ByteArray := prog_1_method_40_code
def yX3_count : MethodName := ⟨RX3, "count", "(I)I"⟩
abbrev cX3_finding : ByteArray := prog_1_method_41_code
def yX3_finding : MethodName := ⟨RX3, "finding", "()I"⟩
abbrev cX3_findings : ByteArray := prog_1_method_42_code
def yX3_findings : MethodName := ⟨RX3, "findings", "(I)I"⟩
abbrev cX3_digest : ByteArray := prog_1_method_43_code
def yX3_digest : MethodName := ⟨RX3, "digest", "()J"⟩
abbrev cX3_found : ByteArray := prog_1_method_44_code
def yX3_found : MethodName := ⟨RX3, "found", "(I)I"⟩
abbrev cX3_makeOn : ByteArray := prog_1_method_45_code
def yX3_makeOn : MethodName := ⟨RX3, "makeOn", "(LWeightedLaws$Shelf;III)I"⟩
abbrev cX3_refusalOfPlace : ByteArray := prog_1_method_46_code
def yX3_refusalOfPlace : MethodName := ⟨RX3, "refusalOfPlace", "(LWeightedLaws$Shelf;II)I"⟩
abbrev cX3_tellShare : ByteArray := prog_1_method_47_code
def yX3_tellShare : MethodName := ⟨RX3, "tellShare", "(JJ)I"⟩
abbrev cX3_tellFraction : ByteArray := prog_1_method_48_code
def yX3_tellFraction : MethodName := ⟨RX3, "tellFraction", "(JJ)V"⟩
abbrev cX3_commonDivisor : ByteArray := prog_1_method_49_code
def yX3_commonDivisor : MethodName := ⟨RX3, "commonDivisor", "(JJ)J"⟩
abbrev cX3_isSaying : ByteArray := prog_1_method_50_code
def yX3_isSaying : MethodName := ⟨RX3, "isSaying", "(I)Z"⟩
abbrev cX3_isTelling : ByteArray := prog_1_method_51_code
def yX3_isTelling : MethodName := ⟨RX3, "isTelling", "(I)Z"⟩
abbrev cX3_isName : ByteArray := prog_1_method_52_code
def yX3_isName : MethodName := ⟨RX3, "isName", "(I)Z"⟩
abbrev cX3_isOfNames : ByteArray := prog_1_method_53_code
def yX3_isOfNames : MethodName := ⟨RX3, "isOfNames", "(II)Z"⟩
abbrev cX3_withNamesChanged : ByteArray := prog_1_method_54_code
def yX3_withNamesChanged : MethodName := ⟨RX3, "withNamesChanged", "(III)I"⟩
abbrev cX3_changedName : ByteArray := prog_1_method_55_code
def yX3_changedName : MethodName := ⟨RX3, "changedName", "(III)I"⟩
abbrev cX3_wouldSeekTooMany : ByteArray := prog_1_method_56_code
def yX3_wouldSeekTooMany : MethodName := ⟨RX3, "wouldSeekTooMany", "(II)Z"⟩
abbrev cX3_countTold : ByteArray := prog_1_method_57_code
def yX3_countTold : MethodName := ⟨RX3, "countTold", "(II)I"⟩
abbrev cX3_isLaw : ByteArray := prog_1_method_58_code
def yX3_isLaw : MethodName := ⟨RX3, "isLaw", "(I)Z"⟩
abbrev cX3_isKind : ByteArray := prog_1_method_59_code
def yX3_isKind : MethodName := ⟨RX3, "isKind", "(I)Z"⟩
abbrev cX3_isWeight : ByteArray := prog_1_method_60_code
def yX3_isWeight : MethodName := ⟨RX3, "isWeight", "(I)Z"⟩
abbrev cX3_isHard : ByteArray := prog_1_method_61_code
def yX3_isHard : MethodName := ⟨RX3, "isHard", "(I)Z"⟩
abbrev cX3_isSoft : ByteArray := prog_1_method_62_code
def yX3_isSoft : MethodName := ⟨RX3, "isSoft", "(I)Z"⟩
abbrev cX3_isOfKind : ByteArray := prog_1_method_63_code
def yX3_isOfKind : MethodName := ⟨RX3, "isOfKind", "(LWeightedLaws$Law;I)Z"⟩
abbrev cX3_markOf : ByteArray := prog_1_method_64_code
def yX3_markOf : MethodName := ⟨RX3, "markOf", "(LWeightedLaws$Law;I)I"⟩
abbrev cX3_toldOf : ByteArray := prog_1_method_65_code
def yX3_toldOf : MethodName := ⟨RX3, "toldOf", "(LWeightedLaws$Law;I)I"⟩
abbrev cX3_countLaws : ByteArray := prog_1_method_66_code
def yX3_countLaws : MethodName := ⟨RX3, "countLaws", "(Z)I"⟩
abbrev cX3_digestOfLaw : ByteArray := prog_1_method_67_code
def yX3_digestOfLaw : MethodName := ⟨RX3, "digestOfLaw", "(JLWeightedLaws$Law;)J"⟩
abbrev cX3_areThere : ByteArray := prog_1_method_68_code
def yX3_areThere : MethodName := ⟨RX3, "areThere", "(I)Z"⟩
abbrev cX3_isWorld : ByteArray := prog_1_method_69_code
def yX3_isWorld : MethodName := ⟨RX3, "isWorld", "(I)Z"⟩
abbrev cX3_survey : ByteArray := prog_1_method_70_code
def yX3_survey : MethodName := ⟨RX3, "survey", "(I)V"⟩
abbrev cX3_surveyTold : ByteArray := prog_1_method_71_code
def yX3_surveyTold : MethodName := ⟨RX3, "surveyTold", "(II)V"⟩
abbrev cX3_fallOfCost : ByteArray := prog_1_method_72_code
def yX3_fallOfCost : MethodName := ⟨RX3, "fallOfCost", "(II)I"⟩
abbrev cX3_isUnlikelyWithout : ByteArray := prog_1_method_73_code
def yX3_isUnlikelyWithout : MethodName := ⟨RX3, "isUnlikelyWithout", "(II)Z"⟩
abbrev cX3_nextNumber : ByteArray := prog_1_method_74_code
def yX3_nextNumber : MethodName := ⟨RX3, "nextNumber", "(I)I"⟩
abbrev cX3_fifteenBits : ByteArray := prog_1_method_75_code
def yX3_fifteenBits : MethodName := ⟨RX3, "fifteenBits", "(I)I"⟩
abbrev cX3_findingOfLearned : ByteArray := prog_1_method_76_code
def yX3_findingOfLearned : MethodName := ⟨RX3, "findingOfLearned", "(I)I"⟩
abbrev cX3_bestCode : ByteArray := prog_1_method_77_code
def yX3_bestCode : MethodName := ⟨RX3, "bestCode", "(III)I"⟩
abbrev cX3_compareParts : ByteArray := prog_1_method_78_code
def yX3_compareParts : MethodName := ⟨RX3, "compareParts", "(IJIJ)I"⟩
abbrev cX3_setWeights : ByteArray := prog_1_method_79_code
def yX3_setWeights : MethodName := ⟨RX3, "setWeights", "(II)V"⟩
abbrev cX3_sumOf : ByteArray := prog_1_method_80_code
def yX3_sumOf : MethodName := ⟨RX3, "sumOf", "(I)I"⟩
abbrev cX3_figuresOf : ByteArray := prog_1_method_81_code
def yX3_figuresOf : MethodName := ⟨RX3, "figuresOf", "(I)I"⟩
abbrev cX3_surveyForActs : ByteArray := prog_1_method_82_code
def yX3_surveyForActs : MethodName := ⟨RX3, "surveyForActs", "(I)I"⟩
abbrev cX3_findingOfWorths : ByteArray := prog_1_method_83_code
def yX3_findingOfWorths : MethodName := ⟨RX3, "findingOfWorths", "(I)I"⟩
abbrev cX3_findingOfHeld : ByteArray := prog_1_method_84_code
def yX3_findingOfHeld : MethodName := ⟨RX3, "findingOfHeld", "(I)I"⟩
abbrev cX3_worthOf : ByteArray := prog_1_method_85_code
def yX3_worthOf : MethodName := ⟨RX3, "worthOf", "(IIJJ)J"⟩
abbrev cX3_bestAct : ByteArray := prog_1_method_86_code
def yX3_bestAct : MethodName := ⟨RX3, "bestAct", "(IJJ)I"⟩
abbrev cX3_greatestWorth : ByteArray := prog_1_method_87_code
def yX3_greatestWorth : MethodName := ⟨RX3, "greatestWorth", "(IJJ)J"⟩
def RX4 : String := "WeightedLawsModel"
def TX4 : u_T := fun k => match k with
  | 0 => ("WeightedLawsModel", "finding", "I", false)
  | 1 => ("WeightedLawsModel", "findings", "[I", true)
  | 2 => ("WeightedLawsModel", "asked", "I", false)
  | 3 => ("WeightedLawsModel", "upper", "J", false)
  | 4 => ("WeightedLawsModel", "lower", "J", false)
  | 5 => ("WeightedLawsModel", "sizes", "[I", true)
  | 6 => ("WeightedLawsModel", "rows", "[I", true)
  | 7 => ("WeightedLawsModel", "moving", "[I", true)
  | 8 => ("WeightedLawsModel", "lengths", "[I", true)
  | 9 => ("WeightedLawsModel", "texts", "[I", true)
  | 10 => ("WeightedLawsModel", "nameMany", "I", false)
  | 11 => ("WeightedLawsModel", "tolds", "[I", true)
  | 12 => ("WeightedLawsModel", "readAt", "I", false)
  | 13 => ("WeightedLawsModel", "readMany", "I", false)
  | 14 => ("WeightedLawsModel", "readFigure", "I", false)
  | 15 => ("WeightedLawsModel", "readNot", "[Z", true)
  | 16 => ("WeightedLawsModel", "readSort", "[I", true)
  | 17 => ("WeightedLawsModel", "readOne", "[I", true)
  | 18 => ("WeightedLawsModel", "readTwo", "[I", true)
  | 19 => ("WeightedLawsModel", "kinds", "[I", true)
  | 20 => ("WeightedLawsModel", "weights", "[I", true)
  | 21 => ("WeightedLawsModel", "figures", "[I", true)
  | 22 => ("WeightedLawsModel", "partMany", "[I", true)
  | 23 => ("WeightedLawsModel", "partNot", "[Z", true)
  | 24 => ("WeightedLawsModel", "partSort", "[I", true)
  | 25 => ("WeightedLawsModel", "partOne", "[I", true)
  | 26 => ("WeightedLawsModel", "partTwo", "[I", true)
  | 27 => ("WeightedLawsModel", "bitOf", "[I", true)
  | 28 => ("WeightedLawsModel", "worldMany", "I", false)
  | 29 => ("WeightedLawsModel", "table", "[I", true)
  | 30 => ("WeightedLawsModel", "best", "I", false)
  | 31 => ("WeightedLawsModel", "bestCost", "I", false)
  | 32 => ("WeightedLawsModel", "costs", "[I", true)
  | 33 => ("WeightedLawsModel", "shares", "[J", true)
  | 34 => ("WeightedLawsModel", "allShares", "J", false)
  | 35 => ("WeightedLawsModel", "bestPair", "I", false)
  | _ => ("WeightedLawsModel", "h", "J", false)
def tyX4 : Nat → FieldType := fun k => match k with
  | 0 => .int
  | 1 => .array .int
  | 2 => .int
  | 3 => .long
  | 4 => .long
  | 5 => .array .int
  | 6 => .array .int
  | 7 => .array .int
  | 8 => .array .int
  | 9 => .array .int
  | 10 => .int
  | 11 => .array .int
  | 12 => .int
  | 13 => .int
  | 14 => .int
  | 15 => .array .boolean
  | 16 => .array .int
  | 17 => .array .int
  | 18 => .array .int
  | 19 => .array .int
  | 20 => .array .int
  | 21 => .array .int
  | 22 => .array .int
  | 23 => .array .boolean
  | 24 => .array .int
  | 25 => .array .int
  | 26 => .array .int
  | 27 => .array .int
  | 28 => .int
  | 29 => .array .int
  | 30 => .int
  | 31 => .int
  | 32 => .array .int
  | 33 => .array .long
  | 34 => .long
  | 35 => .int
  | _ => .long
abbrev wsX40 : List Cond := u_ws RX4 TX4 37
theorem nmX4 : ∀ a, a < 37 → ∀ b, b < 37 → a ≠ b → (TX4 a).2.1 ≠ (TX4 b).2.1 := by decide +kernel
theorem tyX4_ok : ∀ k, k < 37 → parseFieldDescriptor (TX4 k).2.2.1 = some (tyX4 k) := by decide +kernel
abbrev cX4_init : ByteArray := prog_6_method_1_code
def yX4_init : MethodName := ⟨RX4, "<init>", "()V"⟩
abbrev cX4_in : ByteArray := prog_6_method_3_code
def yX4_in : MethodName := ⟨RX4, "in", "(III)Z"⟩
abbrev cX4_meets : ByteArray := prog_6_method_4_code
def yX4_meets : MethodName := ⟨RX4, "meets", "(I)I"⟩
abbrev cX4_ask : ByteArray := prog_6_method_5_code
def yX4_ask : MethodName := ⟨RX4, "ask", "(II)I"⟩
abbrev cX4_has : ByteArray := prog_6_method_6_code
def yX4_has : MethodName := ⟨RX4, "has", "(II)Z"⟩
abbrev cX4_bits : ByteArray := prog_6_method_7_code
def yX4_bits : MethodName := ⟨RX4, "bits", "(I)I"⟩
abbrev cX4_share : ByteArray := prog_6_method_8_code
def yX4_share : MethodName := ⟨RX4, "share", "(JJI)I"⟩
abbrev cX4_isRow : ByteArray := prog_6_method_9_code
def yX4_isRow : MethodName := ⟨RX4, "isRow", "(I)Z"⟩
abbrev cX4_isText : ByteArray := prog_6_method_10_code
def yX4_isText : MethodName := ⟨RX4, "isText", "(I)Z"⟩
abbrev cX4_askedRow : ByteArray := prog_6_method_11_code
def yX4_askedRow : MethodName := ⟨RX4, "askedRow", "(I)I"⟩
abbrev cX4_askedText : ByteArray := prog_6_method_12_code
def yX4_askedText : MethodName := ⟨RX4, "askedText", "(I)I"⟩
abbrev cX4_rowAt : ByteArray := prog_6_method_13_code
def yX4_rowAt : MethodName := ⟨RX4, "rowAt", "(II)I"⟩
abbrev cX4_row : ByteArray := prog_6_method_14_code
def yX4_row : MethodName := ⟨RX4, "row", "(II)I"⟩
abbrev cX4_at : ByteArray := prog_6_method_15_code
def yX4_at : MethodName := ⟨RX4, "at", "(II)I"⟩
abbrev cX4_lay : ByteArray := prog_6_method_16_code
def yX4_lay : MethodName := ⟨RX4, "lay", "(III)I"⟩
abbrev cX4_tear : ByteArray := prog_6_method_17_code
def yX4_tear : MethodName := ⟨RX4, "tear", "(I)I"⟩
abbrev cX4_copy : ByteArray := prog_6_method_18_code
def yX4_copy : MethodName := ⟨RX4, "copy", "(IIIII)I"⟩
abbrev cX4_mean : ByteArray := prog_6_method_19_code
def yX4_mean : MethodName := ⟨RX4, "mean", "(I)I"⟩
abbrev cX4_text : ByteArray := prog_6_method_20_code
def yX4_text : MethodName := ⟨RX4, "text", "(II)I"⟩
abbrev cX4_put : ByteArray := prog_6_method_21_code
def yX4_put : MethodName := ⟨RX4, "put", "(III)I"⟩
abbrev cX4_isSaying : ByteArray := prog_6_method_22_code
def yX4_isSaying : MethodName := ⟨RX4, "isSaying", "(I)Z"⟩
abbrev cX4_lastName : ByteArray := prog_6_method_23_code
def yX4_lastName : MethodName := ⟨RX4, "lastName", "(I)I"⟩
abbrev cX4_names : ByteArray := prog_6_method_24_code
def yX4_names : MethodName := ⟨RX4, "names", "(I)I"⟩
abbrev cX4_toldMany : ByteArray := prog_6_method_25_code
def yX4_toldMany : MethodName := ⟨RX4, "toldMany", "(II)I"⟩
abbrev cX4_askedTell : ByteArray := prog_6_method_26_code
def yX4_askedTell : MethodName := ⟨RX4, "askedTell", "(II)I"⟩
abbrev cX4_tell : ByteArray := prog_6_method_27_code
def yX4_tell : MethodName := ⟨RX4, "tell", "(II)I"⟩
abbrev cX4_how : ByteArray := prog_6_method_28_code
def yX4_how : MethodName := ⟨RX4, "how", "(I)I"⟩
abbrev cX4_here : ByteArray := prog_6_method_29_code
def yX4_here : MethodName := ⟨RX4, "here", "(I)I"⟩
abbrev cX4_skips : ByteArray := prog_6_method_30_code
def yX4_skips : MethodName := ⟨RX4, "skips", "(I)V"⟩
abbrev cX4_readsByte : ByteArray := prog_6_method_31_code
def yX4_readsByte : MethodName := ⟨RX4, "readsByte", "(II)Z"⟩
abbrev cX4_readsName : ByteArray := prog_6_method_32_code
def yX4_readsName : MethodName := ⟨RX4, "readsName", "(IZ)I"⟩
abbrev cX4_readsPart : ByteArray := prog_6_method_33_code
def yX4_readsPart : MethodName := ⟨RX4, "readsPart", "(IZ)Z"⟩
abbrev cX4_readsHead : ByteArray := prog_6_method_34_code
def yX4_readsHead : MethodName := ⟨RX4, "readsHead", "(II)Z"⟩
abbrev cX4_reads : ByteArray := prog_6_method_35_code
def yX4_reads : MethodName := ⟨RX4, "reads", "(II)I"⟩
abbrev cX4_isKind : ByteArray := prog_6_method_36_code
def yX4_isKind : MethodName := ⟨RX4, "isKind", "(I)Z"⟩
abbrev cX4_fault : ByteArray := prog_6_method_37_code
def yX4_fault : MethodName := ⟨RX4, "fault", "(II)I"⟩
abbrev cX4_isLaw : ByteArray := prog_6_method_38_code
def yX4_isLaw : MethodName := ⟨RX4, "isLaw", "(I)Z"⟩
abbrev cX4_askedLaw : ByteArray := prog_6_method_39_code
def yX4_askedLaw : MethodName := ⟨RX4, "askedLaw", "(I)I"⟩
abbrev cX4_isSoft : ByteArray := prog_6_method_40_code
def yX4_isSoft : MethodName := ⟨RX4, "isSoft", "(I)Z"⟩
abbrev cX4_isHard : ByteArray := prog_6_method_41_code
def yX4_isHard : MethodName := ⟨RX4, "isHard", "(I)Z"⟩
abbrev cX4_law : ByteArray := prog_6_method_42_code
def yX4_law : MethodName := ⟨RX4, "law", "(IIII)I"⟩
abbrev cX4_drop : ByteArray := prog_6_method_43_code
def yX4_drop : MethodName := ⟨RX4, "drop", "(I)I"⟩
abbrev cX4_hasName : ByteArray := prog_6_method_44_code
def yX4_hasName : MethodName := ⟨RX4, "hasName", "(II)Z"⟩
abbrev cX4_cases : ByteArray := prog_6_method_45_code
def yX4_cases : MethodName := ⟨RX4, "cases", "(I)I"⟩
abbrev cX4_weight : ByteArray := prog_6_method_46_code
def yX4_weight : MethodName := ⟨RX4, "weight", "(II)I"⟩
abbrev cX4_lawTells : ByteArray := prog_6_method_47_code
def yX4_lawTells : MethodName := ⟨RX4, "lawTells", "(II)I"⟩
abbrev cX4_told : ByteArray := prog_6_method_48_code
def yX4_told : MethodName := ⟨RX4, "told", "(II)I"⟩
abbrev cX4_notMany : ByteArray := prog_6_method_49_code
def yX4_notMany : MethodName := ⟨RX4, "notMany", "(I)I"⟩
abbrev cX4_sayingOf : ByteArray := prog_6_method_50_code
def yX4_sayingOf : MethodName := ⟨RX4, "sayingOf", "(III)I"⟩
abbrev cX4_markOf : ByteArray := prog_6_method_51_code
def yX4_markOf : MethodName := ⟨RX4, "markOf", "(II)I"⟩
abbrev cX4_mark : ByteArray := prog_6_method_52_code
def yX4_mark : MethodName := ⟨RX4, "mark", "(II)I"⟩
abbrev cX4_setBits : ByteArray := prog_6_method_53_code
def yX4_setBits : MethodName := ⟨RX4, "setBits", "()V"⟩
abbrev cX4_isSo : ByteArray := prog_6_method_54_code
def yX4_isSo : MethodName := ⟨RX4, "isSo", "(II)Z"⟩
abbrev cX4_holds : ByteArray := prog_6_method_55_code
def yX4_holds : MethodName := ⟨RX4, "holds", "(IIII)Z"⟩
abbrev cX4_breaks : ByteArray := prog_6_method_56_code
def yX4_breaks : MethodName := ⟨RX4, "breaks", "(II)I"⟩
abbrev cX4_setTable : ByteArray := prog_6_method_57_code
def yX4_setTable : MethodName := ⟨RX4, "setTable", "()V"⟩
abbrev cX4_costBy : ByteArray := prog_6_method_58_code
def yX4_costBy : MethodName := ⟨RX4, "costBy", "(II)I"⟩
abbrev cX4_setShares : ByteArray := prog_6_method_59_code
def yX4_setShares : MethodName := ⟨RX4, "setShares", "(I)Z"⟩
abbrev cX4_setAll : ByteArray := prog_6_method_60_code
def yX4_setAll : MethodName := ⟨RX4, "setAll", "()Z"⟩
abbrev cX4_shareOf : ByteArray := prog_6_method_61_code
def yX4_shareOf : MethodName := ⟨RX4, "shareOf", "(I)J"⟩
abbrev cX4_shareOfBoth : ByteArray := prog_6_method_62_code
def yX4_shareOfBoth : MethodName := ⟨RX4, "shareOfBoth", "(II)J"⟩
abbrev cX4_worlds : ByteArray := prog_6_method_63_code
def yX4_worlds : MethodName := ⟨RX4, "worlds", "()I"⟩
abbrev cX4_isWorld : ByteArray := prog_6_method_64_code
def yX4_isWorld : MethodName := ⟨RX4, "isWorld", "(I)Z"⟩
abbrev cX4_cost : ByteArray := prog_6_method_65_code
def yX4_cost : MethodName := ⟨RX4, "cost", "(I)I"⟩
abbrev cX4_broken : ByteArray := prog_6_method_66_code
def yX4_broken : MethodName := ⟨RX4, "broken", "(II)I"⟩
abbrev cX4_likeliest : ByteArray := prog_6_method_67_code
def yX4_likeliest : MethodName := ⟨RX4, "likeliest", "()I"⟩
abbrev cX4_near : ByteArray := prog_6_method_68_code
def yX4_near : MethodName := ⟨RX4, "near", "(I)I"⟩
abbrev cX4_odds : ByteArray := prog_6_method_69_code
def yX4_odds : MethodName := ⟨RX4, "odds", "(I)I"⟩
abbrev cX4_both : ByteArray := prog_6_method_70_code
def yX4_both : MethodName := ⟨RX4, "both", "(II)I"⟩
abbrev cX4_given : ByteArray := prog_6_method_71_code
def yX4_given : MethodName := ⟨RX4, "given", "(II)I"⟩
abbrev cX4_change : ByteArray := prog_6_method_72_code
def yX4_change : MethodName := ⟨RX4, "change", "(III)I"⟩
abbrev cX4_alike : ByteArray := prog_6_method_73_code
def yX4_alike : MethodName := ⟨RX4, "alike", "(II)I"⟩
abbrev cX4_draw : ByteArray := prog_6_method_74_code
def yX4_draw : MethodName := ⟨RX4, "draw", "(III)I"⟩
abbrev cX4_isLess : ByteArray := prog_6_method_75_code
def yX4_isLess : MethodName := ⟨RX4, "isLess", "(JJJJ)Z"⟩
abbrev cX4_layWeights : ByteArray := prog_6_method_76_code
def yX4_layWeights : MethodName := ⟨RX4, "layWeights", "(III)I"⟩
abbrev cX4_learn : ByteArray := prog_6_method_77_code
def yX4_learn : MethodName := ⟨RX4, "learn", "(III)I"⟩
abbrev cX4_pull : ByteArray := prog_6_method_78_code
def yX4_pull : MethodName := ⟨RX4, "pull", "(II)I"⟩
abbrev cX4_why : ByteArray := prog_6_method_79_code
def yX4_why : MethodName := ⟨RX4, "why", "(I)I"⟩
abbrev cX4_otherwise : ByteArray := prog_6_method_80_code
def yX4_otherwise : MethodName := ⟨RX4, "otherwise", "(III)I"⟩
abbrev cX4_askedPairs : ByteArray := prog_6_method_81_code
def yX4_askedPairs : MethodName := ⟨RX4, "askedPairs", "(I)I"⟩
abbrev cX4_bestSum : ByteArray := prog_6_method_82_code
def yX4_bestSum : MethodName := ⟨RX4, "bestSum", "(IJJ)J"⟩
abbrev cX4_act : ByteArray := prog_6_method_83_code
def yX4_act : MethodName := ⟨RX4, "act", "(II)I"⟩
abbrev cX4_look : ByteArray := prog_6_method_84_code
def yX4_look : MethodName := ⟨RX4, "look", "(III)I"⟩
abbrev cX4_wrong : ByteArray := prog_6_method_85_code
def yX4_wrong : MethodName := ⟨RX4, "wrong", "()I"⟩
abbrev cX4_held : ByteArray := prog_6_method_86_code
def yX4_held : MethodName := ⟨RX4, "held", "(II)I"⟩
abbrev cX4_asked : ByteArray := prog_6_method_87_code
def yX4_asked : MethodName := ⟨RX4, "asked", "()I"⟩
abbrev cX4_upper : ByteArray := prog_6_method_88_code
def yX4_upper : MethodName := ⟨RX4, "upper", "()J"⟩
abbrev cX4_lower : ByteArray := prog_6_method_89_code
def yX4_lower : MethodName := ⟨RX4, "lower", "()J"⟩
abbrev cX4_counts : ByteArray := prog_6_method_90_code
def yX4_counts : MethodName := ⟨RX4, "counts", "(I)I"⟩
abbrev cX4_count : ByteArray := prog_6_method_91_code
def yX4_count : MethodName := ⟨RX4, "count", "(I)I"⟩
abbrev cX4_finding : ByteArray := prog_6_method_92_code
def yX4_finding : MethodName := ⟨RX4, "finding", "()I"⟩
abbrev cX4_findings : ByteArray := prog_6_method_93_code
def yX4_findings : MethodName := ⟨RX4, "findings", "(I)I"⟩
abbrev cX4_mix : ByteArray := prog_6_method_94_code
def yX4_mix : MethodName := ⟨RX4, "mix", "(I)V"⟩
abbrev cX4_digest : ByteArray := prog_6_method_95_code
def yX4_digest : MethodName := ⟨RX4, "digest", "()J"⟩
def RJ6 : String := "java/lang/Integer"
def TJ6 : u_T := fun k => match k with
  | _ => ("", "", "", false)
def tyJ6 : Nat → FieldType := fun k => match k with
  | _ => .int
abbrev wsJ60 : List Cond := u_ws RJ6 TJ6 0
theorem nmJ6 : ∀ a, a < 0 → ∀ b, b < 0 → a ≠ b → (TJ6 a).2.1 ≠ (TJ6 b).2.1 := by decide +kernel
theorem tyJ6_ok : ∀ k, k < 0 → parseFieldDescriptor (TJ6 k).2.2.1 = some (tyJ6 k) := by decide +kernel
abbrev cJ6_compare_7cf53 : ByteArray := prog_7_method_40_code
def yJ6_compare_7cf53 : MethodName := ⟨RJ6, "compare", "(II)I"⟩
abbrev cJ6_bitCount_0f7a4 : ByteArray := prog_7_method_49_code
def yJ6_bitCount_0f7a4 : MethodName := ⟨RJ6, "bitCount", "(I)I"⟩
def RJ13 : String := "java/lang/Long"
def TJ13 : u_T := fun k => match k with
  | _ => ("", "", "", false)
def tyJ13 : Nat → FieldType := fun k => match k with
  | _ => .int
abbrev wsJ130 : List Cond := u_ws RJ13 TJ13 0
theorem nmJ13 : ∀ a, a < 0 → ∀ b, b < 0 → a ≠ b → (TJ13 a).2.1 ≠ (TJ13 b).2.1 := by decide +kernel
theorem tyJ13_ok : ∀ k, k < 0 → parseFieldDescriptor (TJ13 k).2.2.1 = some (tyJ13 k) := by decide +kernel
abbrev cJ13_compare_74951 : ByteArray := prog_8_method_42_code
def yJ13_compare_74951 : MethodName := ⟨RJ13, "compare", "(JJ)I"⟩
def RJ9 : String := "java/lang/Math"
def TJ9 : u_T := fun k => match k with
  | _ => ("", "", "", false)
def tyJ9 : Nat → FieldType := fun k => match k with
  | _ => .int
abbrev wsJ90 : List Cond := u_ws RJ9 TJ9 0
theorem nmJ9 : ∀ a, a < 0 → ∀ b, b < 0 → a ≠ b → (TJ9 a).2.1 ≠ (TJ9 b).2.1 := by decide +kernel
theorem tyJ9_ok : ∀ k, k < 0 → parseFieldDescriptor (TJ9 k).2.2.1 = some (tyJ9 k) := by decide +kernel
abbrev cJ9_abs_0f7a4 : ByteArray := prog_9_method_59_code
def yJ9_abs_0f7a4 : MethodName := ⟨RJ9, "abs", "(I)I"⟩
abbrev cJ9_abs_067f4 : ByteArray := prog_9_method_61_code
def yJ9_abs_067f4 : MethodName := ⟨RJ9, "abs", "(J)J"⟩
abbrev cJ9_max_7cf53 : ByteArray := prog_9_method_65_code
def yJ9_max_7cf53 : MethodName := ⟨RJ9, "max", "(II)I"⟩
abbrev cJ9_min_7cf53 : ByteArray := prog_9_method_69_code
def yJ9_min_7cf53 : MethodName := ⟨RJ9, "min", "(II)I"⟩
def RJ10 : String := "java/lang/System"
def TJ10 : u_T := fun k => match k with
  | _ => ("", "", "", false)
def tyJ10 : Nat → FieldType := fun k => match k with
  | _ => .int
abbrev wsJ100 : List Cond := u_ws RJ10 TJ10 0
theorem nmJ10 : ∀ a, a < 0 → ∀ b, b < 0 → a ≠ b → (TJ10 a).2.1 ≠ (TJ10 b).2.1 := by decide +kernel
theorem tyJ10_ok : ∀ k, k < 0 → parseFieldDescriptor (TJ10 k).2.2.1 = some (tyJ10 k) := by decide +kernel
def RJ7 : String := "java/util/Arrays"
def TJ7 : u_T := fun k => match k with
  | _ => ("", "", "", false)
def tyJ7 : Nat → FieldType := fun k => match k with
  | _ => .int
abbrev wsJ70 : List Cond := u_ws RJ7 TJ7 0
theorem nmJ7 : ∀ a, a < 0 → ∀ b, b < 0 → a ≠ b → (TJ7 a).2.1 ≠ (TJ7 b).2.1 := by decide +kernel
theorem tyJ7_ok : ∀ k, k < 0 → parseFieldDescriptor (TJ7 k).2.2.1 = some (tyJ7 k) := by decide +kernel
abbrev cJ7_fill_d0a16 : ByteArray := prog_11_method_101_code
def yJ7_fill_d0a16 : MethodName := ⟨RJ7, "fill", "([JJ)V"⟩
abbrev cJ7_fill_53178 : ByteArray := prog_11_method_103_code
def yJ7_fill_53178 : MethodName := ⟨RJ7, "fill", "([II)V"⟩
def RL : String := "WeightedLawsLaw"
abbrev cL_law : ByteArray := code
def yL_law : MethodName := ⟨RL, "law", "([I)Z"⟩
def wsL_law_r1 : List Cond := [Cond.classLink RL 7 RX3, Cond.instantiable RX3 13, Cond.initialized RX3, Cond.classLink RL 10 RX4, Cond.instantiable RX4 37, Cond.initialized RX4, Cond.methodLink RL 9 yX3_init, Cond.instanceMethod yX3_init, Cond.code yX3_init cX3_init 2 none, Cond.methodLink RX3 1 objectInit, Cond.instanceMethod objectInit, Cond.code objectInit ⟨#[0xb1]⟩ 1 none, Cond.classLink RX3 7 RX1, Cond.instantiable RX1 2, Cond.initialized RX1, Cond.fieldLink RX3 14 "WeightedLaws" "rows" "LWeightedLaws$Shelf;", Cond.fieldLink RX3 18 "WeightedLaws" "texts" "LWeightedLaws$Shelf;", Cond.arrayClass .int, Cond.fieldLink RX3 21 "WeightedLaws" "tellings" "[I", Cond.classLink RX3 25 RX0, Cond.fieldLink RX3 27 "WeightedLaws" "lawSlots" "[LWeightedLaws$Law;", Cond.classLink RX3 31 RX2, Cond.instantiable RX2 10, Cond.initialized RX2]
def wsL_law_r2 : List Cond := [Cond.fieldLink RX3 34 "WeightedLaws" "table" "LWeightedLaws$Worlds;", Cond.fieldLink RX3 38 "WeightedLaws" "findingCounts" "[I", Cond.instantiable RX0 9, Cond.initialized RX0, Cond.fieldLink RX3 42 "WeightedLaws" "draft" "LWeightedLaws$Law;", Cond.fieldLink RX3 46 "WeightedLaws" "nameCount" "I", Cond.fieldLink RX3 50 "WeightedLaws" "stale" "Z", Cond.fieldLink RX3 54 "WeightedLaws" "askedNumber" "I", Cond.fieldLink RX3 57 "WeightedLaws" "upperNumber" "J", Cond.fieldLink RX3 61 "WeightedLaws" "lowerNumber" "J", Cond.fieldLink RX3 64 "WeightedLaws" "latestFinding" "I", Cond.methodLink RX3 11 yX1_init, Cond.instanceMethod yX1_init, Cond.code yX1_init cX1_init 3 none, Cond.methodLink RX1 3 objectInit, Cond.methodLink RX1 9 Lib.Math.max.name, Cond.static Lib.Math.max.name, Cond.initialized "java/lang/Math", Cond.code Lib.Math.max.name Lib.Math.max.code 2 (some .int), Cond.classLink RX1 15 "[[I", Cond.fieldLink RX1 17 "WeightedLaws$Shelf" "places" "[[I", Cond.fieldLink RX1 22 "WeightedLaws$Shelf" "sizes" "[I", Cond.methodLink RX1 26 yJ7_fill_53178, Cond.static yJ7_fill_53178]
def wsL_law_r3 : List Cond := [Cond.initialized RJ7, Cond.code yJ7_fill_53178 cJ7_fill_53178 4 none, Cond.instanceMethod yX2_init, Cond.code yX2_init cX2_init 1 none, Cond.methodLink RX2 3 objectInit, Cond.fieldLink RX2 9 "WeightedLaws$Worlds" "number" "I", Cond.fieldLink RX2 15 "WeightedLaws$Worlds" "open" "I", Cond.fieldLink RX2 18 "WeightedLaws$Worlds" "truths" "[I", Cond.arrayClass .long, Cond.fieldLink RX2 22 "WeightedLaws$Worlds" "breaks" "[J", Cond.fieldLink RX2 26 "WeightedLaws$Worlds" "costs" "[I", Cond.fieldLink RX2 29 "WeightedLaws$Worlds" "shares" "[J", Cond.fieldLink RX2 32 "WeightedLaws$Worlds" "weights" "[I", Cond.fieldLink RX2 35 "WeightedLaws$Worlds" "best" "I", Cond.fieldLink RX2 38 "WeightedLaws$Worlds" "leastCost" "I", Cond.fieldLink RX2 41 "WeightedLaws$Worlds" "allShares" "J", Cond.instanceMethod yX0_init, Cond.code yX0_init cX0_init 1 none, Cond.methodLink RX0 3 objectInit, Cond.fieldLink RX0 9 "WeightedLaws$Law" "there" "Z", Cond.fieldLink RX0 15 "WeightedLaws$Law" "kind" "I", Cond.fieldLink RX0 19 "WeightedLaws$Law" "weight" "I", Cond.fieldLink RX0 22 "WeightedLaws$Law" "least" "I", Cond.fieldLink RX0 25 "WeightedLaws$Law" "parts" "I"]
def wsL_law_r4 : List Cond := [Cond.fieldLink RX0 28 "WeightedLaws$Law" "bases" "[I", Cond.fieldLink RX0 32 "WeightedLaws$Law" "firsts" "[I", Cond.fieldLink RX0 35 "WeightedLaws$Law" "lasts" "[I", Cond.arrayClass .boolean, Cond.fieldLink RX0 38 "WeightedLaws$Law" "denied" "[Z", Cond.methodLink RL 12 yX4_init, Cond.instanceMethod yX4_init, Cond.code yX4_init cX4_init 2 none, Cond.methodLink RX4 1 objectInit, Cond.fieldLink RX4 7 "WeightedLawsModel" "findings" "[I", Cond.fieldLink RX4 13 "WeightedLawsModel" "lower" "J", Cond.fieldLink RX4 17 "WeightedLawsModel" "sizes" "[I", Cond.fieldLink RX4 20 "WeightedLawsModel" "rows" "[I", Cond.fieldLink RX4 23 "WeightedLawsModel" "moving" "[I", Cond.fieldLink RX4 26 "WeightedLawsModel" "lengths" "[I", Cond.fieldLink RX4 29 "WeightedLawsModel" "texts" "[I", Cond.fieldLink RX4 32 "WeightedLawsModel" "nameMany" "I", Cond.fieldLink RX4 36 "WeightedLawsModel" "tolds" "[I", Cond.fieldLink RX4 39 "WeightedLawsModel" "readNot" "[Z", Cond.fieldLink RX4 43 "WeightedLawsModel" "readSort" "[I", Cond.fieldLink RX4 46 "WeightedLawsModel" "readOne" "[I", Cond.fieldLink RX4 49 "WeightedLawsModel" "readTwo" "[I", Cond.fieldLink RX4 52 "WeightedLawsModel" "kinds" "[I", Cond.fieldLink RX4 55 "WeightedLawsModel" "weights" "[I"]
def wsL_law_r5 : List Cond := [Cond.fieldLink RX4 58 "WeightedLawsModel" "figures" "[I", Cond.fieldLink RX4 61 "WeightedLawsModel" "partMany" "[I", Cond.fieldLink RX4 64 "WeightedLawsModel" "partNot" "[Z", Cond.fieldLink RX4 67 "WeightedLawsModel" "partSort" "[I", Cond.fieldLink RX4 70 "WeightedLawsModel" "partOne" "[I", Cond.fieldLink RX4 73 "WeightedLawsModel" "partTwo" "[I", Cond.fieldLink RX4 76 "WeightedLawsModel" "bitOf" "[I", Cond.fieldLink RX4 79 "WeightedLawsModel" "table" "[I", Cond.fieldLink RX4 82 "WeightedLawsModel" "costs" "[I", Cond.fieldLink RX4 85 "WeightedLawsModel" "shares" "[J", Cond.methodLink RL 13 yX3_row, Cond.instanceMethod yX3_row, Cond.selects RX3 yX3_row yX3_row, Cond.code yX3_row cX3_row 3 (some .int), Cond.methodLink RX3 67 yX3_makeOn, Cond.instanceMethod yX3_makeOn, Cond.selects RX3 yX3_makeOn yX3_makeOn, Cond.code yX3_makeOn cX3_makeOn 5 (some .int), Cond.methodLink RX3 83 yX1_isNumber, Cond.instanceMethod yX1_isNumber, Cond.selects RX1 yX1_isNumber yX1_isNumber, Cond.code yX1_isNumber cX1_isNumber 2 (some .boolean), Cond.methodLink RX3 90 yX3_found, Cond.instanceMethod yX3_found]
def wsL_law_r6 : List Cond := [Cond.selects RX3 yX3_found yX3_found, Cond.code yX3_found cX3_found 2 (some .int), Cond.methodLink RX3 308 yX1_make, Cond.instanceMethod yX1_make, Cond.selects RX1 yX1_make yX1_make, Cond.code yX1_make cX1_make 4 none, Cond.methodLink RX1 32 yX1_isNumber, Cond.methodLink RL 17 yX4_row, Cond.instanceMethod yX4_row, Cond.selects RX4 yX4_row yX4_row, Cond.code yX4_row cX4_row 4 (some .int), Cond.methodLink RX4 102 yX4_isRow, Cond.static yX4_isRow, Cond.code yX4_isRow cX4_isRow 1 (some .boolean), Cond.methodLink RX4 98 yX4_in, Cond.static yX4_in, Cond.code yX4_in cX4_in 3 (some .boolean), Cond.methodLink RX4 106 yX4_meets, Cond.instanceMethod yX4_meets, Cond.selects RX4 yX4_meets yX4_meets, Cond.code yX4_meets cX4_meets 2 (some .int), Cond.fieldLink RX4 89 "WeightedLawsModel" "finding" "I", Cond.methodLink RL 18 yX3_lay, Cond.instanceMethod yX3_lay]
def wsL_law_r7 : List Cond := [Cond.selects RX3 yX3_lay yX3_lay, Cond.code yX3_lay cX3_lay 5 (some .int), Cond.methodLink RX3 71 yX3_refusalOfPlace, Cond.instanceMethod yX3_refusalOfPlace, Cond.selects RX3 yX3_refusalOfPlace yX3_refusalOfPlace, Cond.code yX3_refusalOfPlace cX3_refusalOfPlace 4 (some .int), Cond.methodLink RX3 87 yX1_has, Cond.instanceMethod yX1_has, Cond.selects RX1 yX1_has yX1_has, Cond.code yX1_has cX1_has 2 (some .boolean), Cond.methodLink RX3 97 yX1_hasPlaces, Cond.instanceMethod yX1_hasPlaces, Cond.selects RX1 yX1_hasPlaces yX1_hasPlaces, Cond.code yX1_hasPlaces cX1_hasPlaces 4 (some .boolean), Cond.methodLink RX1 36 yX1_has, Cond.methodLink RX3 75 yX1_placeOf, Cond.instanceMethod yX1_placeOf, Cond.selects RX1 yX1_placeOf yX1_placeOf, Cond.code yX1_placeOf cX1_placeOf 3 (some .int), Cond.methodLink RX1 39 yX1_hasPlaces, Cond.methodLink RX3 79 yX1_change, Cond.instanceMethod yX1_change, Cond.selects RX1 yX1_change yX1_change, Cond.code yX1_change cX1_change 4 none]
def wsL_law_r8 : List Cond := [Cond.methodLink RL 22 yX4_lay, Cond.instanceMethod yX4_lay, Cond.selects RX4 yX4_lay yX4_lay, Cond.code yX4_lay cX4_lay 5 (some .int), Cond.methodLink RX4 123 yX4_at, Cond.instanceMethod yX4_at, Cond.selects RX4 yX4_at yX4_at, Cond.code yX4_at cX4_at 4 (some .int), Cond.methodLink RX4 113 yX4_askedRow, Cond.instanceMethod yX4_askedRow, Cond.selects RX4 yX4_askedRow yX4_askedRow, Cond.code yX4_askedRow cX4_askedRow 2 (some .int), Cond.methodLink RX4 116 yX4_rowAt, Cond.instanceMethod yX4_rowAt, Cond.selects RX4 yX4_rowAt yX4_rowAt, Cond.code yX4_rowAt cX4_rowAt 3 (some .int), Cond.methodLink RX4 120 yX4_ask, Cond.instanceMethod yX4_ask, Cond.selects RX4 yX4_ask yX4_ask, Cond.code yX4_ask cX4_ask 3 (some .int), Cond.fieldLink RX4 92 "WeightedLawsModel" "asked" "I", Cond.methodLink RL 23 yX3_at, Cond.instanceMethod yX3_at, Cond.selects RX3 yX3_at yX3_at]
def wsL_law_r9 : List Cond := [Cond.code yX3_at cX3_at 4 (some .int), Cond.methodLink RL 26 yX4_at, Cond.methodLink RL 27 yX3_tear, Cond.instanceMethod yX3_tear, Cond.selects RX3 yX3_tear yX3_tear, Cond.code yX3_tear cX3_tear 2 (some .int), Cond.methodLink RX3 94 yX1_remove, Cond.instanceMethod yX1_remove, Cond.selects RX1 yX1_remove yX1_remove, Cond.code yX1_remove cX1_remove 2 none, Cond.methodLink RL 31 yX4_tear, Cond.instanceMethod yX4_tear, Cond.selects RX4 yX4_tear yX4_tear, Cond.code yX4_tear cX4_tear 3 (some .int), Cond.methodLink RL 32 yX3_copy, Cond.instanceMethod yX3_copy, Cond.selects RX3 yX3_copy yX3_copy, Cond.code yX3_copy cX3_copy 6 (some .int), Cond.methodLink RX3 101 yX1_move, Cond.instanceMethod yX1_move, Cond.selects RX1 yX1_move yX1_move, Cond.code yX1_move cX1_move 6 none, Cond.methodLink RX1 43 arraycopyName, Cond.native arraycopyName]
def wsL_law_r10 : List Cond := [Cond.static arraycopyName, Cond.initialized "java/lang/System", Cond.methodLink RL 36 yX4_copy, Cond.instanceMethod yX4_copy, Cond.selects RX4 yX4_copy yX4_copy, Cond.code yX4_copy cX4_copy 7 (some .int), Cond.methodLink RL 37 yX3_mean, Cond.instanceMethod yX3_mean, Cond.selects RX3 yX3_mean yX3_mean, Cond.code yX3_mean cX3_mean 3 (some .int), Cond.methodLink RX3 105 yX1_sizeOf, Cond.instanceMethod yX1_sizeOf, Cond.selects RX1 yX1_sizeOf yX1_sizeOf, Cond.code yX1_sizeOf cX1_sizeOf 2 (some .int), Cond.methodLink RX3 108 yX1_sumOf, Cond.instanceMethod yX1_sumOf, Cond.selects RX1 yX1_sumOf yX1_sumOf, Cond.code yX1_sumOf cX1_sumOf 5 (some .long), Cond.methodLink RX1 49 yX1_sizeOf, Cond.methodLink RL 40 yX4_mean, Cond.instanceMethod yX4_mean, Cond.selects RX4 yX4_mean yX4_mean, Cond.code yX4_mean cX4_mean 6 (some .int), Cond.methodLink RL 41 yX3_text]
def wsL_law_r11 : List Cond := [Cond.instanceMethod yX3_text, Cond.selects RX3 yX3_text yX3_text, Cond.code yX3_text cX3_text 3 (some .int), Cond.methodLink RL 44 yX4_text, Cond.instanceMethod yX4_text, Cond.selects RX4 yX4_text yX4_text, Cond.code yX4_text cX4_text 4 (some .int), Cond.methodLink RX4 110 yX4_isText, Cond.static yX4_isText, Cond.code yX4_isText cX4_isText 1 (some .boolean), Cond.methodLink RL 45 yX3_put, Cond.instanceMethod yX3_put, Cond.selects RX3 yX3_put yX3_put, Cond.code yX3_put cX3_put 6 (some .int), Cond.methodLink RL 48 yX4_put, Cond.instanceMethod yX4_put, Cond.selects RX4 yX4_put yX4_put, Cond.code yX4_put cX4_put 6 (some .int), Cond.methodLink RX4 126 yX4_askedText, Cond.instanceMethod yX4_askedText, Cond.selects RX4 yX4_askedText yX4_askedText, Cond.code yX4_askedText cX4_askedText 2 (some .int), Cond.methodLink RL 49 yX3_names, Cond.instanceMethod yX3_names]
def wsL_law_r12 : List Cond := [Cond.selects RX3 yX3_names yX3_names, Cond.code yX3_names cX3_names 3 (some .int), Cond.methodLink RX3 112 yX3_isOfNames, Cond.static yX3_isOfNames, Cond.code yX3_isOfNames cX3_isOfNames 3 (some .boolean), Cond.methodLink RL 52 yX4_names, Cond.instanceMethod yX4_names, Cond.selects RX4 yX4_names yX4_names, Cond.code yX4_names cX4_names 3 (some .int), Cond.methodLink RX4 129 yX4_lastName, Cond.static yX4_lastName, Cond.code yX4_lastName cX4_lastName 3 (some .int), Cond.methodLink RL 53 yX3_tell, Cond.instanceMethod yX3_tell, Cond.selects RX3 yX3_tell yX3_tell, Cond.code yX3_tell cX3_tell 4 (some .int), Cond.methodLink RX3 116 yX3_isSaying, Cond.static yX3_isSaying, Cond.code yX3_isSaying cX3_isSaying 1 (some .boolean), Cond.methodLink RX3 119 yX3_isTelling, Cond.static yX3_isTelling, Cond.code yX3_isTelling cX3_isTelling 1 (some .boolean), Cond.methodLink RX3 122 yX3_wouldSeekTooMany, Cond.instanceMethod yX3_wouldSeekTooMany]
def wsL_law_r13 : List Cond := [Cond.selects RX3 yX3_wouldSeekTooMany yX3_wouldSeekTooMany, Cond.code yX3_wouldSeekTooMany cX3_wouldSeekTooMany 3 (some .boolean), Cond.methodLink RX3 163 yX3_countTold, Cond.instanceMethod yX3_countTold, Cond.selects RX3 yX3_countTold yX3_countTold, Cond.code yX3_countTold cX3_countTold 5 (some .int), Cond.methodLink RL 56 yX4_tell, Cond.instanceMethod yX4_tell, Cond.selects RX4 yX4_tell yX4_tell, Cond.code yX4_tell cX4_tell 5 (some .int), Cond.methodLink RX4 138 yX4_askedTell, Cond.instanceMethod yX4_askedTell, Cond.selects RX4 yX4_askedTell yX4_askedTell, Cond.code yX4_askedTell cX4_askedTell 3 (some .int), Cond.methodLink RX4 132 yX4_isSaying, Cond.static yX4_isSaying, Cond.code yX4_isSaying cX4_isSaying 1 (some .boolean), Cond.methodLink RX4 135 yX4_toldMany, Cond.instanceMethod yX4_toldMany, Cond.selects RX4 yX4_toldMany yX4_toldMany, Cond.code yX4_toldMany cX4_toldMany 5 (some .int), Cond.methodLink RL 57 yX3_how, Cond.instanceMethod yX3_how, Cond.selects RX3 yX3_how yX3_how]
def wsL_law_r14 : List Cond := [Cond.code yX3_how cX3_how 2 (some .int), Cond.methodLink RL 60 yX4_how, Cond.instanceMethod yX4_how, Cond.selects RX4 yX4_how yX4_how, Cond.code yX4_how cX4_how 2 (some .int), Cond.methodLink RL 61 yX3_fault, Cond.instanceMethod yX3_fault, Cond.selects RX3 yX3_fault yX3_fault, Cond.code yX3_fault cX3_fault 3 (some .int), Cond.methodLink RX3 125 yX3_isKind, Cond.static yX3_isKind, Cond.code yX3_isKind cX3_isKind 1 (some .boolean), Cond.methodLink RX3 128 yX0_read, Cond.instanceMethod yX0_read, Cond.selects RX0 yX0_read yX0_read, Cond.code yX0_read cX0_read 7 (some .int), Cond.methodLink RX0 42 yX1_sizeOf, Cond.methodLink RX0 48 yX1_placeOf, Cond.methodLink RX0 52 yX0_stateAfter, Cond.instanceMethod yX0_stateAfter, Cond.selects RX0 yX0_stateAfter yX0_stateAfter, Cond.code yX0_stateAfter cX0_stateAfter 3 (some .int), Cond.methodLink RX0 55 yX0_afterHead, Cond.instanceMethod yX0_afterHead]
def wsL_law_r15 : List Cond := [Cond.selects RX0 yX0_afterHead yX0_afterHead, Cond.code yX0_afterHead cX0_afterHead 2 (some .int), Cond.methodLink RX0 61 yX0_afterPartStart, Cond.instanceMethod yX0_afterPartStart, Cond.selects RX0 yX0_afterPartStart yX0_afterPartStart, Cond.code yX0_afterPartStart cX0_afterPartStart 2 (some .int), Cond.methodLink RX0 64 yX0_afterLetter, Cond.instanceMethod yX0_afterLetter, Cond.selects RX0 yX0_afterLetter yX0_afterLetter, Cond.code yX0_afterLetter cX0_afterLetter 2 (some .int), Cond.methodLink RX0 58 yX0_afterFigure, Cond.instanceMethod yX0_afterFigure, Cond.selects RX0 yX0_afterFigure yX0_afterFigure, Cond.code yX0_afterFigure cX0_afterFigure 2 (some .int), Cond.methodLink RX0 67 yX0_afterFirst, Cond.instanceMethod yX0_afterFirst, Cond.selects RX0 yX0_afterFirst yX0_afterFirst, Cond.code yX0_afterFirst cX0_afterFirst 2 (some .int), Cond.methodLink RX0 76 yX0_isVariable, Cond.instanceMethod yX0_isVariable, Cond.selects RX0 yX0_isVariable yX0_isVariable, Cond.code yX0_isVariable cX0_isVariable 2 (some .boolean), Cond.methodLink RX0 80 yX0_isOverNames, Cond.instanceMethod yX0_isOverNames]
def wsL_law_r16 : List Cond := [Cond.selects RX0 yX0_isOverNames yX0_isOverNames, Cond.code yX0_isOverNames cX0_isOverNames 1 (some .boolean), Cond.methodLink RX0 70 yX0_afterLast, Cond.instanceMethod yX0_afterLast, Cond.selects RX0 yX0_afterLast yX0_afterLast, Cond.code yX0_afterLast cX0_afterLast 2 (some .int), Cond.methodLink RX0 73 yX0_afterPart, Cond.instanceMethod yX0_afterPart, Cond.selects RX0 yX0_afterPart yX0_afterPart, Cond.code yX0_afterPart cX0_afterPart 3 (some .int), Cond.methodLink RL 64 yX4_fault, Cond.instanceMethod yX4_fault, Cond.selects RX4 yX4_fault yX4_fault, Cond.code yX4_fault cX4_fault 4 (some .int), Cond.methodLink RX4 172 yX4_isKind, Cond.static yX4_isKind, Cond.code yX4_isKind cX4_isKind 1 (some .boolean), Cond.methodLink RX4 175 yX4_reads, Cond.instanceMethod yX4_reads, Cond.selects RX4 yX4_reads yX4_reads, Cond.code yX4_reads cX4_reads 5 (some .int), Cond.fieldLink RX4 141 "WeightedLawsModel" "readAt" "I", Cond.fieldLink RX4 151 "WeightedLawsModel" "readMany" "I", Cond.methodLink RX4 161 yX4_skips]
def wsL_law_r17 : List Cond := [Cond.instanceMethod yX4_skips, Cond.selects RX4 yX4_skips yX4_skips, Cond.code yX4_skips cX4_skips 2 none, Cond.methodLink RX4 144 yX4_here, Cond.instanceMethod yX4_here, Cond.selects RX4 yX4_here yX4_here, Cond.code yX4_here cX4_here 2 (some .int), Cond.methodLink RX4 165 yX4_readsHead, Cond.instanceMethod yX4_readsHead, Cond.selects RX4 yX4_readsHead yX4_readsHead, Cond.code yX4_readsHead cX4_readsHead 3 (some .boolean), Cond.fieldLink RX4 158 "WeightedLawsModel" "readFigure" "I", Cond.methodLink RX4 147 yX4_readsByte, Cond.instanceMethod yX4_readsByte, Cond.selects RX4 yX4_readsByte yX4_readsByte, Cond.code yX4_readsByte cX4_readsByte 4 (some .boolean), Cond.methodLink RX4 168 yX4_readsPart, Cond.instanceMethod yX4_readsPart, Cond.selects RX4 yX4_readsPart yX4_readsPart, Cond.code yX4_readsPart cX4_readsPart 5 (some .boolean), Cond.methodLink RX4 154 yX4_readsName, Cond.instanceMethod yX4_readsName, Cond.selects RX4 yX4_readsName yX4_readsName, Cond.code yX4_readsName cX4_readsName 3 (some .int)]
def wsL_law_r18 : List Cond := [Cond.methodLink RL 65 yX3_law, Cond.instanceMethod yX3_law, Cond.selects RX3 yX3_law yX3_law, Cond.code yX3_law cX3_law 6 (some .int), Cond.methodLink RX3 131 yX3_isLaw, Cond.static yX3_isLaw, Cond.code yX3_isLaw cX3_isLaw 1 (some .boolean), Cond.methodLink RX3 134 yX3_isSoft, Cond.static yX3_isSoft, Cond.code yX3_isSoft cX3_isSoft 1 (some .boolean), Cond.methodLink RX3 137 yX3_isWeight, Cond.static yX3_isWeight, Cond.code yX3_isWeight cX3_isWeight 1 (some .boolean), Cond.methodLink RX3 146 yX0_caseCount, Cond.instanceMethod yX0_caseCount, Cond.selects RX0 yX0_caseCount yX0_caseCount, Cond.code yX0_caseCount cX0_caseCount 2 (some .int), Cond.methodLink RX0 84 yX0_choices, Cond.instanceMethod yX0_choices, Cond.selects RX0 yX0_choices yX0_choices, Cond.code yX0_choices cX0_choices 3 (some .int), Cond.methodLink RX0 87 yX0_has, Cond.instanceMethod yX0_has, Cond.selects RX0 yX0_has yX0_has]
def wsL_law_r19 : List Cond := [Cond.code yX0_has cX0_has 3 (some .boolean), Cond.methodLink RL 69 yX4_law, Cond.instanceMethod yX4_law, Cond.selects RX4 yX4_law yX4_law, Cond.code yX4_law cX4_law 6 (some .int), Cond.methodLink RX4 178 yX4_isLaw, Cond.static yX4_isLaw, Cond.code yX4_isLaw cX4_isLaw 1 (some .boolean), Cond.methodLink RX4 181 yX4_isSoft, Cond.static yX4_isSoft, Cond.code yX4_isSoft cX4_isSoft 1 (some .boolean), Cond.methodLink RX4 184 yX4_cases, Cond.instanceMethod yX4_cases, Cond.selects RX4 yX4_cases yX4_cases, Cond.code yX4_cases cX4_cases 2 (some .int), Cond.methodLink RX4 190 yX4_hasName, Cond.instanceMethod yX4_hasName, Cond.selects RX4 yX4_hasName yX4_hasName, Cond.code yX4_hasName cX4_hasName 5 (some .boolean), Cond.methodLink RL 70 yX3_drop, Cond.instanceMethod yX3_drop, Cond.selects RX3 yX3_drop yX3_drop, Cond.code yX3_drop cX3_drop 2 (some .int), Cond.methodLink RL 73 yX4_drop]
def wsL_law_r20 : List Cond := [Cond.instanceMethod yX4_drop, Cond.selects RX4 yX4_drop yX4_drop, Cond.code yX4_drop cX4_drop 3 (some .int), Cond.methodLink RX4 187 yX4_askedLaw, Cond.instanceMethod yX4_askedLaw, Cond.selects RX4 yX4_askedLaw yX4_askedLaw, Cond.code yX4_askedLaw cX4_askedLaw 2 (some .int), Cond.methodLink RL 74 yX3_weight, Cond.instanceMethod yX3_weight, Cond.selects RX3 yX3_weight yX3_weight, Cond.code yX3_weight cX3_weight 4 (some .int), Cond.methodLink RL 77 yX4_weight, Cond.instanceMethod yX4_weight, Cond.selects RX4 yX4_weight yX4_weight, Cond.code yX4_weight cX4_weight 5 (some .int), Cond.methodLink RL 78 yX3_told, Cond.instanceMethod yX3_told, Cond.selects RX3 yX3_told yX3_told, Cond.code yX3_told cX3_told 3 (some .int), Cond.methodLink RX3 152 yX3_toldOf, Cond.instanceMethod yX3_toldOf, Cond.selects RX3 yX3_toldOf yX3_toldOf, Cond.code yX3_toldOf cX3_toldOf 3 (some .int), Cond.methodLink RL 81 yX4_told]
def wsL_law_r21 : List Cond := [Cond.instanceMethod yX4_told, Cond.selects RX4 yX4_told yX4_told, Cond.code yX4_told cX4_told 4 (some .int), Cond.methodLink RX4 193 yX4_lawTells, Cond.instanceMethod yX4_lawTells, Cond.selects RX4 yX4_lawTells yX4_lawTells, Cond.code yX4_lawTells cX4_lawTells 3 (some .int), Cond.methodLink RL 82 yX3_mark, Cond.instanceMethod yX3_mark, Cond.selects RX3 yX3_mark yX3_mark, Cond.code yX3_mark cX3_mark 3 (some .int), Cond.methodLink RX3 156 yX3_isOfKind, Cond.static yX3_isOfKind, Cond.code yX3_isOfKind cX3_isOfKind 2 (some .boolean), Cond.methodLink RX3 323 yX3_isHard, Cond.static yX3_isHard, Cond.code yX3_isHard cX3_isHard 1 (some .boolean), Cond.methodLink RX3 160 yX3_markOf, Cond.static yX3_markOf, Cond.code yX3_markOf cX3_markOf 2 (some .int), Cond.methodLink RX3 326 yX0_countDenied, Cond.instanceMethod yX0_countDenied, Cond.selects RX0 yX0_countDenied yX0_countDenied, Cond.code yX0_countDenied cX0_countDenied 3 (some .int)]
def wsL_law_r22 : List Cond := [Cond.methodLink RX3 332 yX0_sayingOf, Cond.instanceMethod yX0_sayingOf, Cond.selects RX0 yX0_sayingOf yX0_sayingOf, Cond.code yX0_sayingOf cX0_sayingOf 5 (some .int), Cond.methodLink RL 85 yX4_mark, Cond.instanceMethod yX4_mark, Cond.selects RX4 yX4_mark yX4_mark, Cond.code yX4_mark cX4_mark 5 (some .int), Cond.methodLink RX4 203 yX4_markOf, Cond.instanceMethod yX4_markOf, Cond.selects RX4 yX4_markOf yX4_markOf, Cond.code yX4_markOf cX4_markOf 3 (some .int), Cond.methodLink RX4 196 yX4_notMany, Cond.instanceMethod yX4_notMany, Cond.selects RX4 yX4_notMany yX4_notMany, Cond.code yX4_notMany cX4_notMany 4 (some .int), Cond.methodLink RX4 199 yX4_sayingOf, Cond.static yX4_sayingOf, Cond.code yX4_sayingOf cX4_sayingOf 3 (some .int), Cond.methodLink RL 86 yX3_worlds, Cond.instanceMethod yX3_worlds, Cond.selects RX3 yX3_worlds yX3_worlds, Cond.code yX3_worlds cX3_worlds 1 (some .int), Cond.methodLink RL 90 yX4_worlds]
def wsL_law_r23 : List Cond := [Cond.instanceMethod yX4_worlds, Cond.selects RX4 yX4_worlds yX4_worlds, Cond.code yX4_worlds cX4_worlds 1 (some .int), Cond.fieldLink RX4 206 "WeightedLawsModel" "worldMany" "I", Cond.methodLink RX4 219 yX4_setBits, Cond.instanceMethod yX4_setBits, Cond.selects RX4 yX4_setBits yX4_setBits, Cond.code yX4_setBits cX4_setBits 3 none, Cond.methodLink RL 91 yX3_cost, Cond.instanceMethod yX3_cost, Cond.selects RX3 yX3_cost yX3_cost, Cond.code yX3_cost cX3_cost 2 (some .int), Cond.methodLink RX3 166 yX3_isWorld, Cond.instanceMethod yX3_isWorld, Cond.selects RX3 yX3_isWorld yX3_isWorld, Cond.code yX3_isWorld cX3_isWorld 2 (some .boolean), Cond.methodLink RX3 169 yX3_survey, Cond.instanceMethod yX3_survey, Cond.selects RX3 yX3_survey yX3_survey, Cond.code yX3_survey cX3_survey 2 none, Cond.methodLink RX3 338 yX2_gather, Cond.instanceMethod yX2_gather, Cond.selects RX2 yX2_gather yX2_gather, Cond.code yX2_gather cX2_gather 5 none]
def wsL_law_r24 : List Cond := [Cond.methodLink RX2 45 yX2_listTruths, Cond.instanceMethod yX2_listTruths, Cond.selects RX2 yX2_listTruths yX2_listTruths, Cond.code yX2_listTruths cX2_listTruths 3 none, Cond.methodLink RX2 68 yX2_splitBy, Cond.instanceMethod yX2_splitBy, Cond.selects RX2 yX2_splitBy yX2_splitBy, Cond.code yX2_splitBy cX2_splitBy 3 none, Cond.methodLink RX2 49 yJ7_fill_d0a16, Cond.static yJ7_fill_d0a16, Cond.code yJ7_fill_d0a16 cJ7_fill_d0a16 5 none, Cond.methodLink RX2 64 yX2_addBreaks, Cond.instanceMethod yX2_addBreaks, Cond.selects RX2 yX2_addBreaks yX2_addBreaks, Cond.code yX2_addBreaks cX2_addBreaks 6 none, Cond.methodLink RX2 72 yX0_isOverNames, Cond.methodLink RX2 76 yX2_addBreaksOverNames, Cond.instanceMethod yX2_addBreaksOverNames, Cond.selects RX2 yX2_addBreaksOverNames yX2_addBreaksOverNames, Cond.code yX2_addBreaksOverNames cX2_addBreaksOverNames 5 none, Cond.methodLink RX2 91 yX0_isBrokenBy, Cond.instanceMethod yX0_isBrokenBy, Cond.selects RX0 yX0_isBrokenBy yX0_isBrokenBy, Cond.code yX0_isBrokenBy cX0_isBrokenBy 6 (some .boolean)]
def wsL_law_r25 : List Cond := [Cond.methodLink RX0 90 yX0_sayingOf, Cond.methodLink RX2 79 yX0_choices, Cond.methodLink RX2 83 yX0_sayingsOf, Cond.instanceMethod yX0_sayingsOf, Cond.selects RX0 yX0_sayingsOf yX0_sayingsOf, Cond.code yX0_sayingsOf cX0_sayingsOf 6 (some .int), Cond.methodLink RX2 87 yX2_addCase, Cond.instanceMethod yX2_addCase, Cond.selects RX2 yX2_addCase yX2_addCase, Cond.code yX2_addCase cX2_addCase 7 none, Cond.methodLink RX3 342 yX2_weigh, Cond.instanceMethod yX2_weigh, Cond.selects RX2 yX2_weigh yX2_weigh, Cond.code yX2_weigh cX2_weigh 7 none, Cond.constantLong RX2 105 (255), Cond.constant RX2 107 (1000000), Cond.methodLink RX2 108 yX2_softCost, Cond.instanceMethod yX2_softCost, Cond.selects RX2 yX2_softCost yX2_softCost, Cond.code yX2_softCost cX2_softCost 4 (some .int), Cond.methodLink RX2 118 yX2_breaksOf, Cond.instanceMethod yX2_breaksOf, Cond.selects RX2 yX2_breaksOf yX2_breaksOf, Cond.code yX2_breaksOf cX2_breaksOf 3 (some .int)]
def wsL_law_r26 : List Cond := [Cond.methodLink RX2 112 yX2_shareOut, Cond.instanceMethod yX2_shareOut, Cond.selects RX2 yX2_shareOut yX2_shareOut, Cond.code yX2_shareOut cX2_shareOut 3 none, Cond.methodLink RX2 115 yX2_sharePowerOf, Cond.instanceMethod yX2_sharePowerOf, Cond.selects RX2 yX2_sharePowerOf yX2_sharePowerOf, Cond.code yX2_sharePowerOf cX2_sharePowerOf 3 (some .int), Cond.methodLink RX2 121 yX2_isBarred, Cond.instanceMethod yX2_isBarred, Cond.selects RX2 yX2_isBarred yX2_isBarred, Cond.code yX2_isBarred cX2_isBarred 2 (some .boolean), Cond.methodLink RX3 172 yX2_hardBreaks, Cond.instanceMethod yX2_hardBreaks, Cond.selects RX2 yX2_hardBreaks yX2_hardBreaks, Cond.code yX2_hardBreaks cX2_hardBreaks 5 (some .int), Cond.methodLink RX3 176 yX2_softCost, Cond.methodLink RL 94 yX4_cost, Cond.instanceMethod yX4_cost, Cond.selects RX4 yX4_cost yX4_cost, Cond.code yX4_cost cX4_cost 6 (some .int), Cond.methodLink RX4 246 yX4_isWorld, Cond.instanceMethod yX4_isWorld, Cond.selects RX4 yX4_isWorld yX4_isWorld]
def wsL_law_r27 : List Cond := [Cond.code yX4_isWorld cX4_isWorld 2 (some .boolean), Cond.methodLink RX4 222 yX4_breaks, Cond.instanceMethod yX4_breaks, Cond.selects RX4 yX4_breaks yX4_breaks, Cond.code yX4_breaks cX4_breaks 10 (some .int), Cond.methodLink RX4 215 yX4_holds, Cond.instanceMethod yX4_holds, Cond.selects RX4 yX4_holds yX4_holds, Cond.code yX4_holds cX4_holds 7 (some .boolean), Cond.methodLink RX4 212 yX4_isSo, Cond.instanceMethod yX4_isSo, Cond.selects RX4 yX4_isSo yX4_isSo, Cond.code yX4_isSo cX4_isSo 3 (some .boolean), Cond.methodLink RX4 209 yX4_has, Cond.static yX4_has, Cond.code yX4_has cX4_has 2 (some .boolean), Cond.methodLink RX4 225 yX4_isHard, Cond.static yX4_isHard, Cond.code yX4_isHard cX4_isHard 1 (some .boolean), Cond.methodLink RL 95 yX3_broken, Cond.instanceMethod yX3_broken, Cond.selects RX3 yX3_broken yX3_broken, Cond.code yX3_broken cX3_broken 3 (some .int), Cond.methodLink RX3 179 yX2_breaksOf]
def wsL_law_r28 : List Cond := [Cond.methodLink RL 98 yX4_broken, Cond.instanceMethod yX4_broken, Cond.selects RX4 yX4_broken yX4_broken, Cond.code yX4_broken cX4_broken 3 (some .int), Cond.methodLink RL 99 yX3_likeliest, Cond.instanceMethod yX3_likeliest, Cond.selects RX3 yX3_likeliest yX3_likeliest, Cond.code yX3_likeliest cX3_likeliest 1 (some .int), Cond.methodLink RX3 182 yX2_isEmpty, Cond.instanceMethod yX2_isEmpty, Cond.selects RX2 yX2_isEmpty yX2_isEmpty, Cond.code yX2_isEmpty cX2_isEmpty 1 (some .boolean), Cond.methodLink RL 102 yX4_likeliest, Cond.instanceMethod yX4_likeliest, Cond.selects RX4 yX4_likeliest yX4_likeliest, Cond.code yX4_likeliest cX4_likeliest 1 (some .int), Cond.fieldLink RX4 234 "WeightedLawsModel" "bestCost" "I", Cond.fieldLink RX4 228 "WeightedLawsModel" "best" "I", Cond.methodLink RX4 249 yX4_setAll, Cond.instanceMethod yX4_setAll, Cond.selects RX4 yX4_setAll yX4_setAll, Cond.code yX4_setAll cX4_setAll 1 (some .boolean), Cond.methodLink RX4 240 yX4_setTable, Cond.instanceMethod yX4_setTable]
def wsL_law_r29 : List Cond := [Cond.selects RX4 yX4_setTable yX4_setTable, Cond.code yX4_setTable cX4_setTable 3 none, Cond.methodLink RX4 243 yX4_setShares, Cond.instanceMethod yX4_setShares, Cond.selects RX4 yX4_setShares yX4_setShares, Cond.code yX4_setShares cX4_setShares 4 (some .boolean), Cond.fieldLink RX4 237 "WeightedLawsModel" "allShares" "J", Cond.methodLink RX4 231 yX4_costBy, Cond.instanceMethod yX4_costBy, Cond.selects RX4 yX4_costBy yX4_costBy, Cond.code yX4_costBy cX4_costBy 6 (some .int), Cond.methodLink RL 103 yX3_near, Cond.instanceMethod yX3_near, Cond.selects RX3 yX3_near yX3_near, Cond.code yX3_near cX3_near 2 (some .int), Cond.methodLink RX3 192 yX2_countWithin, Cond.instanceMethod yX2_countWithin, Cond.selects RX2 yX2_countWithin yX2_countWithin, Cond.code yX2_countWithin cX2_countWithin 4 (some .int), Cond.methodLink RL 106 yX4_near, Cond.instanceMethod yX4_near, Cond.selects RX4 yX4_near yX4_near, Cond.code yX4_near cX4_near 5 (some .int), Cond.methodLink RL 107 yX3_odds]
def wsL_law_r30 : List Cond := [Cond.instanceMethod yX3_odds, Cond.selects RX3 yX3_odds yX3_odds, Cond.code yX3_odds cX3_odds 2 (some .int), Cond.methodLink RX3 195 yX2_sharesOf, Cond.instanceMethod yX2_sharesOf, Cond.selects RX2 yX2_sharesOf yX2_sharesOf, Cond.code yX2_sharesOf cX2_sharesOf 5 (some .long), Cond.methodLink RX3 201 yX3_tellShare, Cond.instanceMethod yX3_tellShare, Cond.selects RX3 yX3_tellShare yX3_tellShare, Cond.code yX3_tellShare cX3_tellShare 5 (some .int), Cond.methodLink RX3 248 yX3_tellFraction, Cond.instanceMethod yX3_tellFraction, Cond.selects RX3 yX3_tellFraction yX3_tellFraction, Cond.code yX3_tellFraction cX3_tellFraction 7 none, Cond.methodLink RX3 311 Lib.MathLoose.abs_long.x, Cond.static Lib.MathLoose.abs_long.x, Cond.code Lib.MathLoose.abs_long.x Lib.MathLoose.abs_long.code 2 (some .long), Cond.methodLink RX3 316 yX3_commonDivisor, Cond.static yX3_commonDivisor, Cond.code yX3_commonDivisor cX3_commonDivisor 11 (some .long), Cond.methodLink RL 110 yX4_odds, Cond.instanceMethod yX4_odds, Cond.selects RX4 yX4_odds yX4_odds]
def wsL_law_r31 : List Cond := [Cond.code yX4_odds cX4_odds 2 (some .int), Cond.methodLink RX4 253 yX4_shareOf, Cond.instanceMethod yX4_shareOf, Cond.selects RX4 yX4_shareOf yX4_shareOf, Cond.code yX4_shareOf cX4_shareOf 5 (some .long), Cond.methodLink RX4 257 yX4_share, Cond.instanceMethod yX4_share, Cond.selects RX4 yX4_share yX4_share, Cond.code yX4_share cX4_share 12 (some .int), Cond.fieldLink RX4 95 "WeightedLawsModel" "upper" "J", Cond.methodLink RL 111 yX3_both, Cond.instanceMethod yX3_both, Cond.selects RX3 yX3_both yX3_both, Cond.code yX3_both cX3_both 3 (some .int), Cond.methodLink RL 114 yX4_both, Cond.instanceMethod yX4_both, Cond.selects RX4 yX4_both yX4_both, Cond.code yX4_both cX4_both 3 (some .int), Cond.methodLink RX4 261 yX4_shareOfBoth, Cond.instanceMethod yX4_shareOfBoth, Cond.selects RX4 yX4_shareOfBoth yX4_shareOfBoth, Cond.code yX4_shareOfBoth cX4_shareOfBoth 6 (some .long), Cond.methodLink RL 115 yX3_given, Cond.instanceMethod yX3_given]
def wsL_law_r32 : List Cond := [Cond.selects RX3 yX3_given yX3_given, Cond.code yX3_given cX3_given 3 (some .int), Cond.methodLink RL 118 yX4_given, Cond.instanceMethod yX4_given, Cond.selects RX4 yX4_given yX4_given, Cond.code yX4_given cX4_given 4 (some .int), Cond.methodLink RL 119 yX3_alike, Cond.instanceMethod yX3_alike, Cond.selects RX3 yX3_alike yX3_alike, Cond.code yX3_alike cX3_alike 4 (some .int), Cond.methodLink RX3 205 yX3_isName, Cond.instanceMethod yX3_isName, Cond.selects RX3 yX3_isName yX3_isName, Cond.code yX3_isName cX3_isName 2 (some .boolean), Cond.methodLink RX3 208 yX3_withNamesChanged, Cond.static yX3_withNamesChanged, Cond.code yX3_withNamesChanged cX3_withNamesChanged 6 (some .int), Cond.methodLink RX3 320 yX3_changedName, Cond.static yX3_changedName, Cond.code yX3_changedName cX3_changedName 3 (some .int), Cond.methodLink RL 122 yX4_alike, Cond.instanceMethod yX4_alike, Cond.selects RX4 yX4_alike yX4_alike, Cond.code yX4_alike cX4_alike 6 (some .int)]
def wsL_law_r33 : List Cond := [Cond.methodLink RX4 265 yX4_change, Cond.static yX4_change, Cond.code yX4_change cX4_change 3 (some .int), Cond.methodLink RL 123 yX3_draw, Cond.instanceMethod yX3_draw, Cond.selects RX3 yX3_draw yX3_draw, Cond.code yX3_draw cX3_draw 11 (some .int), Cond.constantLong RX3 218 (32768), Cond.methodLink RX3 212 yX3_nextNumber, Cond.static yX3_nextNumber, Cond.code yX3_nextNumber cX3_nextNumber 1 (some .int), Cond.constant RX3 349 (1103515245), Cond.methodLink RX3 215 yX3_fifteenBits, Cond.static yX3_fifteenBits, Cond.code yX3_fifteenBits cX3_fifteenBits 1 (some .int), Cond.methodLink RX3 220 yX2_worldAbove, Cond.instanceMethod yX2_worldAbove, Cond.selects RX2 yX2_worldAbove yX2_worldAbove, Cond.code yX2_worldAbove cX2_worldAbove 6 (some .int), Cond.methodLink RX3 224 yX2_isSo, Cond.instanceMethod yX2_isSo, Cond.selects RX2 yX2_isSo yX2_isSo, Cond.code yX2_isSo cX2_isSo 3 (some .boolean), Cond.methodLink RL 126 yX4_draw]
def wsL_law_r34 : List Cond := [Cond.instanceMethod yX4_draw, Cond.selects RX4 yX4_draw yX4_draw, Cond.code yX4_draw cX4_draw 14 (some .int), Cond.constant RX4 268 (1103515245), Cond.constantLong RX4 269 (32768), Cond.methodLink RL 127 yX3_learn, Cond.instanceMethod yX3_learn, Cond.selects RX3 yX3_learn yX3_learn, Cond.code yX3_learn cX3_learn 6 (some .int), Cond.methodLink RX3 227 yJ6_bitCount_0f7a4, Cond.static yJ6_bitCount_0f7a4, Cond.initialized RJ6, Cond.code yJ6_bitCount_0f7a4 cJ6_bitCount_0f7a4 1 (some .int), Cond.constant RJ6 265 (1431655765), Cond.constant RJ6 266 (858993459), Cond.constant RJ6 267 (252645135), Cond.methodLink RX3 232 yX3_findingOfLearned, Cond.instanceMethod yX3_findingOfLearned, Cond.selects RX3 yX3_findingOfLearned yX3_findingOfLearned, Cond.code yX3_findingOfLearned cX3_findingOfLearned 3 (some .int), Cond.methodLink RX3 255 yX3_areThere, Cond.instanceMethod yX3_areThere, Cond.selects RX3 yX3_areThere yX3_areThere, Cond.code yX3_areThere cX3_areThere 3 (some .boolean)]
def wsL_law_r35 : List Cond := [Cond.methodLink RX3 235 yX2_isBarred, Cond.methodLink RX3 238 yX3_bestCode, Cond.instanceMethod yX3_bestCode, Cond.selects RX3 yX3_bestCode yX3_bestCode, Cond.code yX3_bestCode cX3_bestCode 12 (some .int), Cond.methodLink RX3 241 yX3_setWeights, Cond.instanceMethod yX3_setWeights, Cond.selects RX3 yX3_setWeights yX3_setWeights, Cond.code yX3_setWeights cX3_setWeights 5 none, Cond.methodLink RX3 350 yX2_sharePowerOf, Cond.methodLink RX3 353 yX3_sumOf, Cond.static yX3_sumOf, Cond.code yX3_sumOf cX3_sumOf 1 (some .int), Cond.methodLink RX3 355 yX3_compareParts, Cond.static yX3_compareParts, Cond.code yX3_compareParts cX3_compareParts 7 (some .int), Cond.methodLink RX3 362 Lib.Math.abs.name, Cond.static Lib.Math.abs.name, Cond.code Lib.Math.abs.name Lib.Math.abs.code 1 (some .int), Cond.methodLink RX3 364 Lib.Math.min.name, Cond.static Lib.Math.min.name, Cond.code Lib.Math.min.name Lib.Math.min.code 2 (some .int), Cond.methodLink RX3 359 yJ6_compare_7cf53, Cond.static yJ6_compare_7cf53]
def wsL_law_r36 : List Cond := [Cond.code yJ6_compare_7cf53 cJ6_compare_7cf53 2 (some .int), Cond.methodLink RX3 367 yJ13_compare_74951, Cond.static yJ13_compare_74951, Cond.initialized RJ13, Cond.code yJ13_compare_74951 cJ13_compare_74951 4 (some .int), Cond.methodLink RX3 245 yX2_shareOf, Cond.instanceMethod yX2_shareOf, Cond.selects RX2 yX2_shareOf yX2_shareOf, Cond.code yX2_shareOf cX2_shareOf 2 (some .long), Cond.methodLink RX3 252 yX3_figuresOf, Cond.static yX3_figuresOf, Cond.code yX3_figuresOf cX3_figuresOf 1 (some .int), Cond.methodLink RL 130 yX4_learn, Cond.instanceMethod yX4_learn, Cond.selects RX4 yX4_learn yX4_learn, Cond.code yX4_learn cX4_learn 20 (some .int), Cond.methodLink RX4 271 yX4_bits, Cond.static yX4_bits, Cond.code yX4_bits cX4_bits 3 (some .int), Cond.methodLink RX4 274 yX4_layWeights, Cond.instanceMethod yX4_layWeights, Cond.selects RX4 yX4_layWeights yX4_layWeights, Cond.code yX4_layWeights cX4_layWeights 7 (some .int), Cond.methodLink RX4 277 yX4_isLess]
def wsL_law_r37 : List Cond := [Cond.static yX4_isLess, Cond.code yX4_isLess cX4_isLess 19 (some .boolean), Cond.methodLink RL 131 yX3_pull, Cond.instanceMethod yX3_pull, Cond.selects RX3 yX3_pull yX3_pull, Cond.code yX3_pull cX3_pull 11 (some .int), Cond.methodLink RL 134 yX4_pull, Cond.instanceMethod yX4_pull, Cond.selects RX4 yX4_pull yX4_pull, Cond.code yX4_pull cX4_pull 8 (some .int), Cond.methodLink RL 135 yX3_why, Cond.instanceMethod yX3_why, Cond.selects RX3 yX3_why yX3_why, Cond.code yX3_why cX3_why 4 (some .int), Cond.methodLink RX3 258 yX3_isUnlikelyWithout, Cond.instanceMethod yX3_isUnlikelyWithout, Cond.selects RX3 yX3_isUnlikelyWithout yX3_isUnlikelyWithout, Cond.code yX3_isUnlikelyWithout cX3_isUnlikelyWithout 3 (some .boolean), Cond.constantLong RX3 347 (2), Cond.methodLink RL 138 yX4_why, Cond.instanceMethod yX4_why, Cond.selects RX4 yX4_why yX4_why, Cond.code yX4_why cX4_why 5 (some .int), Cond.constantLong RX4 281 (2)]
def wsL_law_r38 : List Cond := [Cond.methodLink RL 139 yX3_otherwise, Cond.instanceMethod yX3_otherwise, Cond.selects RX3 yX3_otherwise yX3_otherwise, Cond.code yX3_otherwise cX3_otherwise 4 (some .int), Cond.methodLink RX3 261 yX3_surveyTold, Cond.instanceMethod yX3_surveyTold, Cond.selects RX3 yX3_surveyTold yX3_surveyTold, Cond.code yX3_surveyTold cX3_surveyTold 4 none, Cond.methodLink RL 142 yX4_otherwise, Cond.instanceMethod yX4_otherwise, Cond.selects RX4 yX4_otherwise yX4_otherwise, Cond.code yX4_otherwise cX4_otherwise 7 (some .int), Cond.methodLink RX4 283 yX4_odds, Cond.methodLink RL 143 yX3_act, Cond.instanceMethod yX3_act, Cond.selects RX3 yX3_act yX3_act, Cond.code yX3_act cX3_act 9 (some .int), Cond.methodLink RX3 264 yX3_surveyForActs, Cond.instanceMethod yX3_surveyForActs, Cond.selects RX3 yX3_surveyForActs yX3_surveyForActs, Cond.code yX3_surveyForActs cX3_surveyForActs 3 (some .int), Cond.methodLink RX3 371 yX3_findingOfWorths, Cond.instanceMethod yX3_findingOfWorths, Cond.selects RX3 yX3_findingOfWorths yX3_findingOfWorths]
def wsL_law_r39 : List Cond := [Cond.code yX3_findingOfWorths cX3_findingOfWorths 4 (some .int), Cond.methodLink RX3 267 yX3_bestAct, Cond.instanceMethod yX3_bestAct, Cond.selects RX3 yX3_bestAct yX3_bestAct, Cond.code yX3_bestAct cX3_bestAct 8 (some .int), Cond.methodLink RX3 271 yX3_worthOf, Cond.instanceMethod yX3_worthOf, Cond.selects RX3 yX3_worthOf yX3_worthOf, Cond.code yX3_worthOf cX3_worthOf 7 (some .long), Cond.methodLink RL 146 yX4_act, Cond.instanceMethod yX4_act, Cond.selects RX4 yX4_act yX4_act, Cond.code yX4_act cX4_act 6 (some .int), Cond.fieldLink RX4 286 "WeightedLawsModel" "bestPair" "I", Cond.methodLink RX4 289 yX4_askedPairs, Cond.instanceMethod yX4_askedPairs, Cond.selects RX4 yX4_askedPairs yX4_askedPairs, Cond.code yX4_askedPairs cX4_askedPairs 4 (some .int), Cond.methodLink RX4 292 yX4_bestSum, Cond.instanceMethod yX4_bestSum, Cond.selects RX4 yX4_bestSum yX4_bestSum, Cond.code yX4_bestSum cX4_bestSum 11 (some .long), Cond.methodLink RL 147 yX3_look, Cond.instanceMethod yX3_look]
def wsL_law_r40 : List Cond := [Cond.selects RX3 yX3_look yX3_look, Cond.code yX3_look cX3_look 15 (some .int), Cond.methodLink RX3 275 yX3_greatestWorth, Cond.instanceMethod yX3_greatestWorth, Cond.selects RX3 yX3_greatestWorth yX3_greatestWorth, Cond.code yX3_greatestWorth cX3_greatestWorth 6 (some .long), Cond.methodLink RL 150 yX4_look, Cond.instanceMethod yX4_look, Cond.selects RX4 yX4_look yX4_look, Cond.code yX4_look cX4_look 13 (some .int), Cond.methodLink RL 151 yX3_wrong, Cond.instanceMethod yX3_wrong, Cond.selects RX3 yX3_wrong yX3_wrong, Cond.code yX3_wrong cX3_wrong 6 (some .int), Cond.methodLink RX3 279 yX3_fallOfCost, Cond.static yX3_fallOfCost, Cond.code yX3_fallOfCost cX3_fallOfCost 2 (some .int), Cond.constant RX3 346 (1000000), Cond.methodLink RL 154 yX4_wrong, Cond.instanceMethod yX4_wrong, Cond.selects RX4 yX4_wrong yX4_wrong, Cond.code yX4_wrong cX4_wrong 8 (some .int), Cond.methodLink RL 155 yX3_held, Cond.instanceMethod yX3_held]
def wsL_law_r41 : List Cond := [Cond.selects RX3 yX3_held yX3_held, Cond.code yX3_held cX3_held 7 (some .int), Cond.methodLink RX3 282 yX3_findingOfHeld, Cond.instanceMethod yX3_findingOfHeld, Cond.selects RX3 yX3_findingOfHeld yX3_findingOfHeld, Cond.code yX3_findingOfHeld cX3_findingOfHeld 4 (some .int), Cond.methodLink RL 158 yX4_held, Cond.instanceMethod yX4_held, Cond.selects RX4 yX4_held yX4_held, Cond.code yX4_held cX4_held 8 (some .int), Cond.methodLink RL 159 yX3_asked, Cond.instanceMethod yX3_asked, Cond.selects RX3 yX3_asked yX3_asked, Cond.code yX3_asked cX3_asked 1 (some .int), Cond.methodLink RL 162 yX4_asked, Cond.instanceMethod yX4_asked, Cond.selects RX4 yX4_asked yX4_asked, Cond.code yX4_asked cX4_asked 1 (some .int), Cond.methodLink RL 163 yX3_upper, Cond.instanceMethod yX3_upper, Cond.selects RX3 yX3_upper yX3_upper, Cond.code yX3_upper cX3_upper 1 (some .long), Cond.methodLink RL 167 yX4_upper, Cond.instanceMethod yX4_upper]
def wsL_law_r42 : List Cond := [Cond.selects RX4 yX4_upper yX4_upper, Cond.code yX4_upper cX4_upper 1 (some .long), Cond.methodLink RL 168 yX3_lower, Cond.instanceMethod yX3_lower, Cond.selects RX3 yX3_lower yX3_lower, Cond.code yX3_lower cX3_lower 1 (some .long), Cond.methodLink RL 171 yX4_lower, Cond.instanceMethod yX4_lower, Cond.selects RX4 yX4_lower yX4_lower, Cond.code yX4_lower cX4_lower 1 (some .long), Cond.methodLink RL 172 yX3_count, Cond.instanceMethod yX3_count, Cond.selects RX3 yX3_count yX3_count, Cond.code yX3_count cX3_count 2 (some .int), Cond.methodLink RX3 285 yX3_countLaws, Cond.instanceMethod yX3_countLaws, Cond.selects RX3 yX3_countLaws yX3_countLaws, Cond.code yX3_countLaws cX3_countLaws 4 (some .int), Cond.methodLink RX3 289 yX1_countThere, Cond.instanceMethod yX1_countThere, Cond.selects RX1 yX1_countThere yX1_countThere, Cond.code yX1_countThere cX1_countThere 3 (some .int), Cond.methodLink RL 175 yX4_count, Cond.instanceMethod yX4_count]
def wsL_law_r43 : List Cond := [Cond.selects RX4 yX4_count yX4_count, Cond.code yX4_count cX4_count 2 (some .int), Cond.methodLink RX4 296 yX4_counts, Cond.instanceMethod yX4_counts, Cond.selects RX4 yX4_counts yX4_counts, Cond.code yX4_counts cX4_counts 4 (some .int), Cond.methodLink RL 176 yX3_finding, Cond.instanceMethod yX3_finding, Cond.selects RX3 yX3_finding yX3_finding, Cond.code yX3_finding cX3_finding 1 (some .int), Cond.methodLink RL 179 yX4_finding, Cond.instanceMethod yX4_finding, Cond.selects RX4 yX4_finding yX4_finding, Cond.code yX4_finding cX4_finding 1 (some .int), Cond.methodLink RL 180 yX3_findings, Cond.instanceMethod yX3_findings, Cond.selects RX3 yX3_findings yX3_findings, Cond.code yX3_findings cX3_findings 2 (some .int), Cond.methodLink RL 183 yX4_findings, Cond.instanceMethod yX4_findings, Cond.selects RX4 yX4_findings yX4_findings, Cond.code yX4_findings cX4_findings 2 (some .int), Cond.methodLink RL 184 yX3_digest, Cond.instanceMethod yX3_digest]
def wsL_law_r44 : List Cond := [Cond.selects RX3 yX3_digest yX3_digest, Cond.code yX3_digest cX3_digest 4 (some .long), Cond.constantLong RX3 293 (17), Cond.constantLong RX3 295 (31), Cond.methodLink RX3 297 yX3_count, Cond.methodLink RX3 300 yX3_digestOfLaw, Cond.instanceMethod yX3_digestOfLaw, Cond.selects RX3 yX3_digestOfLaw yX3_digestOfLaw, Cond.code yX3_digestOfLaw cX3_digestOfLaw 7 (some .long), Cond.methodLink RX3 304 yX1_digestOn, Cond.instanceMethod yX1_digestOn, Cond.selects RX1 yX1_digestOn yX1_digestOn, Cond.code yX1_digestOn cX1_digestOn 7 (some .long), Cond.constantLong RX1 53 (31), Cond.methodLink RL 187 yX4_digest, Cond.instanceMethod yX4_digest, Cond.selects RX4 yX4_digest yX4_digest, Cond.code yX4_digest cX4_digest 3 (some .long), Cond.constantLong RX4 304 (17), Cond.fieldLink RX4 301 "WeightedLawsModel" "h" "J", Cond.methodLink RX4 306 yX4_mix, Cond.instanceMethod yX4_mix, Cond.selects RX4 yX4_mix yX4_mix, Cond.code yX4_mix cX4_mix 2 none]
def wsL_law_r45 : List Cond := [Cond.constantLong RX4 299 (31)]
def wsL_law : List Cond := (wsL_law_r1 ++ (wsL_law_r2 ++ (wsL_law_r3 ++ (wsL_law_r4 ++ (wsL_law_r5 ++ (wsL_law_r6 ++ (wsL_law_r7 ++ (wsL_law_r8 ++ (wsL_law_r9 ++ (wsL_law_r10 ++ (wsL_law_r11 ++ (wsL_law_r12 ++ (wsL_law_r13 ++ (wsL_law_r14 ++ (wsL_law_r15 ++ (wsL_law_r16 ++ (wsL_law_r17 ++ (wsL_law_r18 ++ (wsL_law_r19 ++ (wsL_law_r20 ++ (wsL_law_r21 ++ (wsL_law_r22 ++ (wsL_law_r23 ++ (wsL_law_r24 ++ (wsL_law_r25 ++ (wsL_law_r26 ++ (wsL_law_r27 ++ (wsL_law_r28 ++ (wsL_law_r29 ++ (wsL_law_r30 ++ (wsL_law_r31 ++ (wsL_law_r32 ++ (wsL_law_r33 ++ (wsL_law_r34 ++ (wsL_law_r35 ++ (wsL_law_r36 ++ (wsL_law_r37 ++ (wsL_law_r38 ++ (wsL_law_r39 ++ (wsL_law_r40 ++ (wsL_law_r41 ++ (wsL_law_r42 ++ (wsL_law_r43 ++ (wsL_law_r44 ++ wsL_law_r45)))))))))))))))))))))))))))))))))))))))))))) ++ wsX30 ++ wsX40 ++ wsX10 ++ wsX20 ++ wsX00 ++ ([] : List Cond)
theorem inlX0 : ∀ w ∈ wsX00, w ∈ wsL_law := fun _ h => List.mem_append_left _ (List.mem_append_right _ h)
theorem inlX1 : ∀ w ∈ wsX10, w ∈ wsL_law := fun _ h => List.mem_append_left _ (List.mem_append_left _ (List.mem_append_left _ (List.mem_append_right _ h)))
theorem inlX2 : ∀ w ∈ wsX20, w ∈ wsL_law := fun _ h => List.mem_append_left _ (List.mem_append_left _ (List.mem_append_right _ h))
theorem inlX3 : ∀ w ∈ wsX30, w ∈ wsL_law := fun _ h => List.mem_append_left _ (List.mem_append_left _ (List.mem_append_left _ (List.mem_append_left _ (List.mem_append_left _ (List.mem_append_right _ h)))))
theorem inlX4 : ∀ w ∈ wsX40, w ∈ wsL_law := fun _ h => List.mem_append_left _ (List.mem_append_left _ (List.mem_append_left _ (List.mem_append_left _ (List.mem_append_right _ h))))
abbrev vwCl : List vw_C := [(RX0, TX0, 9), (RX1, TX1, 2), (RX2, TX2, 10), (RX3, TX3, 13), (RX4, TX4, 37)]
end
section
/-! THE SMALL MACHINE: a pure reading of the bytecode over typed rows (ints, longs, the order of the Law objects); 'ev' is its meaning, 'sound' (later) ties it to the machine -/
abbrev AV : Type := Int32 ⊕ (Int64 ⊕ (Nat × Nat))
abbrev SS : Type := (Nat → Nat → Nat → Int32) × ((Nat → Nat → Nat → Int64) × (Nat → Nat))
abbrev LO : Type := List (Option AV)
abbrev RE : Type := Option (Option AV × SS)
abbrev RF : Type := Nat → Nat → LO → List AV → SS → RE
/-- an instruction with what it means here: ins, length, five numbers, place of its word, constant, long constant, switch, slots that are dead ahead of it -/
abbrev En : Type := Instr × Nat × Nat × Nat × Nat × Nat × Nat × Nat × Int32 × Int64 × List (Int32 × Nat) × List Nat
abbrev vI (x : Int32) : AV := .inl x
abbrev vL (x : Int64) : AV := .inr (.inl x)
abbrev vR (a : Nat × Nat) : AV := .inr (.inr a)
abbrev eP (ins : Instr) (len : Nat) : En := (ins, len, 0, 0, 0, 0, 0, 0, 0, 0, [], [])
abbrev eB (ins : Instr) (a : Nat) : En := (ins, 3, a, 0, 0, 0, 0, 0, 0, 0, [], [])
abbrev eC (ins : Instr) (len pos : Nat) (v : Int32) : En := (ins, len, 0, 0, 0, 0, 0, pos, v, 0, [], [])
abbrev eL (ins : Instr) (len pos : Nat) (v : Int64) : En := (ins, len, 0, 0, 0, 0, 0, pos, 0, v, [], [])
abbrev eF (ins : Instr) (ci k d pos : Nat) : En := (ins, 3, ci, k, d, 0, 0, pos, 0, 0, [], [])
abbrev eM (ins : Instr) (callee n rc mx cn pos : Nat) : En := (ins, 3, callee, n, rc, mx, cn, pos, 0, 0, [], [])
abbrev eR (ins : Instr) (d : Nat) : En := (ins, 1, 0, 0, d, 0, 0, 0, 0, 0, [], [])
abbrev eS (ins : Instr) (len a : Nat) (sw : List (Int32 × Nat)) : En := (ins, len, a, 0, 0, 0, 0, 0, 0, 0, sw, [])
abbrev eK (ks : List Nat) (e : En) : En := match e with
  | (a, b, c, d, f, g, h, i, j, k, l, _) => (a, b, c, d, f, g, h, i, j, k, l, ks)
def wI (s : SS) (k j i : Nat) (v : Int32) : SS := (fun a b c => if a = k ∧ b = j ∧ c = i then v else s.1 a b c, s.2)
def wL (s : SS) (k j i : Nat) (v : Int64) : SS := (s.1, fun a b c => if a = k ∧ b = j ∧ c = i then v else s.2.1 a b c, s.2.2)
def wR (s : SS) (i v : Nat) : SS := (s.1, s.2.1, fun c => if c = i then v else s.2.2 c)
def wA (s : SS) (k j : Nat) (f : Nat → Int32) : SS := (fun a b c => if a = k ∧ b = j then f c else s.1 a b c, s.2)
/-- kinds of cells: what an object is of (9: none); type of an array (0: none, 1 int, 2 long, 3 boolean, 4 int rows, 5 Laws, 6 the script); its length; how many there are -/
def kcl (k : Nat) : Nat := [3, 1, 1, 9, 9, 9, 9, 9, 9, 9, 9, 2, 9, 0, 9, 9, 9, 9, 9, 9, 9, 9, 9, 9, 9, 9, 9, 9, 9, 9, 4, 9, 9, 9, 9, 9, 9, 9, 9, 9, 9, 9, 9, 9, 9, 9, 9, 9, 9, 9, 9, 9, 9, 9, 9, 9, 9, 9, 9, 9, 9].getD k 9
def kar (k : Nat) : Nat := [0, 0, 0, 4, 4, 1, 1, 1, 1, 1, 5, 0, 1, 0, 1, 1, 1, 3, 1, 2, 1, 2, 1, 0, 0, 0, 0, 0, 0, 0, 0, 1, 1, 1, 1, 1, 1, 1, 3, 1, 1, 1, 1, 1, 1, 1, 3, 1, 1, 1, 1, 1, 1, 2, 0, 0, 0, 0, 0, 0, 6].getD k 0
def kln (k : Nat) : Nat := [0, 0, 0, 6, 4, 6, 4, 40, 40, 28, 8, 0, 6, 0, 6, 6, 6, 6, 1024, 1024, 1024, 1024, 8, 0, 0, 0, 0, 0, 0, 0, 0, 6, 6, 240, 40, 4, 160, 28, 6, 6, 6, 6, 8, 8, 8, 8, 48, 48, 48, 48, 28, 8192, 1024, 1024, 0, 0, 0, 0, 0, 0, 0].getD k 0
def kct (k : Nat) : Nat := [1, 1, 1, 1, 1, 1, 1, 6, 4, 1, 1, 1, 1, 9, 9, 9, 9, 9, 1, 1, 1, 1, 1, 0, 0, 0, 0, 0, 0, 0, 1, 1, 1, 1, 1, 1, 1, 1, 1, 1, 1, 1, 1, 1, 1, 1, 1, 1, 1, 1, 1, 1, 1, 1, 0, 0, 0, 0, 0, 0, 1].getD k 0
/-- the kind that a field of a kind leads to (the same number within it) -/
def rfT (k : Nat) : List Nat := [[1, 2, 9, 10, 11, 12, 13], [3, 5], [4, 6], [], [], [], [], [], [], [], [], [0, 0, 18, 19, 20, 21, 22], [], [0, 0, 0, 0, 0, 14, 15, 16, 17], [], [], [], [], [], [], [], [], [], [], [], [], [], [], [], [], [0, 31, 0, 0, 0, 32, 33, 34, 35, 36, 0, 37, 0, 0, 0, 38, 39, 40, 41, 42, 43, 44, 45, 46, 47, 48, 49, 50, 0, 51, 0, 0, 52, 53], [], [], [], [], [], [], [], [], [], [], [], [], [], [], [], [], [], [], [], [], [], [], [], [], [], [], [], [], [], []].getD k []
def rfa (s : SS) (kd j k : Nat) : Nat × Nat := bif Nat.beq kd 0 && Nat.beq k 6 then (13, s.2.2 8) else ((rfT kd).getD k 0, j)
def ixB (x : Int32) (n : Nat) : Bool := !(decide (x < 0) || decide (n ≤ x.toNatClampNeg))
def isZ (x : Int32) : Bool := decide (x = 0) || decide (x = 1)
def isLg (o : Option AV) : Bool := match o with
  | some (.inr (.inl _)) => true
  | _ => false
def clr (ls : LO) (k : Nat) : LO := match k with
  | 0 => ls
  | i + 1 => bif isLg (ls.getD i none) then ls.set i none else ls
def st1 (ls : LO) (k : Nat) (v : AV) : LO := (clr ls k).set k (some v)
def st2 (ls : LO) (k : Nat) (v : AV) : LO := ((clr ls k).set k (some v)).set (k + 1) none
/-- slots that are dead (0 in the mask) are forgotten -/
def kil (ks : List Nat) (ls : LO) : LO := match ks, ls with
  | k :: m, a :: r => (match k with
    | 0 => none
    | _ => a) :: kil m r
  | _, r => r
def cat (v : AV) : Nat := match v with
  | .inr (.inl _) => 2
  | _ => 1
def cats (st : List AV) : Nat := match st with
  | [] => 0
  | v :: r => cat v + cats r
def entA (as : List AV) : LO := match as with
  | [] => []
  | .inl x :: r => some (.inl x) :: entA r
  | .inr (.inl x) :: r => some (.inr (.inl x)) :: none :: entA r
  | .inr (.inr a) :: r => some (.inr (.inr a)) :: entA r
def padL (n : Nat) (ls : LO) : LO := match n with
  | 0 => ls
  | m + 1 => match ls with
    | [] => none :: padL m []
    | a :: r => a :: padL m r
def entL (as : List AV) (n : Nat) : LO := padL n (entA as)
def cV (r : RE) (k : SS → RE) : RE := match r with
  | some (none, s) => k s
  | _ => none
def cI (r : RE) (k : Int32 → SS → RE) : RE := match r with
  | some (some (.inl x), s) => k x s
  | _ => none
def cL (r : RE) (k : Int64 → SS → RE) : RE := match r with
  | some (some (.inr (.inl x)), s) => k x s
  | _ => none
def swl (f : Nat → RE) (d : Nat) (x : Int32) (l : List (Int32 × Nat)) : RE := match l with
  | [] => f d
  | (v, t) :: r => if x = v then f t else swl f d x r
def op1i (st : List AV) (k : Int32 → List AV → RE) : RE := match st with
  | .inl x :: r => k x r
  | _ => none
def op2i (st : List AV) (k : Int32 → Int32 → List AV → RE) : RE := match st with
  | .inl y :: .inl x :: r => k x y r
  | _ => none
def op1l (st : List AV) (k : Int64 → List AV → RE) : RE := match st with
  | .inr (.inl x) :: r => k x r
  | _ => none
def op2l (st : List AV) (k : Int64 → Int64 → List AV → RE) : RE := match st with
  | .inr (.inl y) :: .inr (.inl x) :: r => k x y r
  | _ => none
def opli (st : List AV) (k : Int64 → Int32 → List AV → RE) : RE := match st with
  | .inl y :: .inr (.inl x) :: r => k x y r
  | _ => none
def op1r (st : List AV) (k : Nat → Nat → List AV → RE) : RE := match st with
  | .inr (.inr (kd, j)) :: r => k kd j r
  | _ => none
def opix (st : List AV) (k : Int32 → Nat → Nat → List AV → RE) : RE := match st with
  | .inl x :: .inr (.inr (kd, j)) :: r => k x kd j r
  | _ => none
def callx (cal : RF) (callee nb rc mx : Nat) (as rest : List AV) (s : SS) (k : List AV → SS → RE) : RE := bif Nat.ble (cats rest) 8 && (Nat.ble (entA as).length mx && Nat.beq as.length nb) then (match rc with
  | 0 => cV (cal callee 0 (entL as mx) [] s) (fun s1 => k rest s1)
  | 1 => cI (cal callee 0 (entL as mx) [] s) (fun x s1 => k (.inl x :: rest) s1)
  | _ => cL (cal callee 0 (entL as mx) [] s) (fun x s1 => k (.inr (.inl x) :: rest) s1)) else none
def copyx (st : List AV) (s : SS) (k : List AV → SS → RE) : RE := match st with
  | .inl n :: .inl dp :: .inr (.inr (kd, j)) :: .inl sp :: .inr (.inr (kd0, j0)) :: r => bif Nat.beq (kar kd) 1 && (Nat.beq (kar kd0) 1 && Nat.ble (cats r) 8) then (if ¬ sp < 0 ∧ ¬ dp < 0 ∧ ¬ n < 0 ∧ sp.toNatClampNeg + n.toNatClampNeg ≤ kln kd0 ∧ dp.toNatClampNeg + n.toNatClampNeg ≤ kln kd then k r (wA s kd j (va_cpy (s.1 kd0 j0) (s.1 kd j) sp.toNatClampNeg dp.toNatClampNeg n.toNatClampNeg)) else none) else none
  | _ => none
def ldx (ls : LO) (k : Nat) (t : Nat) (f : AV → RE) : RE := match ls.getD k none with
  | some (.inl x) => bif Nat.beq t 0 then f (.inl x) else none
  | some (.inr (.inl x)) => bif Nat.beq t 1 then f (.inr (.inl x)) else none
  | some (.inr (.inr x)) => bif Nat.beq t 2 then f (.inr (.inr x)) else none
  | none => none
def getx (s : SS) (d ci k kd j : Nat) (f : AV → RE) : RE := bif Nat.beq (kcl kd) ci then (match d with
  | 0 => f (.inl (s.1 kd j k))
  | 1 => f (.inr (.inl (s.2.1 kd j k)))
  | 2 => f (.inr (.inr (rfa s kd j k)))
  | _ => f (.inl (s.1 kd j k))) else none
def putx (s : SS) (d ci k : Nat) (st : List AV) (f : List AV → SS → RE) : RE := match st with
  | .inl x :: .inr (.inr (kd, j)) :: r => bif Nat.beq (kcl kd) ci then (match d with
    | 0 => f r (wI s kd j k x)
    | 3 => bif isZ x then f r (wI s kd j k x) else none
    | _ => none) else none
  | .inr (.inl x) :: .inr (.inr (kd, j)) :: r => bif Nat.beq (kcl kd) ci && Nat.beq d 1 then f r (wL s kd j k x) else none
  | .inr (.inr (kv, jv)) :: .inr (.inr (kd, _)) :: r => bif Nat.beq (kcl kd) ci && (Nat.beq kd 0 && (Nat.beq k 6 && (Nat.beq kv 13 && Nat.beq d 2))) then f r (wR s 8 jv) else none
  | _ => none
def aldx (s : SS) (t : Nat) (x : Int32) (kd j : Nat) (f : AV → RE) : RE := match t with
  | 1 => bif Nat.beq (kar kd) 6 then (if ixB x (s.1 60 1 0).toNatClampNeg = true then f (.inl (s.1 kd j x.toNatClampNeg)) else none) else bif Nat.beq (kar kd) 1 then (if ixB x (kln kd) = true then f (.inl (s.1 kd j x.toNatClampNeg)) else none) else none
  | 2 => bif Nat.beq (kar kd) 2 then (if ixB x (kln kd) = true then f (.inr (.inl (s.2.1 kd j x.toNatClampNeg))) else none) else none
  | 3 => bif Nat.beq (kar kd) 3 then (if ixB x (kln kd) = true then f (.inl (s.1 kd j x.toNatClampNeg)) else none) else none
  | _ => bif Nat.beq (kar kd) 4 then (if ixB x (kln kd) = true then f (.inr (.inr (kd + 4, x.toNatClampNeg))) else none) else bif Nat.beq (kar kd) 5 then (if ixB x (kln kd) = true then f (.inr (.inr (13, s.2.2 x.toNatClampNeg))) else none) else none
def astx (s : SS) (t : Nat) (st : List AV) (f : List AV → SS → RE) : RE := match st with
  | .inl v :: .inl x :: .inr (.inr (kd, j)) :: r => (match t with
    | 1 => bif Nat.beq (kar kd) 1 then (if ixB x (kln kd) = true then f r (wI s kd j x.toNatClampNeg v) else none) else none
    | 3 => bif Nat.beq (kar kd) 3 then (if ixB x (kln kd) = true then f r (wI s kd j x.toNatClampNeg (v &&& 1)) else none) else none
    | _ => none)
  | .inr (.inl v) :: .inl x :: .inr (.inr (kd, j)) :: r => bif Nat.beq t 2 && Nat.beq (kar kd) 2 then (if ixB x (kln kd) = true then f r (wL s kd j x.toNatClampNeg v) else none) else none
  | .inr (.inr (kv, jv)) :: .inl x :: .inr (.inr (kd, _)) :: r => bif Nat.beq t 4 && (Nat.beq (kar kd) 5 && Nat.beq kv 13) then (if ixB x (kln kd) = true then f r (wR s x.toNatClampNeg jv) else none) else none
  | _ => none
def alnx (s : SS) (kd : Nat) (f : Int32 → RE) : RE := bif Nat.beq (kar kd) 6 then f (s.1 60 1 0) else bif Nat.ble 1 (kar kd) then f (nI (kln kd)) else none
def dupx (st : List AV) (k : List AV → RE) : RE := match st with
  | .inl x :: r => k (.inl x :: .inl x :: r)
  | .inr (.inr x) :: r => k (.inr (.inr x) :: .inr (.inr x) :: r)
  | _ => none
def popx (st : List AV) (k : List AV → RE) : RE := match st with
  | .inl _ :: r => k r
  | .inr (.inr _) :: r => k r
  | _ => none
def dup2x (st : List AV) (k : List AV → RE) : RE := match st with
  | .inl y :: .inl x :: r => k (.inl y :: .inl x :: .inl y :: .inl x :: r)
  | .inl y :: .inr (.inr x) :: r => k (.inl y :: .inr (.inr x) :: .inl y :: .inr (.inr x) :: r)
  | .inr (.inl x) :: r => k (.inr (.inl x) :: .inr (.inl x) :: r)
  | _ => none
def retx (st : List AV) (d : Nat) (s : SS) : RE := match st with
  | [.inl x] => bif Nat.beq d 0 then some (some (.inl x), s) else bif Nat.beq d 3 then (bif isZ x then some (some (.inl x), s) else none) else none
  | [.inr (.inl x)] => bif Nat.beq d 1 then some (some (.inr (.inl x)), s) else none
  | [] => bif Nat.beq d 2 then some (none, s) else none
  | _ => none
def recvx (as : List AV) (cn : Nat) : Bool := match as with
  | .inr (.inr (kd, _)) :: _ => Nat.beq (kcl kd) cn
  | _ => false
/-- the slots, row by row, before the next step -/
def frc (ls : LO) (k : LO → RE) : RE := match ls with
  | [] => k []
  | a :: r => frc r (fun q => k (a :: q))
def opx (nx cal : RF) (i pc : Nat) (en : En) (ls : LO) (st : List AV) (s : SS) : RE := match en with
  | (ins, len, a, b, d, e, f, _, cv, lv, sw, _) => match ins with
    | .iconst _ => nx i (pc + len) ls (.inl cv :: st) s
    | .bipush _ => nx i (pc + len) ls (.inl cv :: st) s
    | .sipush _ => nx i (pc + len) ls (.inl cv :: st) s
    | .ldc _ => nx i (pc + len) ls (.inl cv :: st) s
    | .ldc_w _ => nx i (pc + len) ls (.inl cv :: st) s
    | .lconst _ => nx i (pc + len) ls (.inr (.inl lv) :: st) s
    | .ldc2_w _ => nx i (pc + len) ls (.inr (.inl lv) :: st) s
    | .iload k => ldx ls k 0 (fun v => nx i (pc + len) ls (v :: st) s)
    | .iload_n k => ldx ls k.val 0 (fun v => nx i (pc + len) ls (v :: st) s)
    | .lload k => ldx ls k 1 (fun v => nx i (pc + len) ls (v :: st) s)
    | .lload_n k => ldx ls k.val 1 (fun v => nx i (pc + len) ls (v :: st) s)
    | .aload k => ldx ls k 2 (fun v => nx i (pc + len) ls (v :: st) s)
    | .aload_n k => ldx ls k.val 2 (fun v => nx i (pc + len) ls (v :: st) s)
    | .istore k => op1i st (fun x r => frc (st1 ls k (.inl x)) (fun l => nx i (pc + len) l r s))
    | .istore_n k => op1i st (fun x r => frc (st1 ls k.val (.inl x)) (fun l => nx i (pc + len) l r s))
    | .lstore k => op1l st (fun x r => frc (st2 ls k (.inr (.inl x))) (fun l => nx i (pc + len) l r s))
    | .lstore_n k => op1l st (fun x r => frc (st2 ls k.val (.inr (.inl x))) (fun l => nx i (pc + len) l r s))
    | .astore k => op1r st (fun kd j r => frc (st1 ls k (.inr (.inr (kd, j)))) (fun l => nx i (pc + len) l r s))
    | .astore_n k => op1r st (fun kd j r => frc (st1 ls k.val (.inr (.inr (kd, j)))) (fun l => nx i (pc + len) l r s))
    | .iinc k _ => ldx ls k 0 (fun v => match v with
      | .inl x => frc (st1 ls k (.inl (x + cv))) (fun l => nx i (pc + len) l st s)
      | _ => none)
    | .iadd => op2i st (fun x y r => nx i (pc + len) ls (.inl (x + y) :: r) s)
    | .isub => op2i st (fun x y r => nx i (pc + len) ls (.inl (x - y) :: r) s)
    | .imul => op2i st (fun x y r => nx i (pc + len) ls (.inl (x * y) :: r) s)
    | .iand => op2i st (fun x y r => nx i (pc + len) ls (.inl (x &&& y) :: r) s)
    | .ior => op2i st (fun x y r => nx i (pc + len) ls (.inl (x ||| y) :: r) s)
    | .ixor => op2i st (fun x y r => nx i (pc + len) ls (.inl (x ^^^ y) :: r) s)
    | .idiv => op2i st (fun x y r => if y = 0 then none else nx i (pc + len) ls (.inl (x / y) :: r) s)
    | .irem => op2i st (fun x y r => if y = 0 then none else nx i (pc + len) ls (.inl (x - x / y * y) :: r) s)
    | .ineg => op1i st (fun x r => nx i (pc + len) ls (.inl (-x) :: r) s)
    | .ishl => op2i st (fun x y r => nx i (pc + len) ls (.inl (x <<< (y &&& 31)) :: r) s)
    | .ishr => op2i st (fun x y r => nx i (pc + len) ls (.inl (x >>> (y &&& 31)) :: r) s)
    | .iushr => op2i st (fun x y r => nx i (pc + len) ls (.inl (x.toUInt32 >>> (y.toUInt32 &&& Int32.toUInt32 31)).toInt32 :: r) s)
    | .ladd => op2l st (fun x y r => nx i (pc + len) ls (.inr (.inl (x + y)) :: r) s)
    | .lsub => op2l st (fun x y r => nx i (pc + len) ls (.inr (.inl (x - y)) :: r) s)
    | .lmul => op2l st (fun x y r => nx i (pc + len) ls (.inr (.inl (x * y)) :: r) s)
    | .land => op2l st (fun x y r => nx i (pc + len) ls (.inr (.inl (x &&& y)) :: r) s)
    | .lor => op2l st (fun x y r => nx i (pc + len) ls (.inr (.inl (x ||| y)) :: r) s)
    | .ldiv => op2l st (fun x y r => if y = 0 then none else nx i (pc + len) ls (.inr (.inl (x / y)) :: r) s)
    | .lrem => op2l st (fun x y r => if y = 0 then none else nx i (pc + len) ls (.inr (.inl (x - x / y * y)) :: r) s)
    | .lneg => op1l st (fun x r => nx i (pc + len) ls (.inr (.inl (-x)) :: r) s)
    | .lcmp => op2l st (fun x y r => nx i (pc + len) ls (.inl (lg_cmp x y) :: r) s)
    | .lshl => opli st (fun x y r => nx i (pc + len) ls (.inr (.inl (x <<< (y.toInt64 &&& 63))) :: r) s)
    | .lshr => opli st (fun x y r => nx i (pc + len) ls (.inr (.inl (x >>> (y.toInt64 &&& 63))) :: r) s)
    | .lushr => opli st (fun x y r => nx i (pc + len) ls (.inr (.inl (x.toUInt64 >>> (y.toInt64.toUInt64 &&& Int64.toUInt64 63)).toInt64) :: r) s)
    | .i2l => op1i st (fun x r => nx i (pc + len) ls (.inr (.inl x.toInt64) :: r) s)
    | .l2i => op1l st (fun x r => nx i (pc + len) ls (.inl x.toInt32 :: r) s)
    | .i2b => op1i st (fun x r => nx i (pc + len) ls (.inl x.toInt8.toInt32 :: r) s)
    | .dup => dupx st (fun r => nx i (pc + len) ls r s)
    | .dup2 => dup2x st (fun r => nx i (pc + len) ls r s)
    | .pop => popx st (fun r => nx i (pc + len) ls r s)
    | .goto _ => nx i a ls st s
    | .ifCond c _ => op1i st (fun x r => match c with
      | .eq => if x = 0 then nx i a ls r s else nx i (pc + len) ls r s
      | .ne => if x = 0 then nx i (pc + len) ls r s else nx i a ls r s
      | .lt => if x < 0 then nx i a ls r s else nx i (pc + len) ls r s
      | .ge => if x < 0 then nx i (pc + len) ls r s else nx i a ls r s
      | .gt => if 0 < x then nx i a ls r s else nx i (pc + len) ls r s
      | .le => if 0 < x then nx i (pc + len) ls r s else nx i a ls r s)
    | .if_icmp c _ => op2i st (fun x y r => match c with
      | .eq => if x = y then nx i a ls r s else nx i (pc + len) ls r s
      | .ne => if x = y then nx i (pc + len) ls r s else nx i a ls r s
      | .lt => if x < y then nx i a ls r s else nx i (pc + len) ls r s
      | .ge => if x < y then nx i (pc + len) ls r s else nx i a ls r s
      | .gt => if y < x then nx i a ls r s else nx i (pc + len) ls r s
      | .le => if y < x then nx i (pc + len) ls r s else nx i a ls r s)
    | .tableswitch _ _ _ _ => op1i st (fun x r => swl (fun t => nx i t ls r s) a x sw)
    | .lookupswitch _ _ => op1i st (fun x r => swl (fun t => nx i t ls r s) a x sw)
    | .getfield _ => op1r st (fun kd j r => getx s d a b kd j (fun v => nx i (pc + len) ls (v :: r) s))
    | .putfield _ => putx s d a b st (fun r s1 => nx i (pc + len) ls r s1)
    | .iaload => opix st (fun x kd j r => aldx s 1 x kd j (fun v => nx i (pc + len) ls (v :: r) s))
    | .laload => opix st (fun x kd j r => aldx s 2 x kd j (fun v => nx i (pc + len) ls (v :: r) s))
    | .baload => opix st (fun x kd j r => aldx s 3 x kd j (fun v => nx i (pc + len) ls (v :: r) s))
    | .aaload => opix st (fun x kd j r => aldx s 4 x kd j (fun v => nx i (pc + len) ls (v :: r) s))
    | .iastore => astx s 1 st (fun r s1 => nx i (pc + len) ls r s1)
    | .lastore => astx s 2 st (fun r s1 => nx i (pc + len) ls r s1)
    | .bastore => astx s 3 st (fun r s1 => nx i (pc + len) ls r s1)
    | .aastore => astx s 4 st (fun r s1 => nx i (pc + len) ls r s1)
    | .arraylength => op1r st (fun kd _ r => alnx s kd (fun x => nx i (pc + len) ls (.inl x :: r) s))
    | .invokestatic _ => bif Nat.beq a 999 then copyx st s (fun r s1 => nx i (pc + len) ls r s1) else bif Nat.beq a 993 then op1i st (fun x r => bif Nat.ble (cats r) 8 then nx i (pc + len) ls (.inl (if 0 ≤ x then x else 0 - x) :: r) s else none) else bif Nat.beq a 994 then op1l st (fun x r => bif Nat.ble (cats r) 8 then nx i (pc + len) ls (.inr (.inl (if 0 < x then x else -x)) :: r) s else none) else bif Nat.beq a 996 then op2i st (fun x y r => bif Nat.ble (cats r) 8 then nx i (pc + len) ls (.inl (if y < x then y else x) :: r) s else none) else callx cal a b d e (st.take b).reverse (st.drop b) s (fun r s1 => nx i (pc + len) ls r s1)
    | .invokevirtual _ => bif recvx (st.take b).reverse f then callx cal a b d e (st.take b).reverse (st.drop b) s (fun r s1 => nx i (pc + len) ls r s1) else none
    | .ireturn => retx st d s
    | .lreturn => retx st d s
    | .return_ => retx st d s
    | _ => none
end
section
/-- J6_compare_7cf53 -/
def k_0 : List (Nat × En) := [(0, eP (.iload_n 0) 1),
  (1, eP (.iload_n 1) 1),
  (2, eB (.if_icmp .ge 7) 9),
  (5, eC (.iconst (-1)) 1 0 (-1)),
  (6, eB (.goto 13) 19),
  (9, eP (.iload_n 0) 1),
  (10, eP (.iload_n 1) 1),
  (11, eB (.if_icmp .ne 7) 18),
  (14, eC (.iconst 0) 1 0 0),
  (15, eB (.goto 4) 19),
  (18, eC (.iconst 1) 1 0 1),
  (19, eR (.ireturn) 0)]
/-- J6_bitCount_0f7a4 -/
def k_1 : List (Nat × En) := [(0, eP (.iload_n 0) 1),
  (1, eP (.iload_n 0) 1),
  (2, eC (.iconst 1) 1 0 1),
  (3, eP (.iushr) 1),
  (4, eC (.ldc_w 265) 3 805 1431655765),
  (7, eP (.iand) 1),
  (8, eP (.isub) 1),
  (9, eP (.istore_n 0) 1),
  (10, eP (.iload_n 0) 1),
  (11, eC (.ldc_w 266) 3 806 858993459),
  (14, eP (.iand) 1),
  (15, eP (.iload_n 0) 1),
  (16, eC (.iconst 2) 1 0 2),
  (17, eP (.iushr) 1),
  (18, eC (.ldc_w 266) 3 806 858993459),
  (21, eP (.iand) 1),
  (22, eP (.iadd) 1),
  (23, eP (.istore_n 0) 1),
  (24, eP (.iload_n 0) 1),
  (25, eP (.iload_n 0) 1),
  (26, eC (.iconst 4) 1 0 4),
  (27, eP (.iushr) 1),
  (28, eP (.iadd) 1),
  (29, eC (.ldc_w 267) 3 807 252645135),
  (32, eP (.iand) 1),
  (33, eP (.istore_n 0) 1),
  (34, eP (.iload_n 0) 1),
  (35, eP (.iload_n 0) 1),
  (36, eC (.bipush 8) 2 0 8),
  (38, eP (.iushr) 1),
  (39, eP (.iadd) 1),
  (40, eP (.istore_n 0) 1),
  (41, eP (.iload_n 0) 1),
  (42, eP (.iload_n 0) 1),
  (43, eC (.bipush 16) 2 0 16),
  (45, eP (.iushr) 1),
  (46, eP (.iadd) 1),
  (47, eP (.istore_n 0) 1),
  (48, eP (.iload_n 0) 1),
  (49, eC (.bipush 63) 2 0 63),
  (51, eP (.iand) 1),
  (52, eR (.ireturn) 0)]
/-- J13_compare_74951 -/
def k_2 : List (Nat × En) := [(0, eP (.lload_n 0) 1),
  (1, eP (.lload_n 2) 1),
  (2, eP (.lcmp) 1),
  (3, eB (.ifCond .ge 7) 10),
  (6, eC (.iconst (-1)) 1 0 (-1)),
  (7, eB (.goto 14) 21),
  (10, eP (.lload_n 0) 1),
  (11, eP (.lload_n 2) 1),
  (12, eP (.lcmp) 1),
  (13, eB (.ifCond .ne 7) 20),
  (16, eC (.iconst 0) 1 0 0),
  (17, eB (.goto 4) 21),
  (20, eC (.iconst 1) 1 0 1),
  (21, eR (.ireturn) 0)]
/-- J9_abs_0f7a4 -/
def k_3 : List (Nat × En) := [(0, eP (.iload_n 0) 1),
  (1, eB (.ifCond .ge 8) 9),
  (4, eP (.iload_n 0) 1),
  (5, eP (.ineg) 1),
  (6, eB (.goto 4) 10),
  (9, eP (.iload_n 0) 1),
  (10, eR (.ireturn) 0)]
/-- J9_abs_067f4 -/
def k_4 : List (Nat × En) := [(0, eP (.lload_n 0) 1),
  (1, eL (.lconst 0) 1 0 0),
  (2, eP (.lcmp) 1),
  (3, eB (.ifCond .ge 8) 11),
  (6, eP (.lload_n 0) 1),
  (7, eP (.lneg) 1),
  (8, eB (.goto 4) 12),
  (11, eP (.lload_n 0) 1),
  (12, eR (.lreturn) 1)]
/-- J9_max_7cf53 -/
def k_5 : List (Nat × En) := [(0, eP (.iload_n 0) 1),
  (1, eP (.iload_n 1) 1),
  (2, eB (.if_icmp .lt 7) 9),
  (5, eP (.iload_n 0) 1),
  (6, eB (.goto 4) 10),
  (9, eP (.iload_n 1) 1),
  (10, eR (.ireturn) 0)]
/-- J9_min_7cf53 -/
def k_6 : List (Nat × En) := [(0, eP (.iload_n 0) 1),
  (1, eP (.iload_n 1) 1),
  (2, eB (.if_icmp .gt 7) 9),
  (5, eP (.iload_n 0) 1),
  (6, eB (.goto 4) 10),
  (9, eP (.iload_n 1) 1),
  (10, eR (.ireturn) 0)]
/-- J7_fill_d0a16 -/
def k_7 : List (Nat × En) := [(0, eC (.iconst 0) 1 0 0),
  (1, eP (.istore_n 3) 1),
  (2, eP (.aload_n 0) 1),
  (3, eP (.arraylength) 1),
  (4, eP (.istore 4) 2),
  (6, eK [1, 1, 0, 1, 1] (eP (.iload_n 3) 1)),
  (7, eP (.iload 4) 2),
  (9, eB (.if_icmp .ge 13) 22),
  (12, eP (.aload_n 0) 1),
  (13, eP (.iload_n 3) 1),
  (14, eP (.lload_n 1) 1),
  (15, eP (.lastore) 1),
  (16, eC (.iinc 3 1) 3 0 1),
  (19, eB (.goto (-13)) 6),
  (22, eR (.return_) 2)]
/-- J7_fill_53178 -/
def k_8 : List (Nat × En) := [(0, eC (.iconst 0) 1 0 0),
  (1, eP (.istore_n 2) 1),
  (2, eP (.aload_n 0) 1),
  (3, eP (.arraylength) 1),
  (4, eP (.istore_n 3) 1),
  (5, eP (.iload_n 2) 1),
  (6, eP (.iload_n 3) 1),
  (7, eB (.if_icmp .ge 13) 20),
  (10, eP (.aload_n 0) 1),
  (11, eP (.iload_n 2) 1),
  (12, eP (.iload_n 1) 1),
  (13, eP (.iastore) 1),
  (14, eC (.iinc 2 1) 3 0 1),
  (17, eB (.goto (-12)) 5),
  (20, eR (.return_) 2)]
/-- X1_isNumber -/
def k_9 : List (Nat × En) := [(0, eP (.iload_n 1) 1),
  (1, eB (.ifCond .lt 16) 17),
  (4, eP (.iload_n 1) 1),
  (5, eP (.aload_n 0) 1),
  (6, eF (.getfield 22) 1 1 2 45),
  (9, eP (.arraylength) 1),
  (10, eB (.if_icmp .ge 7) 17),
  (13, eC (.iconst 1) 1 0 1),
  (14, eB (.goto 4) 18),
  (17, eC (.iconst 0) 1 0 0),
  (18, eR (.ireturn) 3)]
/-- X1_has -/
def k_10 : List (Nat × En) := [(0, eP (.aload_n 0) 1),
  (1, eP (.iload_n 1) 1),
  (2, eM (.invokevirtual 32) 9 2 1 2 1 126),
  (5, eB (.ifCond .eq 17) 22),
  (8, eP (.aload_n 0) 1),
  (9, eF (.getfield 22) 1 1 2 45),
  (12, eP (.iload_n 1) 1),
  (13, eP (.iaload) 1),
  (14, eC (.iconst (-1)) 1 0 (-1)),
  (15, eB (.if_icmp .eq 7) 22),
  (18, eC (.iconst 1) 1 0 1),
  (19, eB (.goto 4) 23),
  (22, eC (.iconst 0) 1 0 0),
  (23, eR (.ireturn) 3)]
/-- X1_sizeOf -/
def k_11 : List (Nat × En) := [(0, eP (.aload_n 0) 1),
  (1, eP (.iload_n 1) 1),
  (2, eM (.invokevirtual 36) 10 2 1 2 1 158),
  (5, eB (.ifCond .eq 12) 17),
  (8, eP (.aload_n 0) 1),
  (9, eF (.getfield 22) 1 1 2 45),
  (12, eP (.iload_n 1) 1),
  (13, eP (.iaload) 1),
  (14, eB (.goto 4) 18),
  (17, eC (.iconst 0) 1 0 0),
  (18, eR (.ireturn) 0)]
/-- X1_hasPlaces -/
def k_12 : List (Nat × En) := [(0, eP (.aload_n 0) 1),
  (1, eP (.iload_n 1) 1),
  (2, eM (.invokevirtual 36) 10 2 1 2 1 158),
  (5, eB (.ifCond .eq 27) 32),
  (8, eP (.iload_n 2) 1),
  (9, eB (.ifCond .lt 23) 32),
  (12, eP (.iload_n 3) 1),
  (13, eB (.ifCond .lt 19) 32),
  (16, eP (.iload_n 2) 1),
  (17, eP (.aload_n 0) 1),
  (18, eF (.getfield 22) 1 1 2 45),
  (21, eP (.iload_n 1) 1),
  (22, eP (.iaload) 1),
  (23, eP (.iload_n 3) 1),
  (24, eP (.isub) 1),
  (25, eB (.if_icmp .gt 7) 32),
  (28, eC (.iconst 1) 1 0 1),
  (29, eB (.goto 4) 33),
  (32, eC (.iconst 0) 1 0 0),
  (33, eR (.ireturn) 3)]
/-- X1_make -/
def k_13 : List (Nat × En) := [(0, eP (.aload_n 0) 1),
  (1, eP (.iload_n 1) 1),
  (2, eM (.invokevirtual 32) 9 2 1 2 1 126),
  (5, eB (.ifCond .eq 30) 35),
  (8, eP (.iload_n 2) 1),
  (9, eB (.ifCond .lt 26) 35),
  (12, eP (.iload_n 2) 1),
  (13, eC (.bipush 40) 2 0 40),
  (15, eB (.if_icmp .gt 20) 35),
  (18, eP (.aload_n 0) 1),
  (19, eF (.getfield 22) 1 1 2 45),
  (22, eP (.iload_n 1) 1),
  (23, eP (.iload_n 2) 1),
  (24, eP (.iastore) 1),
  (25, eP (.aload_n 0) 1),
  (26, eF (.getfield 17) 1 0 2 44),
  (29, eP (.iload_n 1) 1),
  (30, eP (.aaload) 1),
  (31, eP (.iload_n 3) 1),
  (32, eM (.invokestatic 26) 8 2 0 4 9 46),
  (35, eR (.return_) 2)]
/-- X1_remove -/
def k_14 : List (Nat × En) := [(0, eP (.aload_n 0) 1),
  (1, eP (.iload_n 1) 1),
  (2, eM (.invokevirtual 32) 9 2 1 2 1 126),
  (5, eB (.ifCond .eq 10) 15),
  (8, eP (.aload_n 0) 1),
  (9, eF (.getfield 22) 1 1 2 45),
  (12, eP (.iload_n 1) 1),
  (13, eC (.iconst (-1)) 1 0 (-1)),
  (14, eP (.iastore) 1),
  (15, eR (.return_) 2)]
/-- X1_placeOf -/
def k_15 : List (Nat × En) := [(0, eP (.aload_n 0) 1),
  (1, eP (.iload_n 1) 1),
  (2, eP (.iload_n 2) 1),
  (3, eC (.iconst 1) 1 0 1),
  (4, eM (.invokevirtual 39) 12 4 1 4 1 163),
  (7, eB (.ifCond .eq 14) 21),
  (10, eP (.aload_n 0) 1),
  (11, eF (.getfield 17) 1 0 2 44),
  (14, eP (.iload_n 1) 1),
  (15, eP (.aaload) 1),
  (16, eP (.iload_n 2) 1),
  (17, eP (.iaload) 1),
  (18, eB (.goto 4) 22),
  (21, eC (.iconst 0) 1 0 0),
  (22, eR (.ireturn) 0)]
/-- X1_change -/
def k_16 : List (Nat × En) := [(0, eP (.aload_n 0) 1),
  (1, eP (.iload_n 1) 1),
  (2, eP (.iload_n 2) 1),
  (3, eC (.iconst 1) 1 0 1),
  (4, eM (.invokevirtual 39) 12 4 1 4 1 163),
  (7, eB (.ifCond .eq 12) 19),
  (10, eP (.aload_n 0) 1),
  (11, eF (.getfield 17) 1 0 2 44),
  (14, eP (.iload_n 1) 1),
  (15, eP (.aaload) 1),
  (16, eP (.iload_n 2) 1),
  (17, eP (.iload_n 3) 1),
  (18, eP (.iastore) 1),
  (19, eR (.return_) 2)]
/-- X1_move -/
def k_17 : List (Nat × En) := [(0, eP (.aload_n 0) 1),
  (1, eP (.iload_n 1) 1),
  (2, eP (.iload_n 2) 1),
  (3, eP (.iload 5) 2),
  (5, eM (.invokevirtual 39) 12 4 1 4 1 163),
  (8, eB (.ifCond .eq 35) 43),
  (11, eP (.aload_n 0) 1),
  (12, eP (.iload_n 3) 1),
  (13, eP (.iload 4) 2),
  (15, eP (.iload 5) 2),
  (17, eM (.invokevirtual 39) 12 4 1 4 1 163),
  (20, eB (.ifCond .eq 23) 43),
  (23, eP (.aload_n 0) 1),
  (24, eF (.getfield 17) 1 0 2 44),
  (27, eP (.iload_n 1) 1),
  (28, eP (.aaload) 1),
  (29, eP (.iload_n 2) 1),
  (30, eP (.aload_n 0) 1),
  (31, eF (.getfield 17) 1 0 2 44),
  (34, eP (.iload_n 3) 1),
  (35, eP (.aaload) 1),
  (36, eP (.iload 4) 2),
  (38, eP (.iload 5) 2),
  (40, eM (.invokestatic 43) 999 5 0 0 9 214),
  (43, eR (.return_) 2)]
/-- X1_sumOf -/
def k_18 : List (Nat × En) := [(0, eL (.lconst 0) 1 0 0),
  (1, eP (.lstore_n 2) 1),
  (2, eC (.iconst 0) 1 0 0),
  (3, eP (.istore 4) 2),
  (5, eK [1, 1, 1, 0, 1] (eP (.iload 4) 2)),
  (7, eP (.aload_n 0) 1),
  (8, eP (.iload_n 1) 1),
  (9, eM (.invokevirtual 49) 11 2 1 2 1 234),
  (12, eB (.if_icmp .ge 22) 34),
  (15, eP (.lload_n 2) 1),
  (16, eP (.aload_n 0) 1),
  (17, eF (.getfield 17) 1 0 2 44),
  (20, eP (.iload_n 1) 1),
  (21, eP (.aaload) 1),
  (22, eP (.iload 4) 2),
  (24, eP (.iaload) 1),
  (25, eP (.i2l) 1),
  (26, eP (.ladd) 1),
  (27, eP (.lstore_n 2) 1),
  (28, eC (.iinc 4 1) 3 0 1),
  (31, eB (.goto (-26)) 5),
  (34, eP (.lload_n 2) 1),
  (35, eR (.lreturn) 1)]
/-- X1_countThere -/
def k_19 : List (Nat × En) := [(0, eC (.iconst 0) 1 0 0),
  (1, eP (.istore_n 1) 1),
  (2, eC (.iconst 0) 1 0 0),
  (3, eP (.istore_n 2) 1),
  (4, eP (.iload_n 2) 1),
  (5, eP (.aload_n 0) 1),
  (6, eF (.getfield 22) 1 1 2 45),
  (9, eP (.arraylength) 1),
  (10, eB (.if_icmp .ge 22) 32),
  (13, eP (.aload_n 0) 1),
  (14, eF (.getfield 22) 1 1 2 45),
  (17, eP (.iload_n 2) 1),
  (18, eP (.iaload) 1),
  (19, eC (.iconst (-1)) 1 0 (-1)),
  (20, eB (.if_icmp .eq 6) 26),
  (23, eC (.iinc 1 1) 3 0 1),
  (26, eC (.iinc 2 1) 3 0 1),
  (29, eB (.goto (-25)) 4),
  (32, eP (.iload_n 1) 1),
  (33, eR (.ireturn) 0)]
/-- X1_digestOn -/
def k_20 : List (Nat × En) := [(0, eP (.lload_n 1) 1),
  (1, eP (.lstore_n 3) 1),
  (2, eC (.iconst 0) 1 0 0),
  (3, eP (.istore 5) 2),
  (5, eK [1, 0, 0, 1, 0, 1, 0] (eP (.iload 5) 2)),
  (7, eP (.aload_n 0) 1),
  (8, eF (.getfield 22) 1 1 2 45),
  (11, eP (.arraylength) 1),
  (12, eB (.if_icmp .ge 63) 75),
  (15, eL (.ldc2_w 53) 3 1045 31),
  (18, eP (.lload_n 3) 1),
  (19, eP (.lmul) 1),
  (20, eP (.aload_n 0) 1),
  (21, eF (.getfield 22) 1 1 2 45),
  (24, eP (.iload 5) 2),
  (26, eP (.iaload) 1),
  (27, eP (.i2l) 1),
  (28, eP (.ladd) 1),
  (29, eP (.lstore_n 3) 1),
  (30, eC (.iconst 0) 1 0 0),
  (31, eP (.istore 6) 2),
  (33, eK [1, 0, 0, 1, 0, 1, 1] (eP (.iload 6) 2)),
  (35, eP (.aload_n 0) 1),
  (36, eF (.getfield 22) 1 1 2 45),
  (39, eP (.iload 5) 2),
  (41, eP (.iaload) 1),
  (42, eB (.if_icmp .ge 27) 69),
  (45, eL (.ldc2_w 53) 3 1045 31),
  (48, eP (.lload_n 3) 1),
  (49, eP (.lmul) 1),
  (50, eP (.aload_n 0) 1),
  (51, eF (.getfield 17) 1 0 2 44),
  (54, eP (.iload 5) 2),
  (56, eP (.aaload) 1),
  (57, eP (.iload 6) 2),
  (59, eP (.iaload) 1),
  (60, eP (.i2l) 1),
  (61, eP (.ladd) 1),
  (62, eP (.lstore_n 3) 1),
  (63, eC (.iinc 6 1) 3 0 1),
  (66, eB (.goto (-33)) 33),
  (69, eC (.iinc 5 1) 3 0 1),
  (72, eB (.goto (-67)) 5),
  (75, eP (.lload_n 3) 1),
  (76, eR (.lreturn) 1)]
/-- X0_read -/
def k_21 : List (Nat × En) := [(0, eP (.aload_n 0) 1),
  (1, eC (.iconst 0) 1 0 0),
  (2, eF (.putfield 9) 0 0 3 67),
  (5, eP (.aload_n 0) 1),
  (6, eP (.iload_n 3) 1),
  (7, eF (.putfield 15) 0 1 0 68),
  (10, eP (.aload_n 0) 1),
  (11, eC (.iconst 0) 1 0 0),
  (12, eF (.putfield 19) 0 2 0 69),
  (15, eP (.aload_n 0) 1),
  (16, eC (.iconst 0) 1 0 0),
  (17, eF (.putfield 22) 0 3 0 70),
  (20, eP (.aload_n 0) 1),
  (21, eC (.iconst 0) 1 0 0),
  (22, eF (.putfield 25) 0 4 0 71),
  (25, eP (.aload_n 1) 1),
  (26, eP (.iload_n 2) 1),
  (27, eM (.invokevirtual 42) 11 2 1 2 1 328),
  (30, eP (.istore 4) 2),
  (32, eC (.iconst 0) 1 0 0),
  (33, eP (.istore 5) 2),
  (35, eC (.iconst 0) 1 0 0),
  (36, eP (.istore 6) 2),
  (38, eK [1, 1, 1, 0, 1, 1, 1] (eP (.iload 6) 2)),
  (40, eP (.iload 4) 2),
  (42, eB (.if_icmp .ge 33) 75),
  (45, eP (.aload_n 0) 1),
  (46, eP (.iload 5) 2),
  (48, eP (.aload_n 1) 1),
  (49, eP (.iload_n 2) 1),
  (50, eP (.iload 6) 2),
  (52, eM (.invokevirtual 48) 15 3 1 3 1 329),
  (55, eM (.invokevirtual 52) 22 3 1 3 0 330),
  (58, eP (.istore 5) 2),
  (60, eP (.iload 5) 2),
  (62, eC (.iconst (-1)) 1 0 (-1)),
  (63, eB (.if_icmp .ne 6) 69),
  (66, eP (.iload 6) 2),
  (68, eR (.ireturn) 0),
  (69, eC (.iinc 6 1) 3 0 1),
  (72, eB (.goto (-34)) 38),
  (75, eP (.iload 5) 2),
  (77, eC (.bipush 6) 2 0 6),
  (79, eB (.if_icmp .eq 10) 89),
  (82, eP (.iload 5) 2),
  (84, eC (.bipush 7) 2 0 7),
  (86, eB (.if_icmp .ne 8) 94),
  (89, eC (.bipush (-9)) 2 0 (-9)),
  (91, eB (.goto 5) 96),
  (94, eP (.iload 4) 2),
  (96, eR (.ireturn) 0)]
/-- X0_stateAfter -/
def k_22 : List (Nat × En) := [(0, eP (.iload_n 1) 1),
  (1, eS (.tableswitch 112 0 7 #[47, 63, 69, 75, 81, 87, 93, 99]) 47 113 [(0, 48), (1, 64), (2, 70), (3, 76), (4, 82), (5, 88), (6, 94), (7, 100)]),
  (48, eP (.iload_n 2) 1),
  (49, eC (.bipush 32) 2 0 32),
  (51, eB (.if_icmp .ne 7) 58),
  (54, eC (.iconst 0) 1 0 0),
  (55, eB (.goto 8) 63),
  (58, eP (.aload_n 0) 1),
  (59, eP (.iload_n 2) 1),
  (60, eM (.invokevirtual 55) 23 2 1 2 0 334),
  (63, eR (.ireturn) 0),
  (64, eP (.aload_n 0) 1),
  (65, eP (.iload_n 2) 1),
  (66, eM (.invokevirtual 58) 24 2 1 2 0 346),
  (69, eR (.ireturn) 0),
  (70, eP (.aload_n 0) 1),
  (71, eP (.iload_n 2) 1),
  (72, eM (.invokevirtual 61) 25 2 1 2 0 338),
  (75, eR (.ireturn) 0),
  (76, eP (.aload_n 0) 1),
  (77, eP (.iload_n 2) 1),
  (78, eM (.invokevirtual 64) 26 2 1 2 0 342),
  (81, eR (.ireturn) 0),
  (82, eP (.aload_n 0) 1),
  (83, eP (.iload_n 2) 1),
  (84, eM (.invokevirtual 67) 27 2 1 2 0 350),
  (87, eR (.ireturn) 0),
  (88, eP (.aload_n 0) 1),
  (89, eP (.iload_n 2) 1),
  (90, eM (.invokevirtual 70) 28 2 1 2 0 362),
  (93, eR (.ireturn) 0),
  (94, eP (.aload_n 0) 1),
  (95, eP (.iload_n 2) 1),
  (96, eM (.invokevirtual 73) 29 2 1 3 0 366),
  (99, eR (.ireturn) 0),
  (100, eP (.iload_n 2) 1),
  (101, eC (.bipush 32) 2 0 32),
  (103, eB (.if_icmp .ne 8) 111),
  (106, eC (.bipush 7) 2 0 7),
  (108, eB (.goto 4) 112),
  (111, eC (.iconst (-1)) 1 0 (-1)),
  (112, eR (.ireturn) 0),
  (113, eC (.iconst (-1)) 1 0 (-1)),
  (114, eR (.ireturn) 0)]
/-- X0_afterHead -/
def k_23 : List (Nat × En) := [(0, eP (.aload_n 0) 1),
  (1, eF (.getfield 15) 0 1 0 68),
  (4, eC (.iconst 3) 1 0 3),
  (5, eB (.if_icmp .ne 15) 20),
  (8, eP (.iload_n 1) 1),
  (9, eC (.bipush 35) 2 0 35),
  (11, eB (.if_icmp .ne 7) 18),
  (14, eC (.iconst 1) 1 0 1),
  (15, eB (.goto 4) 19),
  (18, eC (.iconst (-1)) 1 0 (-1)),
  (19, eR (.ireturn) 0),
  (20, eP (.aload_n 0) 1),
  (21, eF (.getfield 15) 0 1 0 68),
  (24, eC (.iconst 4) 1 0 4),
  (25, eB (.if_icmp .ne 15) 40),
  (28, eP (.iload_n 1) 1),
  (29, eC (.bipush 49) 2 0 49),
  (31, eB (.if_icmp .ne 7) 38),
  (34, eC (.iconst 2) 1 0 2),
  (35, eB (.goto 4) 39),
  (38, eC (.iconst (-1)) 1 0 (-1)),
  (39, eR (.ireturn) 0),
  (40, eP (.aload_n 0) 1),
  (41, eP (.iload_n 1) 1),
  (42, eM (.invokevirtual 61) 25 2 1 2 0 338),
  (45, eR (.ireturn) 0)]
/-- X0_afterFigure -/
def k_24 : List (Nat × En) := [(0, eP (.iload_n 1) 1),
  (1, eC (.bipush 49) 2 0 49),
  (3, eB (.if_icmp .lt 9) 12),
  (6, eP (.iload_n 1) 1),
  (7, eC (.bipush 52) 2 0 52),
  (9, eB (.if_icmp .le 5) 14),
  (12, eC (.iconst (-1)) 1 0 (-1)),
  (13, eR (.ireturn) 0),
  (14, eP (.aload_n 0) 1),
  (15, eP (.iload_n 1) 1),
  (16, eC (.bipush 48) 2 0 48),
  (18, eP (.isub) 1),
  (19, eF (.putfield 22) 0 3 0 70),
  (22, eC (.iconst 2) 1 0 2),
  (23, eR (.ireturn) 0)]
/-- X0_afterPartStart -/
def k_25 : List (Nat × En) := [(0, eP (.aload_n 0) 1),
  (1, eF (.getfield 25) 0 4 0 71),
  (4, eC (.bipush 6) 2 0 6),
  (6, eB (.if_icmp .lt 5) 11),
  (9, eC (.iconst (-1)) 1 0 (-1)),
  (10, eR (.ireturn) 0),
  (11, eP (.aload_n 0) 1),
  (12, eF (.getfield 38) 0 8 2 76),
  (15, eP (.aload_n 0) 1),
  (16, eF (.getfield 25) 0 4 0 71),
  (19, eP (.iload_n 1) 1),
  (20, eC (.bipush 33) 2 0 33),
  (22, eB (.if_icmp .ne 7) 29),
  (25, eC (.iconst 1) 1 0 1),
  (26, eB (.goto 4) 30),
  (29, eC (.iconst 0) 1 0 0),
  (30, eP (.bastore) 1),
  (31, eP (.aload_n 0) 1),
  (32, eF (.getfield 38) 0 8 2 76),
  (35, eP (.aload_n 0) 1),
  (36, eF (.getfield 25) 0 4 0 71),
  (39, eP (.baload) 1),
  (40, eB (.ifCond .eq 7) 47),
  (43, eC (.iconst 3) 1 0 3),
  (44, eB (.goto 8) 52),
  (47, eP (.aload_n 0) 1),
  (48, eP (.iload_n 1) 1),
  (49, eM (.invokevirtual 64) 26 2 1 2 0 342),
  (52, eR (.ireturn) 0)]
/-- X0_afterLetter -/
def k_26 : List (Nat × En) := [(0, eP (.aload_n 0) 1),
  (1, eF (.getfield 25) 0 4 0 71),
  (4, eC (.bipush 6) 2 0 6),
  (6, eB (.if_icmp .lt 5) 11),
  (9, eC (.iconst (-1)) 1 0 (-1)),
  (10, eR (.ireturn) 0),
  (11, eP (.aload_n 0) 1),
  (12, eF (.getfield 32) 0 6 2 73),
  (15, eP (.aload_n 0) 1),
  (16, eF (.getfield 25) 0 4 0 71),
  (19, eC (.iconst (-1)) 1 0 (-1)),
  (20, eP (.iastore) 1),
  (21, eP (.iload_n 1) 1),
  (22, eC (.bipush 65) 2 0 65),
  (24, eB (.if_icmp .lt 26) 50),
  (27, eP (.iload_n 1) 1),
  (28, eC (.bipush 67) 2 0 67),
  (30, eB (.if_icmp .gt 20) 50),
  (33, eP (.aload_n 0) 1),
  (34, eF (.getfield 28) 0 5 2 72),
  (37, eP (.aload_n 0) 1),
  (38, eF (.getfield 25) 0 4 0 71),
  (41, eC (.iconst 4) 1 0 4),
  (42, eP (.iload_n 1) 1),
  (43, eC (.bipush 65) 2 0 65),
  (45, eP (.isub) 1),
  (46, eP (.imul) 1),
  (47, eP (.iastore) 1),
  (48, eC (.iconst 5) 1 0 5),
  (49, eR (.ireturn) 0),
  (50, eP (.aload_n 0) 1),
  (51, eF (.getfield 28) 0 5 2 72),
  (54, eP (.aload_n 0) 1),
  (55, eF (.getfield 25) 0 4 0 71),
  (58, eC (.bipush 12) 2 0 12),
  (60, eP (.iastore) 1),
  (61, eP (.iload_n 1) 1),
  (62, eC (.bipush 70) 2 0 70),
  (64, eB (.if_icmp .ne 7) 71),
  (67, eC (.iconst 4) 1 0 4),
  (68, eB (.goto 4) 72),
  (71, eC (.iconst (-1)) 1 0 (-1)),
  (72, eR (.ireturn) 0)]
/-- X0_afterFirst -/
def k_27 : List (Nat × En) := [(0, eP (.aload_n 0) 1),
  (1, eF (.getfield 25) 0 4 0 71),
  (4, eC (.bipush 6) 2 0 6),
  (6, eB (.if_icmp .ge 11) 17),
  (9, eP (.aload_n 0) 1),
  (10, eP (.iload_n 1) 1),
  (11, eM (.invokevirtual 76) 30 2 1 2 0 354),
  (14, eB (.ifCond .ne 5) 19),
  (17, eC (.iconst (-1)) 1 0 (-1)),
  (18, eR (.ireturn) 0),
  (19, eP (.aload_n 0) 1),
  (20, eF (.getfield 32) 0 6 2 73),
  (23, eP (.aload_n 0) 1),
  (24, eF (.getfield 25) 0 4 0 71),
  (27, eP (.iload_n 1) 1),
  (28, eC (.bipush 120) 2 0 120),
  (30, eP (.isub) 1),
  (31, eP (.iastore) 1),
  (32, eC (.iconst 5) 1 0 5),
  (33, eR (.ireturn) 0)]
/-- X0_afterLast -/
def k_28 : List (Nat × En) := [(0, eP (.aload_n 0) 1),
  (1, eF (.getfield 25) 0 4 0 71),
  (4, eC (.bipush 6) 2 0 6),
  (6, eB (.if_icmp .ge 11) 17),
  (9, eP (.aload_n 0) 1),
  (10, eP (.iload_n 1) 1),
  (11, eM (.invokevirtual 76) 30 2 1 2 0 354),
  (14, eB (.ifCond .ne 5) 19),
  (17, eC (.iconst (-1)) 1 0 (-1)),
  (18, eR (.ireturn) 0),
  (19, eP (.aload_n 0) 1),
  (20, eF (.getfield 35) 0 7 2 74),
  (23, eP (.aload_n 0) 1),
  (24, eF (.getfield 25) 0 4 0 71),
  (27, eP (.iload_n 1) 1),
  (28, eC (.bipush 120) 2 0 120),
  (30, eP (.isub) 1),
  (31, eP (.iastore) 1),
  (32, eP (.aload_n 0) 1),
  (33, eP (.dup) 1),
  (34, eF (.getfield 25) 0 4 0 71),
  (37, eC (.iconst 1) 1 0 1),
  (38, eP (.iadd) 1),
  (39, eF (.putfield 25) 0 4 0 71),
  (42, eC (.bipush 6) 2 0 6),
  (44, eR (.ireturn) 0)]
/-- X0_afterPart -/
def k_29 : List (Nat × En) := [(0, eP (.iload_n 1) 1),
  (1, eC (.bipush 32) 2 0 32),
  (3, eB (.if_icmp .ne 6) 9),
  (6, eC (.bipush 7) 2 0 7),
  (8, eR (.ireturn) 0),
  (9, eP (.aload_n 0) 1),
  (10, eM (.invokevirtual 80) 31 1 1 1 0 358),
  (13, eB (.ifCond .ne 16) 29),
  (16, eP (.aload_n 0) 1),
  (17, eF (.getfield 25) 0 4 0 71),
  (20, eC (.bipush 6) 2 0 6),
  (22, eB (.if_icmp .ge 7) 29),
  (25, eC (.iconst 1) 1 0 1),
  (26, eB (.goto 4) 30),
  (29, eC (.iconst 0) 1 0 0),
  (30, eK [0, 1, 0] (eP (.istore_n 2) 1)),
  (31, eP (.iload_n 1) 1),
  (32, eC (.bipush 124) 2 0 124),
  (34, eB (.if_icmp .ne 11) 45),
  (37, eP (.iload_n 2) 1),
  (38, eB (.ifCond .eq 7) 45),
  (41, eC (.iconst 2) 1 0 2),
  (42, eB (.goto 4) 46),
  (45, eC (.iconst (-1)) 1 0 (-1)),
  (46, eR (.ireturn) 0)]
/-- X0_isVariable -/
def k_30 : List (Nat × En) := [(0, eP (.iload_n 1) 1),
  (1, eC (.bipush 120) 2 0 120),
  (3, eB (.if_icmp .eq 16) 19),
  (6, eP (.iload_n 1) 1),
  (7, eC (.bipush 121) 2 0 121),
  (9, eB (.if_icmp .ne 14) 23),
  (12, eP (.aload_n 0) 1),
  (13, eM (.invokevirtual 80) 31 1 1 1 0 358),
  (16, eB (.ifCond .ne 7) 23),
  (19, eC (.iconst 1) 1 0 1),
  (20, eB (.goto 4) 24),
  (23, eC (.iconst 0) 1 0 0),
  (24, eR (.ireturn) 3)]
/-- X0_isOverNames -/
def k_31 : List (Nat × En) := [(0, eP (.aload_n 0) 1),
  (1, eF (.getfield 15) 0 1 0 68),
  (4, eC (.iconst 3) 1 0 3),
  (5, eB (.if_icmp .eq 11) 16),
  (8, eP (.aload_n 0) 1),
  (9, eF (.getfield 15) 0 1 0 68),
  (12, eC (.iconst 4) 1 0 4),
  (13, eB (.if_icmp .ne 7) 20),
  (16, eC (.iconst 1) 1 0 1),
  (17, eB (.goto 4) 21),
  (20, eC (.iconst 0) 1 0 0),
  (21, eR (.ireturn) 3)]
/-- X0_has -/
def k_32 : List (Nat × En) := [(0, eC (.iconst 0) 1 0 0),
  (1, eP (.istore_n 2) 1),
  (2, eP (.iload_n 2) 1),
  (3, eP (.aload_n 0) 1),
  (4, eF (.getfield 25) 0 4 0 71),
  (7, eB (.if_icmp .ge 31) 38),
  (10, eP (.aload_n 0) 1),
  (11, eF (.getfield 32) 0 6 2 73),
  (14, eP (.iload_n 2) 1),
  (15, eP (.iaload) 1),
  (16, eP (.iload_n 1) 1),
  (17, eB (.if_icmp .eq 13) 30),
  (20, eP (.aload_n 0) 1),
  (21, eF (.getfield 35) 0 7 2 74),
  (24, eP (.iload_n 2) 1),
  (25, eP (.iaload) 1),
  (26, eP (.iload_n 1) 1),
  (27, eB (.if_icmp .ne 5) 32),
  (30, eC (.iconst 1) 1 0 1),
  (31, eR (.ireturn) 3),
  (32, eC (.iinc 2 1) 3 0 1),
  (35, eB (.goto (-33)) 2),
  (38, eC (.iconst 0) 1 0 0),
  (39, eR (.ireturn) 3)]
/-- X0_caseCount -/
def k_33 : List (Nat × En) := [(0, eP (.aload_n 0) 1),
  (1, eM (.invokevirtual 80) 31 1 1 1 0 358),
  (4, eB (.ifCond .eq 7) 11),
  (7, eC (.iconst 1) 1 0 1),
  (8, eB (.goto 16) 24),
  (11, eP (.aload_n 0) 1),
  (12, eC (.iconst 0) 1 0 0),
  (13, eP (.iload_n 1) 1),
  (14, eM (.invokevirtual 84) 34 3 1 3 0 425),
  (17, eP (.aload_n 0) 1),
  (18, eC (.iconst 1) 1 0 1),
  (19, eP (.iload_n 1) 1),
  (20, eM (.invokevirtual 84) 34 3 1 3 0 425),
  (23, eP (.imul) 1),
  (24, eR (.ireturn) 0)]
/-- X0_choices -/
def k_34 : List (Nat × En) := [(0, eP (.aload_n 0) 1),
  (1, eP (.iload_n 1) 1),
  (2, eM (.invokevirtual 87) 32 2 1 3 0 429),
  (5, eB (.ifCond .eq 7) 12),
  (8, eP (.iload_n 2) 1),
  (9, eB (.goto 4) 13),
  (12, eC (.iconst 1) 1 0 1),
  (13, eR (.ireturn) 0)]
/-- X0_countDenied -/
def k_35 : List (Nat × En) := [(0, eC (.iconst 0) 1 0 0),
  (1, eP (.istore_n 1) 1),
  (2, eC (.iconst 0) 1 0 0),
  (3, eP (.istore_n 2) 1),
  (4, eP (.iload_n 2) 1),
  (5, eP (.aload_n 0) 1),
  (6, eF (.getfield 25) 0 4 0 71),
  (9, eB (.if_icmp .ge 21) 30),
  (12, eP (.aload_n 0) 1),
  (13, eF (.getfield 38) 0 8 2 76),
  (16, eP (.iload_n 2) 1),
  (17, eP (.baload) 1),
  (18, eB (.ifCond .eq 6) 24),
  (21, eC (.iinc 1 1) 3 0 1),
  (24, eC (.iinc 2 1) 3 0 1),
  (27, eB (.goto (-23)) 4),
  (30, eP (.iload_n 1) 1),
  (31, eR (.ireturn) 0)]
/-- X0_sayingOf -/
def k_36 : List (Nat × En) := [(0, eP (.iload_n 1) 1),
  (1, eB (.ifCond .lt 11) 12),
  (4, eP (.iload_n 1) 1),
  (5, eP (.aload_n 0) 1),
  (6, eF (.getfield 25) 0 4 0 71),
  (9, eB (.if_icmp .lt 5) 14),
  (12, eC (.iconst 0) 1 0 0),
  (13, eR (.ireturn) 0),
  (14, eP (.aload_n 0) 1),
  (15, eF (.getfield 35) 0 7 2 74),
  (18, eP (.iload_n 1) 1),
  (19, eP (.iaload) 1),
  (20, eB (.ifCond .ne 7) 27),
  (23, eP (.iload_n 2) 1),
  (24, eB (.goto 4) 28),
  (27, eP (.iload_n 3) 1),
  (28, eK [1, 1, 1, 1, 0] (eP (.istore 4) 2)),
  (30, eP (.aload_n 0) 1),
  (31, eF (.getfield 32) 0 6 2 73),
  (34, eP (.iload_n 1) 1),
  (35, eP (.iaload) 1),
  (36, eC (.iconst (-1)) 1 0 (-1)),
  (37, eB (.if_icmp .ne 13) 50),
  (40, eP (.aload_n 0) 1),
  (41, eF (.getfield 28) 0 5 2 72),
  (44, eP (.iload_n 1) 1),
  (45, eP (.iaload) 1),
  (46, eP (.iload 4) 2),
  (48, eP (.iadd) 1),
  (49, eR (.ireturn) 0),
  (50, eP (.aload_n 0) 1),
  (51, eF (.getfield 28) 0 5 2 72),
  (54, eP (.iload_n 1) 1),
  (55, eP (.iaload) 1),
  (56, eC (.iconst 4) 1 0 4),
  (57, eP (.aload_n 0) 1),
  (58, eF (.getfield 32) 0 6 2 73),
  (61, eP (.iload_n 1) 1),
  (62, eP (.iaload) 1),
  (63, eB (.ifCond .ne 7) 70),
  (66, eP (.iload_n 2) 1),
  (67, eB (.goto 4) 71),
  (70, eP (.iload_n 3) 1),
  (71, eP (.imul) 1),
  (72, eP (.iadd) 1),
  (73, eP (.iload 4) 2),
  (75, eP (.iadd) 1),
  (76, eR (.ireturn) 0)]
/-- X0_sayingsOf -/
def k_37 : List (Nat × En) := [(0, eC (.iconst 0) 1 0 0),
  (1, eP (.istore 4) 2),
  (3, eC (.iconst 0) 1 0 0),
  (4, eP (.istore 5) 2),
  (6, eP (.iload 5) 2),
  (8, eP (.aload_n 0) 1),
  (9, eF (.getfield 25) 0 4 0 71),
  (12, eB (.if_icmp .ge 35) 47),
  (15, eP (.aload_n 0) 1),
  (16, eF (.getfield 38) 0 8 2 76),
  (19, eP (.iload 5) 2),
  (21, eP (.baload) 1),
  (22, eP (.iload_n 1) 1),
  (23, eB (.if_icmp .ne 18) 41),
  (26, eP (.iload 4) 2),
  (28, eC (.iconst 1) 1 0 1),
  (29, eP (.aload_n 0) 1),
  (30, eP (.iload 5) 2),
  (32, eP (.iload_n 2) 1),
  (33, eP (.iload_n 3) 1),
  (34, eM (.invokevirtual 90) 36 4 1 5 0 576),
  (37, eP (.ishl) 1),
  (38, eP (.ior) 1),
  (39, eP (.istore 4) 2),
  (41, eC (.iinc 5 1) 3 0 1),
  (44, eB (.goto (-38)) 6),
  (47, eP (.iload 4) 2),
  (49, eR (.ireturn) 0)]
/-- X0_isBrokenBy -/
def k_38 : List (Nat × En) := [(0, eC (.iconst 0) 1 0 0),
  (1, eP (.istore_n 3) 1),
  (2, eC (.iconst 0) 1 0 0),
  (3, eP (.istore 4) 2),
  (5, eK [1, 1, 1, 1, 1, 0] (eP (.iload 4) 2)),
  (7, eP (.iload_n 2) 1),
  (8, eB (.if_icmp .ge 46) 54),
  (11, eP (.iload_n 1) 1),
  (12, eP (.aload_n 0) 1),
  (13, eC (.iconst 0) 1 0 0),
  (14, eP (.iload 4) 2),
  (16, eP (.iload 4) 2),
  (18, eM (.invokevirtual 90) 36 4 1 5 0 576),
  (21, eP (.ishr) 1),
  (22, eC (.iconst 1) 1 0 1),
  (23, eP (.iand) 1),
  (24, eB (.ifCond .eq 7) 31),
  (27, eC (.iconst 1) 1 0 1),
  (28, eB (.goto 4) 32),
  (31, eC (.iconst 0) 1 0 0),
  (32, eK [1, 1, 1, 1, 1, 0] (eP (.istore 5) 2)),
  (34, eP (.iload 5) 2),
  (36, eP (.aload_n 0) 1),
  (37, eF (.getfield 38) 0 8 2 76),
  (40, eC (.iconst 0) 1 0 0),
  (41, eP (.baload) 1),
  (42, eB (.if_icmp .eq 6) 48),
  (45, eC (.iinc 3 1) 3 0 1),
  (48, eC (.iinc 4 1) 3 0 1),
  (51, eB (.goto (-46)) 5),
  (54, eP (.aload_n 0) 1),
  (55, eF (.getfield 15) 0 1 0 68),
  (58, eC (.iconst 3) 1 0 3),
  (59, eB (.if_icmp .ne 19) 78),
  (62, eP (.iload_n 3) 1),
  (63, eP (.aload_n 0) 1),
  (64, eF (.getfield 22) 0 3 0 70),
  (67, eB (.if_icmp .ge 7) 74),
  (70, eC (.iconst 1) 1 0 1),
  (71, eB (.goto 17) 88),
  (74, eC (.iconst 0) 1 0 0),
  (75, eB (.goto 13) 88),
  (78, eP (.iload_n 3) 1),
  (79, eC (.iconst 1) 1 0 1),
  (80, eB (.if_icmp .eq 7) 87),
  (83, eC (.iconst 1) 1 0 1),
  (84, eB (.goto 4) 88),
  (87, eC (.iconst 0) 1 0 0),
  (88, eR (.ireturn) 3)]
/-- X2_gather -/
def k_39 : List (Nat × En) := [(0, eP (.aload_n 0) 1),
  (1, eP (.aload_n 1) 1),
  (2, eM (.invokevirtual 45) 40 2 0 3 2 552),
  (5, eP (.aload_n 0) 1),
  (6, eF (.getfield 22) 2 3 2 57),
  (9, eL (.lconst 0) 1 0 0),
  (10, eM (.invokestatic 49) 7 2 0 5 9 560),
  (13, eC (.iconst 0) 1 0 0),
  (14, eP (.istore 4) 2),
  (16, eK [1, 0, 1, 1, 1] (eP (.iload 4) 2)),
  (18, eC (.bipush 8) 2 0 8),
  (20, eB (.if_icmp .ge 40) 60),
  (23, eP (.aload_n 3) 1),
  (24, eP (.iload 4) 2),
  (26, eP (.aaload) 1),
  (27, eF (.getfield 55) 0 0 3 10003),
  (30, eB (.ifCond .eq 24) 54),
  (33, eP (.aload_n 3) 1),
  (34, eP (.iload 4) 2),
  (36, eP (.aaload) 1),
  (37, eF (.getfield 61) 0 1 0 10005),
  (40, eB (.ifCond .eq 14) 54),
  (43, eP (.aload_n 0) 1),
  (44, eP (.iload 4) 2),
  (46, eP (.aload_n 3) 1),
  (47, eP (.iload 4) 2),
  (49, eP (.aaload) 1),
  (50, eP (.iload_n 2) 1),
  (51, eM (.invokevirtual 64) 42 4 0 6 2 563),
  (54, eC (.iinc 4 1) 3 0 1),
  (57, eB (.goto (-41)) 16),
  (60, eR (.return_) 2)]
/-- X2_listTruths -/
def k_40 : List (Nat × En) := [(0, eP (.aload_n 0) 1),
  (1, eC (.iconst 1) 1 0 1),
  (2, eF (.putfield 9) 2 0 0 53),
  (5, eP (.aload_n 0) 1),
  (6, eC (.iconst 0) 1 0 0),
  (7, eF (.putfield 15) 2 1 0 54),
  (10, eP (.aload_n 0) 1),
  (11, eF (.getfield 18) 2 2 2 55),
  (14, eC (.iconst 0) 1 0 0),
  (15, eC (.iconst 0) 1 0 0),
  (16, eP (.iastore) 1),
  (17, eC (.iconst 0) 1 0 0),
  (18, eP (.istore_n 2) 1),
  (19, eP (.iload_n 2) 1),
  (20, eC (.bipush 28) 2 0 28),
  (22, eB (.if_icmp .ge 28) 50),
  (25, eP (.aload_n 1) 1),
  (26, eP (.iload_n 2) 1),
  (27, eP (.iaload) 1),
  (28, eC (.iconst 1) 1 0 1),
  (29, eB (.if_icmp .ne 15) 44),
  (32, eP (.aload_n 0) 1),
  (33, eF (.getfield 18) 2 2 2 55),
  (36, eC (.iconst 0) 1 0 0),
  (37, eP (.dup2) 1),
  (38, eP (.iaload) 1),
  (39, eC (.iconst 1) 1 0 1),
  (40, eP (.iload_n 2) 1),
  (41, eP (.ishl) 1),
  (42, eP (.ior) 1),
  (43, eP (.iastore) 1),
  (44, eC (.iinc 2 1) 3 0 1),
  (47, eB (.goto (-28)) 19),
  (50, eC (.iconst 0) 1 0 0),
  (51, eP (.istore_n 2) 1),
  (52, eP (.iload_n 2) 1),
  (53, eC (.bipush 28) 2 0 28),
  (55, eB (.if_icmp .ge 43) 98),
  (58, eP (.aload_n 1) 1),
  (59, eP (.iload_n 2) 1),
  (60, eP (.iaload) 1),
  (61, eC (.iconst 3) 1 0 3),
  (62, eB (.if_icmp .ne 30) 92),
  (65, eP (.aload_n 0) 1),
  (66, eF (.getfield 9) 2 0 0 53),
  (69, eC (.sipush 1024) 3 0 1024),
  (72, eB (.if_icmp .ge 20) 92),
  (75, eP (.aload_n 0) 1),
  (76, eP (.dup) 1),
  (77, eF (.getfield 15) 2 1 0 54),
  (80, eC (.iconst 1) 1 0 1),
  (81, eP (.iload_n 2) 1),
  (82, eP (.ishl) 1),
  (83, eP (.ior) 1),
  (84, eF (.putfield 15) 2 1 0 54),
  (87, eP (.aload_n 0) 1),
  (88, eP (.iload_n 2) 1),
  (89, eM (.invokevirtual 68) 41 2 0 3 2 556),
  (92, eC (.iinc 2 1) 3 0 1),
  (95, eB (.goto (-43)) 52),
  (98, eR (.return_) 2)]
/-- X2_splitBy -/
def k_41 : List (Nat × En) := [(0, eC (.iconst 0) 1 0 0),
  (1, eP (.istore_n 2) 1),
  (2, eP (.iload_n 2) 1),
  (3, eP (.aload_n 0) 1),
  (4, eF (.getfield 9) 2 0 0 53),
  (7, eB (.if_icmp .ge 42) 49),
  (10, eP (.aload_n 0) 1),
  (11, eF (.getfield 9) 2 0 0 53),
  (14, eP (.iload_n 2) 1),
  (15, eP (.iadd) 1),
  (16, eC (.sipush 1024) 3 0 1024),
  (19, eB (.if_icmp .ge 30) 49),
  (22, eP (.aload_n 0) 1),
  (23, eF (.getfield 18) 2 2 2 55),
  (26, eP (.aload_n 0) 1),
  (27, eF (.getfield 9) 2 0 0 53),
  (30, eP (.iload_n 2) 1),
  (31, eP (.iadd) 1),
  (32, eP (.aload_n 0) 1),
  (33, eF (.getfield 18) 2 2 2 55),
  (36, eP (.iload_n 2) 1),
  (37, eP (.iaload) 1),
  (38, eC (.iconst 1) 1 0 1),
  (39, eP (.iload_n 1) 1),
  (40, eP (.ishl) 1),
  (41, eP (.ior) 1),
  (42, eP (.iastore) 1),
  (43, eC (.iinc 2 1) 3 0 1),
  (46, eB (.goto (-44)) 2),
  (49, eP (.aload_n 0) 1),
  (50, eC (.iconst 2) 1 0 2),
  (51, eP (.aload_n 0) 1),
  (52, eF (.getfield 9) 2 0 0 53),
  (55, eP (.imul) 1),
  (56, eF (.putfield 9) 2 0 0 53),
  (59, eR (.return_) 2)]
/-- X2_addBreaks -/
def k_42 : List (Nat × En) := [(0, eP (.aload_n 2) 1),
  (1, eM (.invokevirtual 72) 31 1 1 1 0 567),
  (4, eB (.ifCond .eq 11) 15),
  (7, eP (.aload_n 0) 1),
  (8, eP (.iload_n 1) 1),
  (9, eP (.aload_n 2) 1),
  (10, eP (.iload_n 3) 1),
  (11, eM (.invokevirtual 76) 43 4 0 5 2 568),
  (14, eR (.return_) 2),
  (15, eC (.iconst 0) 1 0 0),
  (16, eP (.istore 4) 2),
  (18, eK [1, 1, 1, 1, 1, 0] (eP (.iload 4) 2)),
  (20, eP (.aload_n 2) 1),
  (21, eC (.iconst 0) 1 0 0),
  (22, eP (.iload_n 3) 1),
  (23, eM (.invokevirtual 79) 34 3 1 3 0 577),
  (26, eB (.if_icmp .ge 52) 78),
  (29, eC (.iconst 0) 1 0 0),
  (30, eP (.istore 5) 2),
  (32, eP (.iload 5) 2),
  (34, eP (.aload_n 2) 1),
  (35, eC (.iconst 1) 1 0 1),
  (36, eP (.iload_n 3) 1),
  (37, eM (.invokevirtual 79) 34 3 1 3 0 577),
  (40, eB (.if_icmp .ge 32) 72),
  (43, eP (.aload_n 0) 1),
  (44, eP (.iload_n 1) 1),
  (45, eP (.aload_n 2) 1),
  (46, eC (.iconst 0) 1 0 0),
  (47, eP (.iload 4) 2),
  (49, eP (.iload 5) 2),
  (51, eM (.invokevirtual 83) 37 4 1 6 0 578),
  (54, eP (.aload_n 2) 1),
  (55, eC (.iconst 1) 1 0 1),
  (56, eP (.iload 4) 2),
  (58, eP (.iload 5) 2),
  (60, eM (.invokevirtual 83) 37 4 1 6 0 578),
  (63, eM (.invokevirtual 87) 44 4 0 7 2 582),
  (66, eC (.iinc 5 1) 3 0 1),
  (69, eB (.goto (-37)) 32),
  (72, eC (.iinc 4 1) 3 0 1),
  (75, eB (.goto (-57)) 18),
  (78, eR (.return_) 2)]
/-- X2_addBreaksOverNames -/
def k_43 : List (Nat × En) := [(0, eC (.iconst 0) 1 0 0),
  (1, eP (.istore 4) 2),
  (3, eP (.iload 4) 2),
  (5, eP (.aload_n 0) 1),
  (6, eF (.getfield 9) 2 0 0 53),
  (9, eB (.if_icmp .ge 40) 49),
  (12, eP (.aload_n 2) 1),
  (13, eP (.aload_n 0) 1),
  (14, eF (.getfield 18) 2 2 2 55),
  (17, eP (.iload 4) 2),
  (19, eP (.iaload) 1),
  (20, eP (.iload_n 3) 1),
  (21, eM (.invokevirtual 91) 38 3 1 6 0 572),
  (24, eB (.ifCond .eq 19) 43),
  (27, eP (.aload_n 0) 1),
  (28, eF (.getfield 22) 2 3 2 57),
  (31, eP (.iload 4) 2),
  (33, eP (.dup2) 1),
  (34, eP (.laload) 1),
  (35, eL (.lconst 1) 1 0 1),
  (36, eP (.iload_n 1) 1),
  (37, eC (.bipush 8) 2 0 8),
  (39, eP (.imul) 1),
  (40, eP (.lshl) 1),
  (41, eP (.ladd) 1),
  (42, eP (.lastore) 1),
  (43, eC (.iinc 4 1) 3 0 1),
  (46, eB (.goto (-43)) 3),
  (49, eR (.return_) 2)]
/-- X2_addCase -/
def k_44 : List (Nat × En) := [(0, eP (.aload_n 0) 1),
  (1, eF (.getfield 18) 2 2 2 55),
  (4, eC (.iconst 0) 1 0 0),
  (5, eP (.iaload) 1),
  (6, eP (.istore 4) 2),
  (8, eP (.iload 4) 2),
  (10, eP (.iload_n 2) 1),
  (11, eP (.iand) 1),
  (12, eB (.ifCond .ne 19) 31),
  (15, eP (.iload 4) 2),
  (17, eC (.iconst (-1)) 1 0 (-1)),
  (18, eP (.ixor) 1),
  (19, eP (.aload_n 0) 1),
  (20, eF (.getfield 15) 2 1 0 54),
  (23, eC (.iconst (-1)) 1 0 (-1)),
  (24, eP (.ixor) 1),
  (25, eP (.iand) 1),
  (26, eP (.iload_n 3) 1),
  (27, eP (.iand) 1),
  (28, eB (.ifCond .eq 7) 35),
  (31, eC (.iconst 1) 1 0 1),
  (32, eB (.goto 4) 36),
  (35, eC (.iconst 0) 1 0 0),
  (36, eP (.istore 5) 2),
  (38, eP (.iload 5) 2),
  (40, eB (.ifCond .eq 4) 44),
  (43, eR (.return_) 2),
  (44, eC (.iconst 0) 1 0 0),
  (45, eP (.istore 6) 2),
  (47, eK [1, 1, 1, 1, 0, 0, 1] (eP (.iload 6) 2)),
  (49, eP (.aload_n 0) 1),
  (50, eF (.getfield 9) 2 0 0 53),
  (53, eB (.if_icmp .ge 50) 103),
  (56, eP (.aload_n 0) 1),
  (57, eF (.getfield 18) 2 2 2 55),
  (60, eP (.iload 6) 2),
  (62, eP (.iaload) 1),
  (63, eP (.iload_n 2) 1),
  (64, eP (.iand) 1),
  (65, eB (.ifCond .ne 32) 97),
  (68, eP (.aload_n 0) 1),
  (69, eF (.getfield 18) 2 2 2 55),
  (72, eP (.iload 6) 2),
  (74, eP (.iaload) 1),
  (75, eP (.iload_n 3) 1),
  (76, eP (.iand) 1),
  (77, eP (.iload_n 3) 1),
  (78, eB (.if_icmp .ne 19) 97),
  (81, eP (.aload_n 0) 1),
  (82, eF (.getfield 22) 2 3 2 57),
  (85, eP (.iload 6) 2),
  (87, eP (.dup2) 1),
  (88, eP (.laload) 1),
  (89, eL (.lconst 1) 1 0 1),
  (90, eP (.iload_n 1) 1),
  (91, eC (.bipush 8) 2 0 8),
  (93, eP (.imul) 1),
  (94, eP (.lshl) 1),
  (95, eP (.ladd) 1),
  (96, eP (.lastore) 1),
  (97, eC (.iinc 6 1) 3 0 1),
  (100, eB (.goto (-53)) 47),
  (103, eR (.return_) 2)]
/-- X2_weigh -/
def k_45 : List (Nat × En) := [(0, eL (.lconst 0) 1 0 0),
  (1, eP (.lstore_n 3) 1),
  (2, eC (.iconst 0) 1 0 0),
  (3, eP (.istore 5) 2),
  (5, eK [1, 1, 1, 1, 0, 1, 0] (eP (.iload 5) 2)),
  (7, eC (.bipush 8) 2 0 8),
  (9, eB (.if_icmp .ge 101) 110),
  (12, eP (.aload_n 1) 1),
  (13, eP (.iload 5) 2),
  (15, eP (.aaload) 1),
  (16, eF (.getfield 55) 0 0 3 10003),
  (19, eB (.ifCond .eq 16) 35),
  (22, eP (.iload_n 2) 1),
  (23, eP (.iload 5) 2),
  (25, eP (.ishr) 1),
  (26, eC (.iconst 1) 1 0 1),
  (27, eP (.iand) 1),
  (28, eB (.ifCond .ne 7) 35),
  (31, eC (.iconst 1) 1 0 1),
  (32, eB (.goto 4) 36),
  (35, eC (.iconst 0) 1 0 0),
  (36, eK [1, 1, 1, 1, 0, 1, 0] (eP (.istore 6) 2)),
  (38, eP (.aload_n 0) 1),
  (39, eF (.getfield 32) 2 6 2 60),
  (42, eP (.iload 5) 2),
  (44, eP (.iload 6) 2),
  (46, eB (.ifCond .eq 26) 72),
  (49, eP (.aload_n 1) 1),
  (50, eP (.iload 5) 2),
  (52, eP (.aaload) 1),
  (53, eF (.getfield 61) 0 1 0 10005),
  (56, eM (.invokestatic 95) 118 1 1 1 9 10013),
  (59, eB (.ifCond .eq 13) 72),
  (62, eP (.aload_n 1) 1),
  (63, eP (.iload 5) 2),
  (65, eP (.aaload) 1),
  (66, eF (.getfield 99) 0 2 0 10007),
  (69, eB (.goto 4) 73),
  (72, eC (.iconst 0) 1 0 0),
  (73, eK [1, 1, 1, 1, 0, 1, 1] (eP (.iastore) 1)),
  (74, eP (.iload 6) 2),
  (76, eB (.ifCond .eq 28) 104),
  (79, eP (.aload_n 1) 1),
  (80, eP (.iload 5) 2),
  (82, eP (.aaload) 1),
  (83, eF (.getfield 61) 0 1 0 10005),
  (86, eM (.invokestatic 102) 117 1 1 1 9 10014),
  (89, eB (.ifCond .eq 15) 104),
  (92, eP (.lload_n 3) 1),
  (93, eL (.ldc2_w 105) 3 590 255),
  (96, eP (.iload 5) 2),
  (98, eC (.bipush 8) 2 0 8),
  (100, eP (.imul) 1),
  (101, eP (.lshl) 1),
  (102, eP (.lor) 1),
  (103, eP (.lstore_n 3) 1),
  (104, eC (.iinc 5 1) 3 0 1),
  (107, eB (.goto (-102)) 5),
  (110, eP (.aload_n 0) 1),
  (111, eC (.iconst 0) 1 0 0),
  (112, eF (.putfield 35) 2 7 0 61),
  (115, eP (.aload_n 0) 1),
  (116, eC (.ldc 107) 2 591 1000000),
  (118, eF (.putfield 38) 2 8 0 62),
  (121, eC (.iconst 0) 1 0 0),
  (122, eP (.istore 5) 2),
  (124, eK [1, 0, 0, 1, 0, 1, 0] (eP (.iload 5) 2)),
  (126, eP (.aload_n 0) 1),
  (127, eF (.getfield 9) 2 0 0 53),
  (130, eB (.if_icmp .ge 72) 202),
  (133, eP (.aload_n 0) 1),
  (134, eF (.getfield 26) 2 4 2 58),
  (137, eP (.iload 5) 2),
  (139, eP (.aload_n 0) 1),
  (140, eF (.getfield 22) 2 3 2 57),
  (143, eP (.iload 5) 2),
  (145, eP (.laload) 1),
  (146, eP (.lload_n 3) 1),
  (147, eP (.land) 1),
  (148, eL (.lconst 0) 1 0 0),
  (149, eP (.lcmp) 1),
  (150, eB (.ifCond .eq 8) 158),
  (153, eC (.ldc 107) 2 591 1000000),
  (155, eB (.goto 9) 164),
  (158, eP (.aload_n 0) 1),
  (159, eP (.iload 5) 2),
  (161, eM (.invokevirtual 108) 47 2 1 4 2 592),
  (164, eK [1, 0, 0, 1, 0, 1, 0] (eP (.iastore) 1)),
  (165, eP (.aload_n 0) 1),
  (166, eF (.getfield 26) 2 4 2 58),
  (169, eP (.iload 5) 2),
  (171, eP (.iaload) 1),
  (172, eP (.aload_n 0) 1),
  (173, eF (.getfield 38) 2 8 0 62),
  (176, eB (.if_icmp .ge 20) 196),
  (179, eP (.aload_n 0) 1),
  (180, eP (.iload 5) 2),
  (182, eF (.putfield 35) 2 7 0 61),
  (185, eP (.aload_n 0) 1),
  (186, eP (.aload_n 0) 1),
  (187, eF (.getfield 26) 2 4 2 58),
  (190, eP (.iload 5) 2),
  (192, eP (.iaload) 1),
  (193, eF (.putfield 38) 2 8 0 62),
  (196, eC (.iinc 5 1) 3 0 1),
  (199, eB (.goto (-75)) 124),
  (202, eP (.aload_n 0) 1),
  (203, eM (.invokevirtual 112) 46 1 0 3 2 600),
  (206, eR (.return_) 2)]
/-- X2_shareOut -/
def k_46 : List (Nat × En) := [(0, eP (.aload_n 0) 1),
  (1, eL (.lconst 0) 1 0 0),
  (2, eF (.putfield 41) 2 9 1 63),
  (5, eC (.iconst 0) 1 0 0),
  (6, eP (.istore_n 1) 1),
  (7, eK [1, 1, 0] (eP (.iload_n 1) 1)),
  (8, eP (.aload_n 0) 1),
  (9, eF (.getfield 9) 2 0 0 53),
  (12, eB (.if_icmp .ge 47) 59),
  (15, eP (.aload_n 0) 1),
  (16, eP (.iload_n 1) 1),
  (17, eM (.invokevirtual 115) 54 2 1 3 2 604),
  (20, eP (.istore_n 2) 1),
  (21, eP (.aload_n 0) 1),
  (22, eF (.getfield 29) 2 5 2 59),
  (25, eP (.iload_n 1) 1),
  (26, eP (.iload_n 2) 1),
  (27, eB (.ifCond .ge 7) 34),
  (30, eL (.lconst 0) 1 0 0),
  (31, eB (.goto 6) 37),
  (34, eL (.lconst 1) 1 0 1),
  (35, eP (.iload_n 2) 1),
  (36, eP (.lshl) 1),
  (37, eK [1, 1, 0] (eP (.lastore) 1)),
  (38, eP (.aload_n 0) 1),
  (39, eP (.dup) 1),
  (40, eF (.getfield 41) 2 9 1 63),
  (43, eP (.aload_n 0) 1),
  (44, eF (.getfield 29) 2 5 2 59),
  (47, eP (.iload_n 1) 1),
  (48, eP (.laload) 1),
  (49, eP (.ladd) 1),
  (50, eF (.putfield 41) 2 9 1 63),
  (53, eC (.iinc 1 1) 3 0 1),
  (56, eB (.goto (-49)) 7),
  (59, eR (.return_) 2)]
/-- X2_softCost -/
def k_47 : List (Nat × En) := [(0, eC (.iconst 0) 1 0 0),
  (1, eP (.istore_n 2) 1),
  (2, eC (.iconst 0) 1 0 0),
  (3, eP (.istore_n 3) 1),
  (4, eP (.iload_n 3) 1),
  (5, eC (.bipush 8) 2 0 8),
  (7, eB (.if_icmp .ge 34) 41),
  (10, eP (.aload_n 0) 1),
  (11, eF (.getfield 32) 2 6 2 60),
  (14, eP (.iload_n 3) 1),
  (15, eP (.iaload) 1),
  (16, eB (.ifCond .eq 19) 35),
  (19, eP (.iload_n 2) 1),
  (20, eP (.aload_n 0) 1),
  (21, eF (.getfield 32) 2 6 2 60),
  (24, eP (.iload_n 3) 1),
  (25, eP (.iaload) 1),
  (26, eP (.aload_n 0) 1),
  (27, eP (.iload_n 3) 1),
  (28, eP (.iload_n 1) 1),
  (29, eM (.invokevirtual 118) 49 3 1 3 2 596),
  (32, eP (.imul) 1),
  (33, eP (.iadd) 1),
  (34, eP (.istore_n 2) 1),
  (35, eC (.iinc 3 1) 3 0 1),
  (38, eB (.goto (-34)) 4),
  (41, eP (.iload_n 2) 1),
  (42, eR (.ireturn) 0)]
/-- X2_hardBreaks -/
def k_48 : List (Nat × En) := [(0, eC (.iconst 0) 1 0 0),
  (1, eP (.istore_n 3) 1),
  (2, eC (.iconst 0) 1 0 0),
  (3, eP (.istore 4) 2),
  (5, eP (.iload 4) 2),
  (7, eC (.bipush 8) 2 0 8),
  (9, eB (.if_icmp .ge 42) 51),
  (12, eP (.aload_n 2) 1),
  (13, eP (.iload 4) 2),
  (15, eP (.aaload) 1),
  (16, eF (.getfield 55) 0 0 3 10003),
  (19, eB (.ifCond .eq 26) 45),
  (22, eP (.aload_n 2) 1),
  (23, eP (.iload 4) 2),
  (25, eP (.aaload) 1),
  (26, eF (.getfield 61) 0 1 0 10005),
  (29, eM (.invokestatic 102) 117 1 1 1 9 10014),
  (32, eB (.ifCond .eq 13) 45),
  (35, eP (.iload_n 3) 1),
  (36, eP (.aload_n 0) 1),
  (37, eP (.iload 4) 2),
  (39, eP (.iload_n 1) 1),
  (40, eM (.invokevirtual 118) 49 3 1 3 2 596),
  (43, eP (.iadd) 1),
  (44, eP (.istore_n 3) 1),
  (45, eC (.iinc 4 1) 3 0 1),
  (48, eB (.goto (-43)) 5),
  (51, eP (.iload_n 3) 1),
  (52, eR (.ireturn) 0)]
/-- X2_breaksOf -/
def k_49 : List (Nat × En) := [(0, eP (.aload_n 0) 1),
  (1, eF (.getfield 22) 2 3 2 57),
  (4, eP (.iload_n 2) 1),
  (5, eP (.laload) 1),
  (6, eP (.iload_n 1) 1),
  (7, eC (.bipush 8) 2 0 8),
  (9, eP (.imul) 1),
  (10, eP (.lushr) 1),
  (11, eL (.ldc2_w 105) 3 590 255),
  (14, eP (.land) 1),
  (15, eP (.l2i) 1),
  (16, eR (.ireturn) 0)]
/-- X2_isEmpty -/
def k_50 : List (Nat × En) := [(0, eP (.aload_n 0) 1),
  (1, eF (.getfield 38) 2 8 0 62),
  (4, eC (.ldc 107) 2 591 1000000),
  (6, eB (.if_icmp .ne 7) 13),
  (9, eC (.iconst 1) 1 0 1),
  (10, eB (.goto 4) 14),
  (13, eC (.iconst 0) 1 0 0),
  (14, eR (.ireturn) 3)]
/-- X2_isBarred -/
def k_51 : List (Nat × En) := [(0, eP (.aload_n 0) 1),
  (1, eF (.getfield 26) 2 4 2 58),
  (4, eP (.iload_n 1) 1),
  (5, eP (.iaload) 1),
  (6, eC (.ldc 107) 2 591 1000000),
  (8, eB (.if_icmp .ne 7) 15),
  (11, eC (.iconst 1) 1 0 1),
  (12, eB (.goto 4) 16),
  (15, eC (.iconst 0) 1 0 0),
  (16, eR (.ireturn) 3)]
/-- X2_isSo -/
def k_52 : List (Nat × En) := [(0, eP (.aload_n 0) 1),
  (1, eF (.getfield 18) 2 2 2 55),
  (4, eP (.iload_n 1) 1),
  (5, eP (.iaload) 1),
  (6, eP (.iload_n 2) 1),
  (7, eP (.ishr) 1),
  (8, eC (.iconst 1) 1 0 1),
  (9, eP (.iand) 1),
  (10, eB (.ifCond .eq 7) 17),
  (13, eC (.iconst 1) 1 0 1),
  (14, eB (.goto 4) 18),
  (17, eC (.iconst 0) 1 0 0),
  (18, eR (.ireturn) 3)]
/-- X2_countWithin -/
def k_53 : List (Nat × En) := [(0, eC (.iconst 0) 1 0 0),
  (1, eP (.istore_n 2) 1),
  (2, eC (.iconst 0) 1 0 0),
  (3, eP (.istore_n 3) 1),
  (4, eP (.iload_n 3) 1),
  (5, eP (.aload_n 0) 1),
  (6, eF (.getfield 9) 2 0 0 53),
  (9, eB (.if_icmp .ge 35) 44),
  (12, eP (.aload_n 0) 1),
  (13, eP (.iload_n 3) 1),
  (14, eM (.invokevirtual 121) 51 2 1 2 2 608),
  (17, eB (.ifCond .ne 21) 38),
  (20, eP (.aload_n 0) 1),
  (21, eF (.getfield 26) 2 4 2 58),
  (24, eP (.iload_n 3) 1),
  (25, eP (.iaload) 1),
  (26, eP (.aload_n 0) 1),
  (27, eF (.getfield 38) 2 8 0 62),
  (30, eP (.isub) 1),
  (31, eP (.iload_n 1) 1),
  (32, eB (.if_icmp .gt 6) 38),
  (35, eC (.iinc 2 1) 3 0 1),
  (38, eC (.iinc 3 1) 3 0 1),
  (41, eB (.goto (-37)) 4),
  (44, eP (.iload_n 2) 1),
  (45, eR (.ireturn) 0)]
/-- X2_sharePowerOf -/
def k_54 : List (Nat × En) := [(0, eP (.aload_n 0) 1),
  (1, eF (.getfield 26) 2 4 2 58),
  (4, eP (.iload_n 1) 1),
  (5, eP (.iaload) 1),
  (6, eP (.aload_n 0) 1),
  (7, eF (.getfield 38) 2 8 0 62),
  (10, eP (.isub) 1),
  (11, eP (.istore_n 2) 1),
  (12, eP (.aload_n 0) 1),
  (13, eP (.iload_n 1) 1),
  (14, eM (.invokevirtual 121) 51 2 1 2 2 608),
  (17, eB (.ifCond .ne 9) 26),
  (20, eP (.iload_n 2) 1),
  (21, eC (.bipush 20) 2 0 20),
  (23, eB (.if_icmp .le 9) 32),
  (26, eC (.sipush (-1000)) 3 0 (-1000)),
  (29, eB (.goto 7) 36),
  (32, eC (.bipush 20) 2 0 20),
  (34, eP (.iload_n 2) 1),
  (35, eP (.isub) 1),
  (36, eR (.ireturn) 0)]
/-- X2_shareOf -/
def k_55 : List (Nat × En) := [(0, eP (.aload_n 0) 1),
  (1, eF (.getfield 29) 2 5 2 59),
  (4, eP (.iload_n 1) 1),
  (5, eP (.laload) 1),
  (6, eR (.lreturn) 1)]
/-- X2_sharesOf -/
def k_56 : List (Nat × En) := [(0, eL (.lconst 0) 1 0 0),
  (1, eP (.lstore_n 2) 1),
  (2, eC (.iconst 0) 1 0 0),
  (3, eP (.istore 4) 2),
  (5, eK [1, 1, 1, 0, 1] (eP (.iload 4) 2)),
  (7, eP (.aload_n 0) 1),
  (8, eF (.getfield 9) 2 0 0 53),
  (11, eB (.if_icmp .ge 32) 43),
  (14, eP (.aload_n 0) 1),
  (15, eF (.getfield 18) 2 2 2 55),
  (18, eP (.iload 4) 2),
  (20, eP (.iaload) 1),
  (21, eP (.iload_n 1) 1),
  (22, eP (.iand) 1),
  (23, eP (.iload_n 1) 1),
  (24, eB (.if_icmp .ne 13) 37),
  (27, eP (.lload_n 2) 1),
  (28, eP (.aload_n 0) 1),
  (29, eF (.getfield 29) 2 5 2 59),
  (32, eP (.iload 4) 2),
  (34, eP (.laload) 1),
  (35, eP (.ladd) 1),
  (36, eP (.lstore_n 2) 1),
  (37, eC (.iinc 4 1) 3 0 1),
  (40, eB (.goto (-35)) 5),
  (43, eP (.lload_n 2) 1),
  (44, eR (.lreturn) 1)]
/-- X2_worldAbove -/
def k_57 : List (Nat × En) := [(0, eL (.lconst 0) 1 0 0),
  (1, eP (.lstore_n 3) 1),
  (2, eC (.iconst 0) 1 0 0),
  (3, eP (.istore 5) 2),
  (5, eK [1, 1, 0, 1, 0, 1] (eP (.iload 5) 2)),
  (7, eP (.aload_n 0) 1),
  (8, eF (.getfield 9) 2 0 0 53),
  (11, eB (.if_icmp .ge 28) 39),
  (14, eP (.lload_n 3) 1),
  (15, eP (.aload_n 0) 1),
  (16, eF (.getfield 29) 2 5 2 59),
  (19, eP (.iload 5) 2),
  (21, eP (.laload) 1),
  (22, eP (.ladd) 1),
  (23, eP (.lstore_n 3) 1),
  (24, eP (.lload_n 3) 1),
  (25, eP (.lload_n 1) 1),
  (26, eP (.lcmp) 1),
  (27, eB (.ifCond .le 6) 33),
  (30, eP (.iload 5) 2),
  (32, eR (.ireturn) 0),
  (33, eC (.iinc 5 1) 3 0 1),
  (36, eB (.goto (-31)) 5),
  (39, eC (.iconst 0) 1 0 0),
  (40, eR (.ireturn) 0)]
/-- X3_row -/
def k_58 : List (Nat × En) := [(0, eP (.aload_n 0) 1),
  (1, eP (.aload_n 0) 1),
  (2, eF (.getfield 14) 3 0 2 15),
  (5, eP (.iload_n 1) 1),
  (6, eP (.iload_n 2) 1),
  (7, eC (.iconst 0) 1 0 0),
  (8, eM (.invokevirtual 67) 101 5 1 5 3 110),
  (11, eR (.ireturn) 0)]
/-- X3_lay -/
def k_59 : List (Nat × En) := [(0, eP (.aload_n 0) 1),
  (1, eP (.aload_n 0) 1),
  (2, eF (.getfield 14) 3 0 2 15),
  (5, eP (.iload_n 1) 1),
  (6, eP (.iload_n 2) 1),
  (7, eM (.invokevirtual 71) 102 4 1 4 3 146),
  (10, eP (.istore 4) 2),
  (12, eP (.iload 4) 2),
  (14, eB (.ifCond .eq 6) 20),
  (17, eP (.iload 4) 2),
  (19, eR (.ireturn) 0),
  (20, eP (.aload_n 0) 1),
  (21, eP (.aload_n 0) 1),
  (22, eF (.getfield 14) 3 0 2 15),
  (25, eP (.iload_n 1) 1),
  (26, eP (.iload_n 2) 1),
  (27, eM (.invokevirtual 75) 15 3 1 3 1 159),
  (30, eF (.putfield 54) 3 9 0 31),
  (33, eP (.aload_n 0) 1),
  (34, eF (.getfield 14) 3 0 2 15),
  (37, eP (.iload_n 1) 1),
  (38, eP (.iload_n 2) 1),
  (39, eP (.iload_n 3) 1),
  (40, eM (.invokevirtual 79) 16 4 0 4 1 164),
  (43, eC (.iconst 1) 1 0 1),
  (44, eR (.ireturn) 0)]
/-- X3_at -/
def k_60 : List (Nat × En) := [(0, eP (.aload_n 0) 1),
  (1, eP (.aload_n 0) 1),
  (2, eF (.getfield 14) 3 0 2 15),
  (5, eP (.iload_n 1) 1),
  (6, eP (.iload_n 2) 1),
  (7, eM (.invokevirtual 71) 102 4 1 4 3 146),
  (10, eP (.istore_n 3) 1),
  (11, eP (.iload_n 3) 1),
  (12, eB (.ifCond .eq 5) 17),
  (15, eP (.iload_n 3) 1),
  (16, eR (.ireturn) 0),
  (17, eP (.aload_n 0) 1),
  (18, eP (.aload_n 0) 1),
  (19, eF (.getfield 14) 3 0 2 15),
  (22, eP (.iload_n 1) 1),
  (23, eP (.iload_n 2) 1),
  (24, eM (.invokevirtual 75) 15 3 1 3 1 159),
  (27, eF (.putfield 54) 3 9 0 31),
  (30, eC (.iconst 1) 1 0 1),
  (31, eR (.ireturn) 0)]
/-- X3_tear -/
def k_61 : List (Nat × En) := [(0, eP (.aload_n 0) 1),
  (1, eF (.getfield 14) 3 0 2 15),
  (4, eP (.iload_n 1) 1),
  (5, eM (.invokevirtual 83) 9 2 1 2 1 114),
  (8, eB (.ifCond .ne 5) 13),
  (11, eC (.iconst (-1)) 1 0 (-1)),
  (12, eR (.ireturn) 0),
  (13, eP (.aload_n 0) 1),
  (14, eF (.getfield 14) 3 0 2 15),
  (17, eP (.iload_n 1) 1),
  (18, eM (.invokevirtual 87) 10 2 1 2 1 150),
  (21, eB (.ifCond .ne 9) 30),
  (24, eP (.aload_n 0) 1),
  (25, eC (.iconst 1) 1 0 1),
  (26, eM (.invokevirtual 90) 100 2 1 2 3 118),
  (29, eR (.ireturn) 0),
  (30, eP (.aload_n 0) 1),
  (31, eF (.getfield 14) 3 0 2 15),
  (34, eP (.iload_n 1) 1),
  (35, eM (.invokevirtual 94) 14 2 0 2 1 198),
  (38, eC (.iconst 1) 1 0 1),
  (39, eR (.ireturn) 0)]
/-- X3_copy -/
def k_62 : List (Nat × En) := [(0, eP (.aload_n 0) 1),
  (1, eF (.getfield 14) 3 0 2 15),
  (4, eP (.iload_n 1) 1),
  (5, eM (.invokevirtual 83) 9 2 1 2 1 114),
  (8, eB (.ifCond .eq 14) 22),
  (11, eP (.aload_n 0) 1),
  (12, eF (.getfield 14) 3 0 2 15),
  (15, eP (.iload_n 3) 1),
  (16, eM (.invokevirtual 83) 9 2 1 2 1 114),
  (19, eB (.ifCond .ne 5) 24),
  (22, eC (.iconst (-1)) 1 0 (-1)),
  (23, eR (.ireturn) 0),
  (24, eP (.iload 5) 2),
  (26, eB (.ifCond .ge 9) 35),
  (29, eP (.aload_n 0) 1),
  (30, eC (.iconst 5) 1 0 5),
  (31, eM (.invokevirtual 90) 100 2 1 2 3 118),
  (34, eR (.ireturn) 0),
  (35, eP (.aload_n 0) 1),
  (36, eF (.getfield 14) 3 0 2 15),
  (39, eP (.iload_n 1) 1),
  (40, eM (.invokevirtual 87) 10 2 1 2 1 150),
  (43, eB (.ifCond .eq 14) 57),
  (46, eP (.aload_n 0) 1),
  (47, eF (.getfield 14) 3 0 2 15),
  (50, eP (.iload_n 3) 1),
  (51, eM (.invokevirtual 87) 10 2 1 2 1 150),
  (54, eB (.ifCond .ne 9) 63),
  (57, eP (.aload_n 0) 1),
  (58, eC (.iconst 1) 1 0 1),
  (59, eM (.invokevirtual 90) 100 2 1 2 3 118),
  (62, eR (.ireturn) 0),
  (63, eP (.aload_n 0) 1),
  (64, eF (.getfield 14) 3 0 2 15),
  (67, eP (.iload_n 1) 1),
  (68, eP (.iload_n 2) 1),
  (69, eP (.iload 5) 2),
  (71, eM (.invokevirtual 97) 12 4 1 4 1 154),
  (74, eB (.ifCond .eq 18) 92),
  (77, eP (.aload_n 0) 1),
  (78, eF (.getfield 14) 3 0 2 15),
  (81, eP (.iload_n 3) 1),
  (82, eP (.iload 4) 2),
  (84, eP (.iload 5) 2),
  (86, eM (.invokevirtual 97) 12 4 1 4 1 154),
  (89, eB (.ifCond .ne 9) 98),
  (92, eP (.aload_n 0) 1),
  (93, eC (.iconst 2) 1 0 2),
  (94, eM (.invokevirtual 90) 100 2 1 2 3 118),
  (97, eR (.ireturn) 0),
  (98, eP (.aload_n 0) 1),
  (99, eF (.getfield 14) 3 0 2 15),
  (102, eP (.iload_n 1) 1),
  (103, eP (.iload_n 2) 1),
  (104, eP (.iload_n 3) 1),
  (105, eP (.iload 4) 2),
  (107, eP (.iload 5) 2),
  (109, eM (.invokevirtual 101) 17 6 0 6 1 210),
  (112, eC (.iconst 1) 1 0 1),
  (113, eR (.ireturn) 0)]
/-- X3_mean -/
def k_63 : List (Nat × En) := [(0, eP (.aload_n 0) 1),
  (1, eF (.getfield 14) 3 0 2 15),
  (4, eP (.iload_n 1) 1),
  (5, eM (.invokevirtual 83) 9 2 1 2 1 114),
  (8, eB (.ifCond .ne 5) 13),
  (11, eC (.iconst (-1)) 1 0 (-1)),
  (12, eR (.ireturn) 0),
  (13, eP (.aload_n 0) 1),
  (14, eF (.getfield 14) 3 0 2 15),
  (17, eP (.iload_n 1) 1),
  (18, eM (.invokevirtual 87) 10 2 1 2 1 150),
  (21, eB (.ifCond .ne 9) 30),
  (24, eP (.aload_n 0) 1),
  (25, eC (.iconst 1) 1 0 1),
  (26, eM (.invokevirtual 90) 100 2 1 2 3 118),
  (29, eR (.ireturn) 0),
  (30, eP (.aload_n 0) 1),
  (31, eF (.getfield 14) 3 0 2 15),
  (34, eP (.iload_n 1) 1),
  (35, eM (.invokevirtual 105) 11 2 1 2 1 226),
  (38, eP (.istore_n 2) 1),
  (39, eP (.iload_n 2) 1),
  (40, eB (.ifCond .gt 9) 49),
  (43, eP (.aload_n 0) 1),
  (44, eC (.iconst 4) 1 0 4),
  (45, eM (.invokevirtual 90) 100 2 1 2 3 118),
  (48, eR (.ireturn) 0),
  (49, eP (.aload_n 0) 1),
  (50, eP (.aload_n 0) 1),
  (51, eF (.getfield 14) 3 0 2 15),
  (54, eP (.iload_n 1) 1),
  (55, eM (.invokevirtual 108) 18 2 2 5 1 230),
  (58, eP (.iload_n 2) 1),
  (59, eP (.i2l) 1),
  (60, eP (.ldiv) 1),
  (61, eP (.l2i) 1),
  (62, eF (.putfield 54) 3 9 0 31),
  (65, eC (.iconst 1) 1 0 1),
  (66, eR (.ireturn) 0)]
/-- X3_text -/
def k_64 : List (Nat × En) := [(0, eP (.aload_n 0) 1),
  (1, eP (.aload_n 0) 1),
  (2, eF (.getfield 18) 3 1 2 16),
  (5, eP (.iload_n 1) 1),
  (6, eP (.iload_n 2) 1),
  (7, eC (.bipush 32) 2 0 32),
  (9, eM (.invokevirtual 67) 101 5 1 5 3 110),
  (12, eR (.ireturn) 0)]
/-- X3_put -/
def k_65 : List (Nat × En) := [(0, eP (.aload_n 0) 1),
  (1, eP (.aload_n 0) 1),
  (2, eF (.getfield 18) 3 1 2 16),
  (5, eP (.iload_n 1) 1),
  (6, eP (.iload_n 2) 1),
  (7, eM (.invokevirtual 71) 102 4 1 4 3 146),
  (10, eP (.istore 4) 2),
  (12, eP (.iload 4) 2),
  (14, eB (.ifCond .eq 6) 20),
  (17, eP (.iload 4) 2),
  (19, eR (.ireturn) 0),
  (20, eP (.aload_n 0) 1),
  (21, eF (.getfield 18) 3 1 2 16),
  (24, eP (.iload_n 1) 1),
  (25, eP (.iload_n 2) 1),
  (26, eM (.invokevirtual 75) 15 3 1 3 1 159),
  (29, eP (.istore 5) 2),
  (31, eP (.aload_n 0) 1),
  (32, eF (.getfield 18) 3 1 2 16),
  (35, eP (.iload_n 1) 1),
  (36, eP (.iload_n 2) 1),
  (37, eP (.iload_n 3) 1),
  (38, eP (.i2b) 1),
  (39, eM (.invokevirtual 79) 16 4 0 4 1 164),
  (42, eP (.iload 5) 2),
  (44, eC (.sipush 1000) 3 0 1000),
  (47, eP (.iadd) 1),
  (48, eR (.ireturn) 0)]
/-- X3_names -/
def k_66 : List (Nat × En) := [(0, eP (.iload_n 1) 1),
  (1, eC (.iconst 1) 1 0 1),
  (2, eB (.if_icmp .lt 8) 10),
  (5, eP (.iload_n 1) 1),
  (6, eC (.iconst 4) 1 0 4),
  (7, eB (.if_icmp .le 5) 12),
  (10, eC (.iconst (-1)) 1 0 (-1)),
  (11, eR (.ireturn) 0),
  (12, eC (.iconst 0) 1 0 0),
  (13, eP (.istore_n 2) 1),
  (14, eP (.iload_n 2) 1),
  (15, eC (.bipush 28) 2 0 28),
  (17, eB (.if_icmp .ge 29) 46),
  (20, eP (.aload_n 0) 1),
  (21, eF (.getfield 21) 3 2 2 18),
  (24, eP (.iload_n 2) 1),
  (25, eP (.iaload) 1),
  (26, eB (.ifCond .eq 14) 40),
  (29, eP (.iload_n 2) 1),
  (30, eP (.iload_n 1) 1),
  (31, eM (.invokestatic 112) 109 2 1 3 9 266),
  (34, eB (.ifCond .ne 6) 40),
  (37, eC (.bipush (-4)) 2 0 (-4)),
  (39, eR (.ireturn) 0),
  (40, eC (.iinc 2 1) 3 0 1),
  (43, eB (.goto (-29)) 14),
  (46, eP (.aload_n 0) 1),
  (47, eF (.getfield 46) 3 7 0 29),
  (50, eP (.istore_n 2) 1),
  (51, eP (.aload_n 0) 1),
  (52, eP (.iload_n 1) 1),
  (53, eF (.putfield 46) 3 7 0 29),
  (56, eP (.aload_n 0) 1),
  (57, eC (.iconst 1) 1 0 1),
  (58, eF (.putfield 50) 3 8 3 30),
  (61, eP (.iload_n 2) 1),
  (62, eR (.ireturn) 0)]
/-- X3_tell -/
def k_67 : List (Nat × En) := [(0, eP (.iload_n 1) 1),
  (1, eM (.invokestatic 116) 106 1 1 1 9 280),
  (4, eB (.ifCond .eq 21) 25),
  (7, eP (.iload_n 2) 1),
  (8, eM (.invokestatic 119) 107 1 1 1 9 283),
  (11, eB (.ifCond .eq 14) 25),
  (14, eP (.iload_n 1) 1),
  (15, eP (.aload_n 0) 1),
  (16, eF (.getfield 46) 3 7 0 29),
  (19, eM (.invokestatic 112) 109 2 1 3 9 266),
  (22, eB (.ifCond .ne 5) 27),
  (25, eC (.iconst (-1)) 1 0 (-1)),
  (26, eR (.ireturn) 0),
  (27, eP (.aload_n 0) 1),
  (28, eP (.iload_n 1) 1),
  (29, eP (.iload_n 2) 1),
  (30, eM (.invokevirtual 122) 112 3 1 3 3 286),
  (33, eB (.ifCond .eq 6) 39),
  (36, eC (.bipush (-2)) 2 0 (-2)),
  (38, eR (.ireturn) 0),
  (39, eP (.aload_n 0) 1),
  (40, eF (.getfield 21) 3 2 2 18),
  (43, eP (.iload_n 1) 1),
  (44, eP (.iaload) 1),
  (45, eP (.istore_n 3) 1),
  (46, eP (.aload_n 0) 1),
  (47, eF (.getfield 21) 3 2 2 18),
  (50, eP (.iload_n 1) 1),
  (51, eP (.iload_n 2) 1),
  (52, eP (.iastore) 1),
  (53, eP (.aload_n 0) 1),
  (54, eC (.iconst 1) 1 0 1),
  (55, eF (.putfield 50) 3 8 3 30),
  (58, eP (.iload_n 3) 1),
  (59, eR (.ireturn) 0)]
/-- X3_how -/
def k_68 : List (Nat × En) := [(0, eP (.iload_n 1) 1),
  (1, eM (.invokestatic 116) 106 1 1 1 9 280),
  (4, eB (.ifCond .eq 12) 16),
  (7, eP (.aload_n 0) 1),
  (8, eF (.getfield 21) 3 2 2 18),
  (11, eP (.iload_n 1) 1),
  (12, eP (.iaload) 1),
  (13, eB (.goto 4) 17),
  (16, eC (.iconst (-1)) 1 0 (-1)),
  (17, eR (.ireturn) 0)]
/-- X3_fault -/
def k_69 : List (Nat × En) := [(0, eP (.aload_n 0) 1),
  (1, eF (.getfield 18) 3 1 2 16),
  (4, eP (.iload_n 1) 1),
  (5, eM (.invokevirtual 83) 9 2 1 2 1 114),
  (8, eB (.ifCond .eq 10) 18),
  (11, eP (.iload_n 2) 1),
  (12, eM (.invokestatic 125) 115 1 1 1 9 321),
  (15, eB (.ifCond .ne 5) 20),
  (18, eC (.iconst (-1)) 1 0 (-1)),
  (19, eR (.ireturn) 0),
  (20, eP (.aload_n 0) 1),
  (21, eF (.getfield 18) 3 1 2 16),
  (24, eP (.iload_n 1) 1),
  (25, eM (.invokevirtual 87) 10 2 1 2 1 150),
  (28, eB (.ifCond .ne 9) 37),
  (31, eP (.aload_n 0) 1),
  (32, eC (.iconst 1) 1 0 1),
  (33, eM (.invokevirtual 90) 100 2 1 2 3 118),
  (36, eR (.ireturn) 0),
  (37, eP (.aload_n 0) 1),
  (38, eF (.getfield 42) 3 6 2 28),
  (41, eP (.aload_n 0) 1),
  (42, eF (.getfield 18) 3 1 2 16),
  (45, eP (.iload_n 1) 1),
  (46, eP (.iload_n 2) 1),
  (47, eM (.invokevirtual 128) 21 4 1 7 0 324),
  (50, eR (.ireturn) 0)]
/-- X3_law -/
def k_70 : List (Nat × En) := [(0, eP (.iload_n 1) 1),
  (1, eM (.invokestatic 131) 114 1 1 1 9 412),
  (4, eB (.ifCond .eq 21) 25),
  (7, eP (.aload_n 0) 1),
  (8, eF (.getfield 18) 3 1 2 16),
  (11, eP (.iload_n 2) 1),
  (12, eM (.invokevirtual 83) 9 2 1 2 1 114),
  (15, eB (.ifCond .eq 10) 25),
  (18, eP (.iload_n 3) 1),
  (19, eM (.invokestatic 125) 115 1 1 1 9 321),
  (22, eB (.ifCond .ne 5) 27),
  (25, eC (.iconst (-1)) 1 0 (-1)),
  (26, eR (.ireturn) 0),
  (27, eP (.iload_n 3) 1),
  (28, eM (.invokestatic 134) 118 1 1 1 9 415),
  (31, eB (.ifCond .eq 13) 44),
  (34, eP (.iload 4) 2),
  (36, eM (.invokestatic 137) 116 1 1 1 9 418),
  (39, eB (.ifCond .ne 5) 44),
  (42, eC (.iconst (-1)) 1 0 (-1)),
  (43, eR (.ireturn) 0),
  (44, eK [1, 1, 1, 1, 1, 0] (eP (.aload_n 0) 1)),
  (45, eF (.getfield 18) 3 1 2 16),
  (48, eP (.iload_n 2) 1),
  (49, eM (.invokevirtual 87) 10 2 1 2 1 150),
  (52, eB (.ifCond .ne 9) 61),
  (55, eP (.aload_n 0) 1),
  (56, eC (.iconst 1) 1 0 1),
  (57, eM (.invokevirtual 90) 100 2 1 2 3 118),
  (60, eR (.ireturn) 0),
  (61, eP (.aload_n 0) 1),
  (62, eF (.getfield 42) 3 6 2 28),
  (65, eP (.aload_n 0) 1),
  (66, eF (.getfield 18) 3 1 2 16),
  (69, eP (.iload_n 2) 1),
  (70, eP (.iload_n 3) 1),
  (71, eM (.invokevirtual 128) 21 4 1 7 0 324),
  (74, eC (.bipush (-9)) 2 0 (-9)),
  (76, eB (.if_icmp .eq 6) 82),
  (79, eC (.bipush (-4)) 2 0 (-4)),
  (81, eR (.ireturn) 0),
  (82, eP (.aload_n 0) 1),
  (83, eF (.getfield 27) 3 3 2 20),
  (86, eP (.iload_n 1) 1),
  (87, eP (.aaload) 1),
  (88, eP (.astore 5) 2),
  (90, eP (.aload_n 0) 1),
  (91, eF (.getfield 27) 3 3 2 20),
  (94, eP (.iload_n 1) 1),
  (95, eP (.aload_n 0) 1),
  (96, eF (.getfield 42) 3 6 2 28),
  (99, eP (.aastore) 1),
  (100, eP (.aload_n 0) 1),
  (101, eP (.aload 5) 2),
  (103, eF (.putfield 42) 3 6 2 28),
  (106, eP (.aload_n 0) 1),
  (107, eF (.getfield 27) 3 3 2 20),
  (110, eP (.iload_n 1) 1),
  (111, eP (.aaload) 1),
  (112, eC (.iconst 1) 1 0 1),
  (113, eF (.putfield 140) 0 0 3 10004),
  (116, eP (.aload_n 0) 1),
  (117, eF (.getfield 27) 3 3 2 20),
  (120, eP (.iload_n 1) 1),
  (121, eP (.aaload) 1),
  (122, eP (.iload_n 3) 1),
  (123, eM (.invokestatic 134) 118 1 1 1 9 415),
  (126, eB (.ifCond .eq 8) 134),
  (129, eP (.iload 4) 2),
  (131, eB (.goto 4) 135),
  (134, eC (.iconst 0) 1 0 0),
  (135, eF (.putfield 143) 0 2 0 10008),
  (138, eP (.aload_n 0) 1),
  (139, eC (.iconst 1) 1 0 1),
  (140, eK [1, 1, 0, 0, 0, 0] (eF (.putfield 50) 3 8 3 30)),
  (143, eP (.aload_n 0) 1),
  (144, eF (.getfield 27) 3 3 2 20),
  (147, eP (.iload_n 1) 1),
  (148, eP (.aaload) 1),
  (149, eP (.aload_n 0) 1),
  (150, eF (.getfield 46) 3 7 0 29),
  (153, eM (.invokevirtual 146) 33 2 1 2 0 421),
  (156, eR (.ireturn) 0)]
/-- X3_drop -/
def k_71 : List (Nat × En) := [(0, eP (.iload_n 1) 1),
  (1, eM (.invokestatic 131) 114 1 1 1 9 412),
  (4, eB (.ifCond .ne 5) 9),
  (7, eC (.iconst (-1)) 1 0 (-1)),
  (8, eR (.ireturn) 0),
  (9, eP (.aload_n 0) 1),
  (10, eF (.getfield 27) 3 3 2 20),
  (13, eP (.iload_n 1) 1),
  (14, eP (.aaload) 1),
  (15, eF (.getfield 140) 0 0 3 10004),
  (18, eB (.ifCond .ne 9) 27),
  (21, eP (.aload_n 0) 1),
  (22, eC (.iconst 1) 1 0 1),
  (23, eM (.invokevirtual 90) 100 2 1 2 3 118),
  (26, eR (.ireturn) 0),
  (27, eP (.aload_n 0) 1),
  (28, eF (.getfield 27) 3 3 2 20),
  (31, eP (.iload_n 1) 1),
  (32, eP (.aaload) 1),
  (33, eC (.iconst 0) 1 0 0),
  (34, eF (.putfield 140) 0 0 3 10004),
  (37, eP (.aload_n 0) 1),
  (38, eC (.iconst 1) 1 0 1),
  (39, eF (.putfield 50) 3 8 3 30),
  (42, eC (.iconst 1) 1 0 1),
  (43, eR (.ireturn) 0)]
/-- X3_weight -/
def k_72 : List (Nat × En) := [(0, eP (.iload_n 1) 1),
  (1, eM (.invokestatic 131) 114 1 1 1 9 412),
  (4, eB (.ifCond .eq 10) 14),
  (7, eP (.iload_n 2) 1),
  (8, eM (.invokestatic 137) 116 1 1 1 9 418),
  (11, eB (.ifCond .ne 5) 16),
  (14, eC (.iconst (-1)) 1 0 (-1)),
  (15, eR (.ireturn) 0),
  (16, eP (.aload_n 0) 1),
  (17, eF (.getfield 27) 3 3 2 20),
  (20, eP (.iload_n 1) 1),
  (21, eP (.aaload) 1),
  (22, eF (.getfield 140) 0 0 3 10004),
  (25, eB (.ifCond .ne 9) 34),
  (28, eP (.aload_n 0) 1),
  (29, eC (.iconst 1) 1 0 1),
  (30, eM (.invokevirtual 90) 100 2 1 2 3 118),
  (33, eR (.ireturn) 0),
  (34, eP (.aload_n 0) 1),
  (35, eF (.getfield 27) 3 3 2 20),
  (38, eP (.iload_n 1) 1),
  (39, eP (.aaload) 1),
  (40, eF (.getfield 149) 0 1 0 10006),
  (43, eM (.invokestatic 134) 118 1 1 1 9 415),
  (46, eB (.ifCond .ne 9) 55),
  (49, eP (.aload_n 0) 1),
  (50, eC (.iconst 3) 1 0 3),
  (51, eM (.invokevirtual 90) 100 2 1 2 3 118),
  (54, eR (.ireturn) 0),
  (55, eP (.aload_n 0) 1),
  (56, eF (.getfield 27) 3 3 2 20),
  (59, eP (.iload_n 1) 1),
  (60, eP (.aaload) 1),
  (61, eF (.getfield 143) 0 2 0 10008),
  (64, eP (.istore_n 3) 1),
  (65, eP (.aload_n 0) 1),
  (66, eF (.getfield 27) 3 3 2 20),
  (69, eP (.iload_n 1) 1),
  (70, eP (.aaload) 1),
  (71, eP (.iload_n 2) 1),
  (72, eF (.putfield 143) 0 2 0 10008),
  (75, eP (.iload_n 3) 1),
  (76, eR (.ireturn) 0)]
/-- X3_told -/
def k_73 : List (Nat × En) := [(0, eP (.iload_n 1) 1),
  (1, eM (.invokestatic 131) 114 1 1 1 9 412),
  (4, eB (.ifCond .eq 12) 16),
  (7, eP (.iload_n 2) 1),
  (8, eB (.ifCond .lt 8) 16),
  (11, eP (.iload_n 2) 1),
  (12, eC (.iconst 2) 1 0 2),
  (13, eB (.if_icmp .le 5) 18),
  (16, eC (.iconst (-1)) 1 0 (-1)),
  (17, eR (.ireturn) 0),
  (18, eP (.aload_n 0) 1),
  (19, eF (.getfield 27) 3 3 2 20),
  (22, eP (.iload_n 1) 1),
  (23, eP (.aaload) 1),
  (24, eF (.getfield 140) 0 0 3 10004),
  (27, eB (.ifCond .ne 9) 36),
  (30, eP (.aload_n 0) 1),
  (31, eC (.iconst 1) 1 0 1),
  (32, eM (.invokevirtual 90) 100 2 1 2 3 118),
  (35, eR (.ireturn) 0),
  (36, eP (.aload_n 0) 1),
  (37, eP (.aload_n 0) 1),
  (38, eP (.aload_n 0) 1),
  (39, eF (.getfield 27) 3 3 2 20),
  (42, eP (.iload_n 1) 1),
  (43, eP (.aaload) 1),
  (44, eP (.iload_n 2) 1),
  (45, eM (.invokevirtual 152) 121 3 1 3 3 475),
  (48, eF (.putfield 54) 3 9 0 31),
  (51, eC (.iconst 1) 1 0 1),
  (52, eR (.ireturn) 0)]
/-- X3_mark -/
def k_74 : List (Nat × En) := [(0, eP (.iload_n 1) 1),
  (1, eM (.invokestatic 131) 114 1 1 1 9 412),
  (4, eB (.ifCond .eq 14) 18),
  (7, eP (.iload_n 2) 1),
  (8, eM (.invokestatic 125) 115 1 1 1 9 321),
  (11, eB (.ifCond .eq 7) 18),
  (14, eP (.iload_n 2) 1),
  (15, eB (.ifCond .ne 5) 20),
  (18, eC (.iconst (-1)) 1 0 (-1)),
  (19, eR (.ireturn) 0),
  (20, eP (.aload_n 0) 1),
  (21, eF (.getfield 27) 3 3 2 20),
  (24, eP (.iload_n 1) 1),
  (25, eP (.aaload) 1),
  (26, eF (.getfield 140) 0 0 3 10004),
  (29, eB (.ifCond .ne 9) 38),
  (32, eP (.aload_n 0) 1),
  (33, eC (.iconst 1) 1 0 1),
  (34, eM (.invokevirtual 90) 100 2 1 2 3 118),
  (37, eR (.ireturn) 0),
  (38, eP (.aload_n 0) 1),
  (39, eF (.getfield 27) 3 3 2 20),
  (42, eP (.iload_n 1) 1),
  (43, eP (.aaload) 1),
  (44, eP (.iload_n 2) 1),
  (45, eM (.invokestatic 156) 119 2 1 2 9 491),
  (48, eB (.ifCond .ne 9) 57),
  (51, eP (.aload_n 0) 1),
  (52, eC (.iconst 3) 1 0 3),
  (53, eM (.invokevirtual 90) 100 2 1 2 3 118),
  (56, eR (.ireturn) 0),
  (57, eP (.aload_n 0) 1),
  (58, eF (.getfield 27) 3 3 2 20),
  (61, eP (.iload_n 1) 1),
  (62, eP (.aaload) 1),
  (63, eP (.iload_n 2) 1),
  (64, eM (.invokestatic 160) 120 2 1 2 9 497),
  (67, eR (.ireturn) 0)]
/-- X3_worlds -/
def k_75 : List (Nat × En) := [(0, eC (.iconst 1) 1 0 1),
  (1, eP (.aload_n 0) 1),
  (2, eC (.iconst 3) 1 0 3),
  (3, eC (.iconst 3) 1 0 3),
  (4, eM (.invokevirtual 163) 113 3 1 5 3 290),
  (7, eP (.ishl) 1),
  (8, eR (.ireturn) 0)]
/-- X3_cost -/
def k_76 : List (Nat × En) := [(0, eP (.aload_n 0) 1),
  (1, eP (.iload_n 1) 1),
  (2, eM (.invokevirtual 166) 125 2 1 2 3 540),
  (5, eB (.ifCond .ne 5) 10),
  (8, eC (.iconst (-1)) 1 0 (-1)),
  (9, eR (.ireturn) 0),
  (10, eP (.aload_n 0) 1),
  (11, eC (.iconst 0) 1 0 0),
  (12, eM (.invokevirtual 169) 126 2 0 2 3 544),
  (15, eP (.aload_n 0) 1),
  (16, eP (.aload_n 0) 1),
  (17, eF (.getfield 34) 3 4 2 24),
  (20, eP (.iload_n 1) 1),
  (21, eP (.aload_n 0) 1),
  (22, eF (.getfield 27) 3 3 2 20),
  (25, eM (.invokevirtual 172) 48 3 1 5 2 612),
  (28, eF (.putfield 54) 3 9 0 31),
  (31, eP (.aload_n 0) 1),
  (32, eF (.getfield 34) 3 4 2 24),
  (35, eP (.iload_n 1) 1),
  (36, eM (.invokevirtual 176) 47 2 1 4 2 616),
  (39, eR (.ireturn) 0)]
/-- X3_broken -/
def k_77 : List (Nat × En) := [(0, eP (.iload_n 1) 1),
  (1, eM (.invokestatic 131) 114 1 1 1 9 412),
  (4, eB (.ifCond .eq 11) 15),
  (7, eP (.aload_n 0) 1),
  (8, eP (.iload_n 2) 1),
  (9, eM (.invokevirtual 166) 125 2 1 2 3 540),
  (12, eB (.ifCond .ne 5) 17),
  (15, eC (.iconst (-1)) 1 0 (-1)),
  (16, eR (.ireturn) 0),
  (17, eP (.aload_n 0) 1),
  (18, eF (.getfield 27) 3 3 2 20),
  (21, eP (.iload_n 1) 1),
  (22, eP (.aaload) 1),
  (23, eF (.getfield 140) 0 0 3 10004),
  (26, eB (.ifCond .ne 9) 35),
  (29, eP (.aload_n 0) 1),
  (30, eC (.iconst 1) 1 0 1),
  (31, eM (.invokevirtual 90) 100 2 1 2 3 118),
  (34, eR (.ireturn) 0),
  (35, eP (.aload_n 0) 1),
  (36, eC (.iconst 0) 1 0 0),
  (37, eM (.invokevirtual 169) 126 2 0 2 3 544),
  (40, eP (.aload_n 0) 1),
  (41, eF (.getfield 34) 3 4 2 24),
  (44, eP (.iload_n 1) 1),
  (45, eP (.iload_n 2) 1),
  (46, eM (.invokevirtual 179) 49 3 1 3 2 647),
  (49, eR (.ireturn) 0)]
/-- X3_likeliest -/
def k_78 : List (Nat × En) := [(0, eP (.aload_n 0) 1),
  (1, eC (.iconst 0) 1 0 0),
  (2, eM (.invokevirtual 169) 126 2 0 2 3 544),
  (5, eP (.aload_n 0) 1),
  (6, eF (.getfield 34) 3 4 2 24),
  (9, eM (.invokevirtual 182) 50 1 1 1 2 656),
  (12, eB (.ifCond .eq 6) 18),
  (15, eC (.bipush (-9)) 2 0 (-9)),
  (17, eR (.ireturn) 0),
  (18, eP (.aload_n 0) 1),
  (19, eP (.aload_n 0) 1),
  (20, eF (.getfield 34) 3 4 2 24),
  (23, eF (.getfield 186) 2 8 0 10001),
  (26, eF (.putfield 54) 3 9 0 31),
  (29, eP (.aload_n 0) 1),
  (30, eF (.getfield 34) 3 4 2 24),
  (33, eF (.getfield 189) 2 7 0 10000),
  (36, eR (.ireturn) 0)]
/-- X3_near -/
def k_79 : List (Nat × En) := [(0, eP (.iload_n 1) 1),
  (1, eB (.ifCond .lt 10) 11),
  (4, eP (.iload_n 1) 1),
  (5, eC (.sipush 999) 3 0 999),
  (8, eB (.if_icmp .le 5) 13),
  (11, eC (.iconst (-1)) 1 0 (-1)),
  (12, eR (.ireturn) 0),
  (13, eP (.aload_n 0) 1),
  (14, eC (.iconst 0) 1 0 0),
  (15, eM (.invokevirtual 169) 126 2 0 2 3 544),
  (18, eP (.aload_n 0) 1),
  (19, eF (.getfield 34) 3 4 2 24),
  (22, eP (.iload_n 1) 1),
  (23, eM (.invokevirtual 192) 53 2 1 4 2 687),
  (26, eR (.ireturn) 0)]
/-- X3_odds -/
def k_80 : List (Nat × En) := [(0, eP (.iload_n 1) 1),
  (1, eM (.invokestatic 116) 106 1 1 1 9 280),
  (4, eB (.ifCond .ne 5) 9),
  (7, eC (.iconst (-1)) 1 0 (-1)),
  (8, eR (.ireturn) 0),
  (9, eP (.aload_n 0) 1),
  (10, eC (.iconst 0) 1 0 0),
  (11, eM (.invokevirtual 169) 126 2 0 2 3 544),
  (14, eP (.aload_n 0) 1),
  (15, eP (.aload_n 0) 1),
  (16, eF (.getfield 34) 3 4 2 24),
  (19, eC (.iconst 1) 1 0 1),
  (20, eP (.iload_n 1) 1),
  (21, eP (.ishl) 1),
  (22, eM (.invokevirtual 195) 56 2 2 5 2 699),
  (25, eP (.aload_n 0) 1),
  (26, eF (.getfield 34) 3 4 2 24),
  (29, eF (.getfield 198) 2 9 1 10002),
  (32, eM (.invokevirtual 201) 103 3 1 5 3 703),
  (35, eR (.ireturn) 0)]
/-- X3_both -/
def k_81 : List (Nat × En) := [(0, eP (.iload_n 1) 1),
  (1, eM (.invokestatic 116) 106 1 1 1 9 280),
  (4, eB (.ifCond .eq 10) 14),
  (7, eP (.iload_n 2) 1),
  (8, eM (.invokestatic 116) 106 1 1 1 9 280),
  (11, eB (.ifCond .ne 5) 16),
  (14, eC (.iconst (-1)) 1 0 (-1)),
  (15, eR (.ireturn) 0),
  (16, eP (.aload_n 0) 1),
  (17, eC (.iconst 0) 1 0 0),
  (18, eM (.invokevirtual 169) 126 2 0 2 3 544),
  (21, eP (.aload_n 0) 1),
  (22, eP (.aload_n 0) 1),
  (23, eF (.getfield 34) 3 4 2 24),
  (26, eC (.iconst 1) 1 0 1),
  (27, eP (.iload_n 1) 1),
  (28, eP (.ishl) 1),
  (29, eC (.iconst 1) 1 0 1),
  (30, eP (.iload_n 2) 1),
  (31, eP (.ishl) 1),
  (32, eP (.ior) 1),
  (33, eM (.invokevirtual 195) 56 2 2 5 2 699),
  (36, eP (.aload_n 0) 1),
  (37, eF (.getfield 34) 3 4 2 24),
  (40, eF (.getfield 198) 2 9 1 10002),
  (43, eM (.invokevirtual 201) 103 3 1 5 3 703),
  (46, eR (.ireturn) 0)]
/-- X3_given -/
def k_82 : List (Nat × En) := [(0, eP (.iload_n 1) 1),
  (1, eM (.invokestatic 116) 106 1 1 1 9 280),
  (4, eB (.ifCond .eq 10) 14),
  (7, eP (.iload_n 2) 1),
  (8, eM (.invokestatic 116) 106 1 1 1 9 280),
  (11, eB (.ifCond .ne 5) 16),
  (14, eC (.iconst (-1)) 1 0 (-1)),
  (15, eR (.ireturn) 0),
  (16, eP (.aload_n 0) 1),
  (17, eC (.iconst 0) 1 0 0),
  (18, eM (.invokevirtual 169) 126 2 0 2 3 544),
  (21, eP (.aload_n 0) 1),
  (22, eP (.aload_n 0) 1),
  (23, eF (.getfield 34) 3 4 2 24),
  (26, eC (.iconst 1) 1 0 1),
  (27, eP (.iload_n 1) 1),
  (28, eP (.ishl) 1),
  (29, eC (.iconst 1) 1 0 1),
  (30, eP (.iload_n 2) 1),
  (31, eP (.ishl) 1),
  (32, eP (.ior) 1),
  (33, eM (.invokevirtual 195) 56 2 2 5 2 699),
  (36, eP (.aload_n 0) 1),
  (37, eF (.getfield 34) 3 4 2 24),
  (40, eC (.iconst 1) 1 0 1),
  (41, eP (.iload_n 2) 1),
  (42, eP (.ishl) 1),
  (43, eM (.invokevirtual 195) 56 2 2 5 2 699),
  (46, eM (.invokevirtual 201) 103 3 1 5 3 703),
  (49, eR (.ireturn) 0)]
/-- X3_alike -/
def k_83 : List (Nat × En) := [(0, eP (.aload_n 0) 1),
  (1, eP (.iload_n 1) 1),
  (2, eM (.invokevirtual 205) 108 2 1 2 3 754),
  (5, eB (.ifCond .eq 11) 16),
  (8, eP (.aload_n 0) 1),
  (9, eP (.iload_n 2) 1),
  (10, eM (.invokevirtual 205) 108 2 1 2 3 754),
  (13, eB (.ifCond .ne 5) 18),
  (16, eC (.iconst (-1)) 1 0 (-1)),
  (17, eR (.ireturn) 0),
  (18, eC (.iconst 0) 1 0 0),
  (19, eP (.istore_n 3) 1),
  (20, eP (.iload_n 3) 1),
  (21, eC (.bipush 28) 2 0 28),
  (23, eB (.if_icmp .ge 31) 54),
  (26, eP (.aload_n 0) 1),
  (27, eF (.getfield 21) 3 2 2 18),
  (30, eP (.iload_n 3) 1),
  (31, eP (.iaload) 1),
  (32, eP (.aload_n 0) 1),
  (33, eF (.getfield 21) 3 2 2 18),
  (36, eP (.iload_n 3) 1),
  (37, eP (.iload_n 1) 1),
  (38, eP (.iload_n 2) 1),
  (39, eM (.invokestatic 208) 110 3 1 6 9 758),
  (42, eP (.iaload) 1),
  (43, eB (.if_icmp .eq 5) 48),
  (46, eC (.iconst 0) 1 0 0),
  (47, eR (.ireturn) 0),
  (48, eC (.iinc 3 1) 3 0 1),
  (51, eB (.goto (-31)) 20),
  (54, eC (.iconst 1) 1 0 1),
  (55, eR (.ireturn) 0)]
/-- X3_draw -/
def k_84 : List (Nat × En) := [(0, eP (.iload_n 2) 1),
  (1, eC (.iconst 1) 1 0 1),
  (2, eB (.if_icmp .lt 17) 19),
  (5, eP (.iload_n 2) 1),
  (6, eC (.sipush 200) 3 0 200),
  (9, eB (.if_icmp .gt 10) 19),
  (12, eP (.iload_n 3) 1),
  (13, eM (.invokestatic 116) 106 1 1 1 9 280),
  (16, eB (.ifCond .ne 5) 21),
  (19, eC (.iconst (-1)) 1 0 (-1)),
  (20, eR (.ireturn) 0),
  (21, eP (.aload_n 0) 1),
  (22, eC (.iconst 0) 1 0 0),
  (23, eM (.invokevirtual 169) 126 2 0 2 3 544),
  (26, eP (.aload_n 0) 1),
  (27, eF (.getfield 34) 3 4 2 24),
  (30, eM (.invokevirtual 182) 50 1 1 1 2 656),
  (33, eB (.ifCond .eq 9) 42),
  (36, eP (.aload_n 0) 1),
  (37, eC (.iconst 4) 1 0 4),
  (38, eM (.invokevirtual 90) 100 2 1 2 3 118),
  (41, eR (.ireturn) 0),
  (42, eC (.iconst 0) 1 0 0),
  (43, eP (.istore 4) 2),
  (45, eC (.iconst 0) 1 0 0),
  (46, eP (.istore 5) 2),
  (48, eP (.iload_n 1) 1),
  (49, eP (.istore 6) 2),
  (51, eC (.iconst 0) 1 0 0),
  (52, eP (.istore 7) 2),
  (54, eK [1, 0, 1, 1, 1, 1, 1, 1, 0, 0, 0] (eP (.iload 7) 2)),
  (56, eP (.iload_n 2) 1),
  (57, eB (.if_icmp .ge 80) 137),
  (60, eP (.iload 6) 2),
  (62, eM (.invokestatic 212) 130 1 1 1 9 776),
  (65, eP (.istore 8) 2),
  (67, eP (.iload 8) 2),
  (69, eM (.invokestatic 212) 130 1 1 1 9 776),
  (72, eP (.istore 6) 2),
  (74, eP (.iload 8) 2),
  (76, eM (.invokestatic 215) 131 1 1 1 9 780),
  (79, eP (.i2l) 1),
  (80, eL (.ldc2_w 218) 3 775 32768),
  (83, eP (.lmul) 1),
  (84, eP (.iload 6) 2),
  (86, eM (.invokestatic 215) 131 1 1 1 9 780),
  (89, eP (.i2l) 1),
  (90, eP (.ladd) 1),
  (91, eP (.lstore 9) 2),
  (93, eP (.aload_n 0) 1),
  (94, eF (.getfield 34) 3 4 2 24),
  (97, eP (.lload 9) 2),
  (99, eP (.aload_n 0) 1),
  (100, eF (.getfield 34) 3 4 2 24),
  (103, eF (.getfield 198) 2 9 1 10002),
  (106, eP (.lmul) 1),
  (107, eC (.bipush 30) 2 0 30),
  (109, eP (.lshr) 1),
  (110, eM (.invokevirtual 220) 57 2 1 6 2 783),
  (113, eP (.istore 5) 2),
  (115, eP (.aload_n 0) 1),
  (116, eF (.getfield 34) 3 4 2 24),
  (119, eP (.iload 5) 2),
  (121, eP (.iload_n 3) 1),
  (122, eM (.invokevirtual 224) 52 3 1 3 2 787),
  (125, eB (.ifCond .eq 6) 131),
  (128, eC (.iinc 4 1) 3 0 1),
  (131, eC (.iinc 7 1) 3 0 1),
  (134, eB (.goto (-80)) 54),
  (137, eP (.aload_n 0) 1),
  (138, eP (.iload 5) 2),
  (140, eF (.putfield 54) 3 9 0 31),
  (143, eP (.iload 4) 2),
  (145, eR (.ireturn) 0)]
/-- X3_learn -/
def k_85 : List (Nat × En) := [(0, eP (.aload_n 0) 1),
  (1, eP (.iload_n 1) 1),
  (2, eM (.invokevirtual 166) 125 2 1 2 3 540),
  (5, eB (.ifCond .eq 15) 20),
  (8, eP (.iload_n 2) 1),
  (9, eC (.iconst 1) 1 0 1),
  (10, eB (.if_icmp .lt 10) 20),
  (13, eP (.iload_n 2) 1),
  (14, eC (.sipush 255) 3 0 255),
  (17, eB (.if_icmp .le 5) 22),
  (20, eC (.iconst (-1)) 1 0 (-1)),
  (21, eR (.ireturn) 0),
  (22, eP (.iload_n 2) 1),
  (23, eM (.invokestatic 227) 1 1 1 1 9 801),
  (26, eC (.iconst 3) 1 0 3),
  (27, eB (.if_icmp .gt 12) 39),
  (30, eP (.iload_n 3) 1),
  (31, eB (.ifCond .lt 8) 39),
  (34, eP (.iload_n 3) 1),
  (35, eC (.iconst 2) 1 0 2),
  (36, eB (.if_icmp .le 5) 41),
  (39, eC (.iconst (-1)) 1 0 (-1)),
  (40, eR (.ireturn) 0),
  (41, eP (.aload_n 0) 1),
  (42, eP (.iload_n 2) 1),
  (43, eM (.invokevirtual 232) 132 2 1 3 3 808),
  (46, eP (.istore 4) 2),
  (48, eP (.iload 4) 2),
  (50, eB (.ifCond .eq 10) 60),
  (53, eP (.aload_n 0) 1),
  (54, eP (.iload 4) 2),
  (56, eM (.invokevirtual 90) 100 2 1 2 3 118),
  (59, eR (.ireturn) 0),
  (60, eP (.aload_n 0) 1),
  (61, eC (.iconst 0) 1 0 0),
  (62, eM (.invokevirtual 169) 126 2 0 2 3 544),
  (65, eP (.aload_n 0) 1),
  (66, eF (.getfield 34) 3 4 2 24),
  (69, eM (.invokevirtual 182) 50 1 1 1 2 656),
  (72, eB (.ifCond .eq 9) 81),
  (75, eP (.aload_n 0) 1),
  (76, eC (.iconst 4) 1 0 4),
  (77, eM (.invokevirtual 90) 100 2 1 2 3 118),
  (80, eR (.ireturn) 0),
  (81, eP (.aload_n 0) 1),
  (82, eF (.getfield 34) 3 4 2 24),
  (85, eP (.iload_n 1) 1),
  (86, eM (.invokevirtual 235) 51 2 1 2 2 816),
  (89, eB (.ifCond .eq 6) 95),
  (92, eC (.bipush (-4)) 2 0 (-4)),
  (94, eR (.ireturn) 0),
  (95, eP (.aload_n 0) 1),
  (96, eP (.iload_n 1) 1),
  (97, eP (.iload_n 2) 1),
  (98, eP (.iload_n 3) 1),
  (99, eM (.invokevirtual 238) 133 4 1 12 3 817),
  (102, eP (.istore 5) 2),
  (104, eP (.aload_n 0) 1),
  (105, eP (.iload_n 2) 1),
  (106, eP (.iload 5) 2),
  (108, eM (.invokevirtual 241) 135 3 0 5 3 821),
  (111, eK [1, 1, 0, 0, 0, 1] (eP (.aload_n 0) 1)),
  (112, eC (.iconst 0) 1 0 0),
  (113, eM (.invokevirtual 169) 126 2 0 2 3 544),
  (116, eP (.aload_n 0) 1),
  (117, eP (.aload_n 0) 1),
  (118, eF (.getfield 34) 3 4 2 24),
  (121, eP (.iload_n 1) 1),
  (122, eM (.invokevirtual 245) 55 2 2 2 2 845),
  (125, eP (.aload_n 0) 1),
  (126, eF (.getfield 34) 3 4 2 24),
  (129, eF (.getfield 198) 2 9 1 10002),
  (132, eM (.invokevirtual 248) 104 3 0 7 3 707),
  (135, eP (.iload 5) 2),
  (137, eM (.invokestatic 252) 137 1 1 1 9 849),
  (140, eR (.ireturn) 0)]
/-- X3_pull -/
def k_86 : List (Nat × En) := [(0, eP (.iload_n 1) 1),
  (1, eM (.invokestatic 131) 114 1 1 1 9 412),
  (4, eB (.ifCond .eq 10) 14),
  (7, eP (.iload_n 2) 1),
  (8, eM (.invokestatic 116) 106 1 1 1 9 280),
  (11, eB (.ifCond .ne 5) 16),
  (14, eC (.iconst (-1)) 1 0 (-1)),
  (15, eR (.ireturn) 0),
  (16, eP (.aload_n 0) 1),
  (17, eF (.getfield 27) 3 3 2 20),
  (20, eP (.iload_n 1) 1),
  (21, eP (.aaload) 1),
  (22, eF (.getfield 140) 0 0 3 10004),
  (25, eB (.ifCond .ne 9) 34),
  (28, eP (.aload_n 0) 1),
  (29, eC (.iconst 1) 1 0 1),
  (30, eM (.invokevirtual 90) 100 2 1 2 3 118),
  (33, eR (.ireturn) 0),
  (34, eP (.aload_n 0) 1),
  (35, eC (.iconst 0) 1 0 0),
  (36, eM (.invokevirtual 169) 126 2 0 2 3 544),
  (39, eP (.aload_n 0) 1),
  (40, eF (.getfield 34) 3 4 2 24),
  (43, eC (.iconst 1) 1 0 1),
  (44, eP (.iload_n 2) 1),
  (45, eP (.ishl) 1),
  (46, eM (.invokevirtual 195) 56 2 2 5 2 699),
  (49, eP (.lstore_n 3) 1),
  (50, eP (.aload_n 0) 1),
  (51, eF (.getfield 34) 3 4 2 24),
  (54, eF (.getfield 198) 2 9 1 10002),
  (57, eP (.lstore 5) 2),
  (59, eP (.aload_n 0) 1),
  (60, eC (.iconst 1) 1 0 1),
  (61, eP (.iload_n 1) 1),
  (62, eP (.ishl) 1),
  (63, eM (.invokevirtual 169) 126 2 0 2 3 544),
  (66, eP (.aload_n 0) 1),
  (67, eF (.getfield 34) 3 4 2 24),
  (70, eC (.iconst 1) 1 0 1),
  (71, eP (.iload_n 2) 1),
  (72, eP (.ishl) 1),
  (73, eM (.invokevirtual 195) 56 2 2 5 2 699),
  (76, eP (.lstore 7) 2),
  (78, eP (.aload_n 0) 1),
  (79, eF (.getfield 34) 3 4 2 24),
  (82, eF (.getfield 198) 2 9 1 10002),
  (85, eP (.lstore 9) 2),
  (87, eP (.lload 5) 2),
  (89, eL (.lconst 0) 1 0 0),
  (90, eP (.lcmp) 1),
  (91, eB (.ifCond .le 10) 101),
  (94, eK [1, 0, 0, 1, 0, 1, 0, 1, 0, 1, 0] (eP (.lload 9) 2)),
  (96, eL (.lconst 0) 1 0 0),
  (97, eP (.lcmp) 1),
  (98, eB (.ifCond .gt 9) 107),
  (101, eP (.aload_n 0) 1),
  (102, eC (.iconst 4) 1 0 4),
  (103, eM (.invokevirtual 90) 100 2 1 2 3 118),
  (106, eR (.ireturn) 0),
  (107, eP (.aload_n 0) 1),
  (108, eP (.lload_n 3) 1),
  (109, eP (.lload 9) 2),
  (111, eP (.lmul) 1),
  (112, eP (.lload 7) 2),
  (114, eP (.lload 5) 2),
  (116, eP (.lmul) 1),
  (117, eP (.lsub) 1),
  (118, eP (.lload 5) 2),
  (120, eP (.lload 9) 2),
  (122, eP (.lmul) 1),
  (123, eM (.invokevirtual 248) 104 3 0 7 3 707),
  (126, eC (.iconst 1) 1 0 1),
  (127, eR (.ireturn) 0)]
/-- X3_why -/
def k_87 : List (Nat × En) := [(0, eP (.iload_n 1) 1),
  (1, eM (.invokestatic 116) 106 1 1 1 9 280),
  (4, eB (.ifCond .ne 5) 9),
  (7, eC (.iconst (-1)) 1 0 (-1)),
  (8, eR (.ireturn) 0),
  (9, eP (.aload_n 0) 1),
  (10, eC (.iconst 0) 1 0 0),
  (11, eM (.invokevirtual 169) 126 2 0 2 3 544),
  (14, eP (.aload_n 0) 1),
  (15, eF (.getfield 34) 3 4 2 24),
  (18, eM (.invokevirtual 182) 50 1 1 1 2 656),
  (21, eB (.ifCond .eq 9) 30),
  (24, eP (.aload_n 0) 1),
  (25, eC (.iconst 4) 1 0 4),
  (26, eM (.invokevirtual 90) 100 2 1 2 3 118),
  (29, eR (.ireturn) 0),
  (30, eC (.iconst 0) 1 0 0),
  (31, eP (.istore_n 2) 1),
  (32, eK [1, 1, 1, 0] (eP (.iload_n 2) 1)),
  (33, eC (.bipush 8) 2 0 8),
  (35, eB (.if_icmp .gt 51) 86),
  (38, eC (.iconst 0) 1 0 0),
  (39, eP (.istore_n 3) 1),
  (40, eP (.iload_n 3) 1),
  (41, eC (.sipush 255) 3 0 255),
  (44, eB (.if_icmp .gt 36) 80),
  (47, eP (.iload_n 3) 1),
  (48, eM (.invokestatic 227) 1 1 1 1 9 801),
  (51, eP (.iload_n 2) 1),
  (52, eB (.if_icmp .ne 22) 74),
  (55, eP (.aload_n 0) 1),
  (56, eP (.iload_n 3) 1),
  (57, eM (.invokevirtual 255) 124 2 1 3 3 812),
  (60, eB (.ifCond .eq 14) 74),
  (63, eP (.aload_n 0) 1),
  (64, eP (.iload_n 3) 1),
  (65, eP (.iload_n 1) 1),
  (66, eM (.invokevirtual 258) 129 3 1 3 3 878),
  (69, eB (.ifCond .eq 5) 74),
  (72, eP (.iload_n 3) 1),
  (73, eR (.ireturn) 0),
  (74, eC (.iinc 3 1) 3 0 1),
  (77, eB (.goto (-37)) 40),
  (80, eC (.iinc 2 1) 3 0 1),
  (83, eB (.goto (-51)) 32),
  (86, eC (.bipush (-9)) 2 0 (-9)),
  (88, eR (.ireturn) 0)]
/-- X3_otherwise -/
def k_88 : List (Nat × En) := [(0, eP (.iload_n 1) 1),
  (1, eM (.invokestatic 116) 106 1 1 1 9 280),
  (4, eB (.ifCond .eq 17) 21),
  (7, eP (.iload_n 2) 1),
  (8, eM (.invokestatic 119) 107 1 1 1 9 283),
  (11, eB (.ifCond .eq 10) 21),
  (14, eP (.iload_n 3) 1),
  (15, eM (.invokestatic 116) 106 1 1 1 9 280),
  (18, eB (.ifCond .ne 5) 23),
  (21, eC (.iconst (-1)) 1 0 (-1)),
  (22, eR (.ireturn) 0),
  (23, eP (.iload_n 1) 1),
  (24, eP (.aload_n 0) 1),
  (25, eF (.getfield 46) 3 7 0 29),
  (28, eM (.invokestatic 112) 109 2 1 3 9 266),
  (31, eB (.ifCond .ne 5) 36),
  (34, eC (.iconst (-1)) 1 0 (-1)),
  (35, eR (.ireturn) 0),
  (36, eP (.aload_n 0) 1),
  (37, eP (.iload_n 1) 1),
  (38, eP (.iload_n 2) 1),
  (39, eM (.invokevirtual 122) 112 3 1 3 3 286),
  (42, eB (.ifCond .eq 6) 48),
  (45, eC (.bipush (-2)) 2 0 (-2)),
  (47, eR (.ireturn) 0),
  (48, eP (.aload_n 0) 1),
  (49, eP (.iload_n 1) 1),
  (50, eP (.iload_n 2) 1),
  (51, eM (.invokevirtual 261) 127 3 0 4 3 892),
  (54, eP (.aload_n 0) 1),
  (55, eP (.aload_n 0) 1),
  (56, eF (.getfield 34) 3 4 2 24),
  (59, eC (.iconst 1) 1 0 1),
  (60, eP (.iload_n 3) 1),
  (61, eP (.ishl) 1),
  (62, eM (.invokevirtual 195) 56 2 2 5 2 699),
  (65, eP (.aload_n 0) 1),
  (66, eF (.getfield 34) 3 4 2 24),
  (69, eF (.getfield 198) 2 9 1 10002),
  (72, eM (.invokevirtual 201) 103 3 1 5 3 703),
  (75, eR (.ireturn) 0)]
/-- X3_act -/
def k_89 : List (Nat × En) := [(0, eP (.iload_n 1) 1),
  (1, eM (.invokestatic 116) 106 1 1 1 9 280),
  (4, eB (.ifCond .eq 14) 18),
  (7, eP (.aload_n 0) 1),
  (8, eF (.getfield 14) 3 0 2 15),
  (11, eP (.iload_n 2) 1),
  (12, eM (.invokevirtual 83) 9 2 1 2 1 114),
  (15, eB (.ifCond .ne 5) 20),
  (18, eC (.iconst (-1)) 1 0 (-1)),
  (19, eR (.ireturn) 0),
  (20, eP (.aload_n 0) 1),
  (21, eP (.iload_n 2) 1),
  (22, eM (.invokevirtual 264) 138 2 1 3 3 905),
  (25, eP (.istore_n 3) 1),
  (26, eP (.iload_n 3) 1),
  (27, eB (.ifCond .eq 9) 36),
  (30, eP (.aload_n 0) 1),
  (31, eP (.iload_n 3) 1),
  (32, eM (.invokevirtual 90) 100 2 1 2 3 118),
  (35, eR (.ireturn) 0),
  (36, eP (.aload_n 0) 1),
  (37, eF (.getfield 34) 3 4 2 24),
  (40, eC (.iconst 1) 1 0 1),
  (41, eP (.iload_n 1) 1),
  (42, eP (.ishl) 1),
  (43, eM (.invokevirtual 195) 56 2 2 5 2 699),
  (46, eP (.lstore 4) 2),
  (48, eP (.aload_n 0) 1),
  (49, eF (.getfield 34) 3 4 2 24),
  (52, eF (.getfield 198) 2 9 1 10002),
  (55, eP (.lload 4) 2),
  (57, eP (.lsub) 1),
  (58, eP (.lstore 6) 2),
  (60, eP (.aload_n 0) 1),
  (61, eP (.iload_n 2) 1),
  (62, eP (.lload 4) 2),
  (64, eP (.lload 6) 2),
  (66, eM (.invokevirtual 267) 142 4 1 8 3 913),
  (69, eP (.istore 8) 2),
  (71, eP (.aload_n 0) 1),
  (72, eP (.aload_n 0) 1),
  (73, eP (.iload_n 2) 1),
  (74, eP (.iload 8) 2),
  (76, eP (.lload 4) 2),
  (78, eP (.lload 6) 2),
  (80, eM (.invokevirtual 271) 141 5 2 7 3 917),
  (83, eP (.aload_n 0) 1),
  (84, eF (.getfield 34) 3 4 2 24),
  (87, eF (.getfield 198) 2 9 1 10002),
  (90, eM (.invokevirtual 248) 104 3 0 7 3 707),
  (93, eP (.iload 8) 2),
  (95, eR (.ireturn) 0)]
/-- X3_look -/
def k_90 : List (Nat × En) := [(0, eP (.iload_n 1) 1),
  (1, eM (.invokestatic 116) 106 1 1 1 9 280),
  (4, eB (.ifCond .eq 21) 25),
  (7, eP (.aload_n 0) 1),
  (8, eF (.getfield 14) 3 0 2 15),
  (11, eP (.iload_n 2) 1),
  (12, eM (.invokevirtual 83) 9 2 1 2 1 114),
  (15, eB (.ifCond .eq 10) 25),
  (18, eP (.iload_n 3) 1),
  (19, eM (.invokestatic 116) 106 1 1 1 9 280),
  (22, eB (.ifCond .ne 5) 27),
  (25, eC (.iconst (-1)) 1 0 (-1)),
  (26, eR (.ireturn) 0),
  (27, eP (.aload_n 0) 1),
  (28, eP (.iload_n 2) 1),
  (29, eM (.invokevirtual 264) 138 2 1 3 3 905),
  (32, eP (.istore 4) 2),
  (34, eP (.iload 4) 2),
  (36, eB (.ifCond .eq 10) 46),
  (39, eP (.aload_n 0) 1),
  (40, eP (.iload 4) 2),
  (42, eM (.invokevirtual 90) 100 2 1 2 3 118),
  (45, eR (.ireturn) 0),
  (46, eP (.aload_n 0) 1),
  (47, eF (.getfield 34) 3 4 2 24),
  (50, eC (.iconst 1) 1 0 1),
  (51, eP (.iload_n 1) 1),
  (52, eP (.ishl) 1),
  (53, eM (.invokevirtual 195) 56 2 2 5 2 699),
  (56, eP (.lstore 5) 2),
  (58, eP (.aload_n 0) 1),
  (59, eF (.getfield 34) 3 4 2 24),
  (62, eF (.getfield 198) 2 9 1 10002),
  (65, eP (.lload 5) 2),
  (67, eP (.lsub) 1),
  (68, eP (.lstore 7) 2),
  (70, eP (.aload_n 0) 1),
  (71, eF (.getfield 34) 3 4 2 24),
  (74, eC (.iconst 1) 1 0 1),
  (75, eP (.iload_n 1) 1),
  (76, eP (.ishl) 1),
  (77, eC (.iconst 1) 1 0 1),
  (78, eP (.iload_n 3) 1),
  (79, eP (.ishl) 1),
  (80, eP (.ior) 1),
  (81, eM (.invokevirtual 195) 56 2 2 5 2 699),
  (84, eP (.lstore 9) 2),
  (86, eP (.aload_n 0) 1),
  (87, eF (.getfield 34) 3 4 2 24),
  (90, eC (.iconst 1) 1 0 1),
  (91, eP (.iload_n 3) 1),
  (92, eP (.ishl) 1),
  (93, eM (.invokevirtual 195) 56 2 2 5 2 699),
  (96, eP (.lload 9) 2),
  (98, eP (.lsub) 1),
  (99, eP (.lstore 11) 2),
  (101, eK [1, 0, 1, 0, 0, 1, 0, 1, 0, 1, 0, 1, 0, 0, 0] (eP (.aload_n 0) 1)),
  (102, eP (.iload_n 2) 1),
  (103, eP (.lload 9) 2),
  (105, eP (.lload 11) 2),
  (107, eM (.invokevirtual 275) 143 4 2 6 3 938),
  (110, eP (.aload_n 0) 1),
  (111, eP (.iload_n 2) 1),
  (112, eP (.lload 5) 2),
  (114, eP (.lload 9) 2),
  (116, eP (.lsub) 1),
  (117, eP (.lload 7) 2),
  (119, eP (.lload 11) 2),
  (121, eP (.lsub) 1),
  (122, eM (.invokevirtual 275) 143 4 2 6 3 938),
  (125, eP (.ladd) 1),
  (126, eP (.lstore 13) 2),
  (128, eP (.aload_n 0) 1),
  (129, eP (.lload 13) 2),
  (131, eP (.aload_n 0) 1),
  (132, eP (.iload_n 2) 1),
  (133, eP (.lload 5) 2),
  (135, eP (.lload 7) 2),
  (137, eM (.invokevirtual 275) 143 4 2 6 3 938),
  (140, eP (.lsub) 1),
  (141, eP (.aload_n 0) 1),
  (142, eF (.getfield 34) 3 4 2 24),
  (145, eF (.getfield 198) 2 9 1 10002),
  (148, eM (.invokevirtual 248) 104 3 0 7 3 707),
  (151, eC (.iconst 1) 1 0 1),
  (152, eR (.ireturn) 0)]
/-- X3_wrong -/
def k_91 : List (Nat × En) := [(0, eP (.aload_n 0) 1),
  (1, eC (.iconst 0) 1 0 0),
  (2, eM (.invokevirtual 169) 126 2 0 2 3 544),
  (5, eP (.aload_n 0) 1),
  (6, eF (.getfield 34) 3 4 2 24),
  (9, eF (.getfield 186) 2 8 0 10001),
  (12, eP (.istore_n 1) 1),
  (13, eC (.bipush (-9)) 2 0 (-9)),
  (15, eP (.istore_n 2) 1),
  (16, eC (.iconst 0) 1 0 0),
  (17, eP (.istore_n 3) 1),
  (18, eC (.iconst 0) 1 0 0),
  (19, eP (.istore 4) 2),
  (21, eK [1, 1, 1, 1, 1, 0] (eP (.iload 4) 2)),
  (23, eC (.bipush 28) 2 0 28),
  (25, eB (.if_icmp .ge 78) 103),
  (28, eP (.aload_n 0) 1),
  (29, eF (.getfield 21) 3 2 2 18),
  (32, eP (.iload 4) 2),
  (34, eP (.iaload) 1),
  (35, eC (.iconst 1) 1 0 1),
  (36, eB (.if_icmp .eq 14) 50),
  (39, eP (.aload_n 0) 1),
  (40, eF (.getfield 21) 3 2 2 18),
  (43, eP (.iload 4) 2),
  (45, eP (.iaload) 1),
  (46, eC (.iconst 2) 1 0 2),
  (47, eB (.if_icmp .ne 50) 97),
  (50, eK [1, 1, 1, 1, 1, 0] (eP (.aload_n 0) 1)),
  (51, eP (.iload 4) 2),
  (53, eP (.aload_n 0) 1),
  (54, eF (.getfield 21) 3 2 2 18),
  (57, eP (.iload 4) 2),
  (59, eP (.iaload) 1),
  (60, eC (.iconst 1) 1 0 1),
  (61, eB (.if_icmp .ne 7) 68),
  (64, eC (.iconst 2) 1 0 2),
  (65, eB (.goto 4) 69),
  (68, eC (.iconst 1) 1 0 1),
  (69, eK [1, 1, 1, 1, 1, 0] (eM (.invokevirtual 261) 127 3 0 4 3 892)),
  (72, eP (.iload_n 1) 1),
  (73, eP (.aload_n 0) 1),
  (74, eF (.getfield 34) 3 4 2 24),
  (77, eF (.getfield 186) 2 8 0 10001),
  (80, eM (.invokestatic 279) 128 2 1 2 9 950),
  (83, eP (.istore 5) 2),
  (85, eP (.iload 5) 2),
  (87, eP (.iload_n 3) 1),
  (88, eB (.if_icmp .le 9) 97),
  (91, eP (.iload 5) 2),
  (93, eP (.istore_n 3) 1),
  (94, eP (.iload 4) 2),
  (96, eP (.istore_n 2) 1),
  (97, eC (.iinc 4 1) 3 0 1),
  (100, eB (.goto (-79)) 21),
  (103, eP (.iload_n 2) 1),
  (104, eC (.bipush (-9)) 2 0 (-9)),
  (106, eB (.if_icmp .eq 8) 114),
  (109, eP (.aload_n 0) 1),
  (110, eP (.iload_n 3) 1),
  (111, eF (.putfield 54) 3 9 0 31),
  (114, eP (.iload_n 2) 1),
  (115, eR (.ireturn) 0)]
/-- X3_held -/
def k_92 : List (Nat × En) := [(0, eP (.aload_n 0) 1),
  (1, eF (.getfield 14) 3 0 2 15),
  (4, eP (.iload_n 1) 1),
  (5, eM (.invokevirtual 83) 9 2 1 2 1 114),
  (8, eB (.ifCond .eq 13) 21),
  (11, eP (.iload_n 2) 1),
  (12, eB (.ifCond .lt 9) 21),
  (15, eP (.iload_n 2) 1),
  (16, eC (.bipush 10) 2 0 10),
  (18, eB (.if_icmp .le 5) 23),
  (21, eC (.iconst (-1)) 1 0 (-1)),
  (22, eR (.ireturn) 0),
  (23, eP (.aload_n 0) 1),
  (24, eP (.iload_n 1) 1),
  (25, eM (.invokevirtual 282) 140 2 1 4 3 962),
  (28, eP (.istore_n 3) 1),
  (29, eP (.iload_n 3) 1),
  (30, eB (.ifCond .eq 9) 39),
  (33, eP (.aload_n 0) 1),
  (34, eP (.iload_n 3) 1),
  (35, eM (.invokevirtual 90) 100 2 1 2 3 118),
  (38, eR (.ireturn) 0),
  (39, eC (.iconst 0) 1 0 0),
  (40, eP (.istore 4) 2),
  (42, eC (.iconst 0) 1 0 0),
  (43, eP (.istore 5) 2),
  (45, eC (.iconst 0) 1 0 0),
  (46, eP (.istore 6) 2),
  (48, eK [1, 1, 1, 0, 1, 1, 1] (eP (.iload 6) 2)),
  (50, eC (.iconst 1) 1 0 1),
  (51, eP (.iadd) 1),
  (52, eP (.aload_n 0) 1),
  (53, eF (.getfield 14) 3 0 2 15),
  (56, eP (.iload_n 1) 1),
  (57, eM (.invokevirtual 105) 11 2 1 2 1 226),
  (60, eB (.if_icmp .ge 43) 103),
  (63, eP (.aload_n 0) 1),
  (64, eF (.getfield 14) 3 0 2 15),
  (67, eP (.iload_n 1) 1),
  (68, eP (.iload 6) 2),
  (70, eM (.invokevirtual 75) 15 3 1 3 1 159),
  (73, eP (.iload_n 2) 1),
  (74, eB (.if_icmp .ne 23) 97),
  (77, eP (.iload 4) 2),
  (79, eP (.aload_n 0) 1),
  (80, eF (.getfield 14) 3 0 2 15),
  (83, eP (.iload_n 1) 1),
  (84, eP (.iload 6) 2),
  (86, eC (.iconst 1) 1 0 1),
  (87, eP (.iadd) 1),
  (88, eM (.invokevirtual 75) 15 3 1 3 1 159),
  (91, eP (.iadd) 1),
  (92, eP (.istore 4) 2),
  (94, eC (.iinc 5 1) 3 0 1),
  (97, eC (.iinc 6 2) 3 0 2),
  (100, eB (.goto (-52)) 48),
  (103, eP (.aload_n 0) 1),
  (104, eP (.iload 5) 2),
  (106, eF (.putfield 54) 3 9 0 31),
  (109, eP (.iload 4) 2),
  (111, eR (.ireturn) 0)]
/-- X3_asked -/
def k_93 : List (Nat × En) := [(0, eP (.aload_n 0) 1),
  (1, eF (.getfield 54) 3 9 0 31),
  (4, eR (.ireturn) 0)]
/-- X3_upper -/
def k_94 : List (Nat × En) := [(0, eP (.aload_n 0) 1),
  (1, eF (.getfield 57) 3 10 1 32),
  (4, eR (.lreturn) 1)]
/-- X3_lower -/
def k_95 : List (Nat × En) := [(0, eP (.aload_n 0) 1),
  (1, eF (.getfield 61) 3 11 1 33),
  (4, eR (.lreturn) 1)]
/-- X3_count -/
def k_96 : List (Nat × En) := [(0, eP (.iload_n 1) 1),
  (1, eS (.tableswitch 90 0 6 #[43, 48, 55, 62, 68, 74, 82]) 43 91 [(0, 44), (1, 49), (2, 56), (3, 63), (4, 69), (5, 75), (6, 83)]),
  (44, eP (.aload_n 0) 1),
  (45, eF (.getfield 46) 3 7 0 29),
  (48, eR (.ireturn) 0),
  (49, eP (.aload_n 0) 1),
  (50, eC (.iconst 3) 1 0 3),
  (51, eC (.iconst 3) 1 0 3),
  (52, eM (.invokevirtual 163) 113 3 1 5 3 290),
  (55, eR (.ireturn) 0),
  (56, eP (.aload_n 0) 1),
  (57, eC (.iconst 1) 1 0 1),
  (58, eC (.iconst 2) 1 0 2),
  (59, eM (.invokevirtual 163) 113 3 1 5 3 290),
  (62, eR (.ireturn) 0),
  (63, eP (.aload_n 0) 1),
  (64, eC (.iconst 0) 1 0 0),
  (65, eM (.invokevirtual 285) 122 2 1 4 3 998),
  (68, eR (.ireturn) 0),
  (69, eP (.aload_n 0) 1),
  (70, eC (.iconst 1) 1 0 1),
  (71, eM (.invokevirtual 285) 122 2 1 4 3 998),
  (74, eR (.ireturn) 0),
  (75, eP (.aload_n 0) 1),
  (76, eF (.getfield 14) 3 0 2 15),
  (79, eM (.invokevirtual 289) 19 1 1 3 1 1002),
  (82, eR (.ireturn) 0),
  (83, eP (.aload_n 0) 1),
  (84, eF (.getfield 18) 3 1 2 16),
  (87, eM (.invokevirtual 289) 19 1 1 3 1 1002),
  (90, eR (.ireturn) 0),
  (91, eC (.iconst (-1)) 1 0 (-1)),
  (92, eR (.ireturn) 0)]
/-- X3_finding -/
def k_97 : List (Nat × En) := [(0, eP (.aload_n 0) 1),
  (1, eF (.getfield 64) 3 12 0 34),
  (4, eR (.ireturn) 0)]
/-- X3_findings -/
def k_98 : List (Nat × En) := [(0, eP (.iload_n 1) 1),
  (1, eC (.iconst 1) 1 0 1),
  (2, eB (.if_icmp .lt 17) 19),
  (5, eP (.iload_n 1) 1),
  (6, eC (.iconst 5) 1 0 5),
  (7, eB (.if_icmp .gt 12) 19),
  (10, eP (.aload_n 0) 1),
  (11, eF (.getfield 38) 3 5 2 25),
  (14, eP (.iload_n 1) 1),
  (15, eP (.iaload) 1),
  (16, eB (.goto 4) 20),
  (19, eC (.iconst (-1)) 1 0 (-1)),
  (20, eR (.ireturn) 0)]
/-- X3_digest -/
def k_99 : List (Nat × En) := [(0, eL (.ldc2_w 293) 3 1034 17),
  (3, eP (.lstore_n 1) 1),
  (4, eC (.iconst 0) 1 0 0),
  (5, eP (.istore_n 3) 1),
  (6, eK [1, 1, 0, 1] (eP (.iload_n 3) 1)),
  (7, eC (.bipush 6) 2 0 6),
  (9, eB (.if_icmp .gt 22) 31),
  (12, eL (.ldc2_w 295) 3 1035 31),
  (15, eP (.lload_n 1) 1),
  (16, eP (.lmul) 1),
  (17, eP (.aload_n 0) 1),
  (18, eP (.iload_n 3) 1),
  (19, eM (.invokevirtual 297) 96 2 1 2 3 1036),
  (22, eP (.i2l) 1),
  (23, eP (.ladd) 1),
  (24, eP (.lstore_n 1) 1),
  (25, eC (.iinc 3 1) 3 0 1),
  (28, eB (.goto (-22)) 6),
  (31, eC (.iconst 0) 1 0 0),
  (32, eP (.istore_n 3) 1),
  (33, eK [1, 1, 0, 1] (eP (.iload_n 3) 1)),
  (34, eC (.bipush 28) 2 0 28),
  (36, eB (.if_icmp .ge 23) 59),
  (39, eL (.ldc2_w 295) 3 1035 31),
  (42, eP (.lload_n 1) 1),
  (43, eP (.lmul) 1),
  (44, eP (.aload_n 0) 1),
  (45, eF (.getfield 21) 3 2 2 18),
  (48, eP (.iload_n 3) 1),
  (49, eP (.iaload) 1),
  (50, eP (.i2l) 1),
  (51, eP (.ladd) 1),
  (52, eP (.lstore_n 1) 1),
  (53, eC (.iinc 3 1) 3 0 1),
  (56, eB (.goto (-23)) 33),
  (59, eC (.iconst 0) 1 0 0),
  (60, eP (.istore_n 3) 1),
  (61, eK [1, 1, 0, 1] (eP (.iload_n 3) 1)),
  (62, eC (.bipush 8) 2 0 8),
  (64, eB (.if_icmp .ge 21) 85),
  (67, eP (.aload_n 0) 1),
  (68, eP (.lload_n 1) 1),
  (69, eP (.aload_n 0) 1),
  (70, eF (.getfield 27) 3 3 2 20),
  (73, eP (.iload_n 3) 1),
  (74, eP (.aaload) 1),
  (75, eM (.invokevirtual 300) 123 3 2 7 3 1037),
  (78, eP (.lstore_n 1) 1),
  (79, eC (.iinc 3 1) 3 0 1),
  (82, eB (.goto (-21)) 61),
  (85, eP (.aload_n 0) 1),
  (86, eF (.getfield 18) 3 1 2 16),
  (89, eP (.aload_n 0) 1),
  (90, eF (.getfield 14) 3 0 2 15),
  (93, eP (.lload_n 1) 1),
  (94, eM (.invokevirtual 304) 20 2 2 7 1 1041),
  (97, eM (.invokevirtual 304) 20 2 2 7 1 1041),
  (100, eR (.lreturn) 1)]
/-- X3_found -/
def k_100 : List (Nat × En) := [(0, eP (.iload_n 1) 1),
  (1, eC (.iconst 1) 1 0 1),
  (2, eB (.if_icmp .lt 23) 25),
  (5, eP (.iload_n 1) 1),
  (6, eC (.iconst 5) 1 0 5),
  (7, eB (.if_icmp .gt 18) 25),
  (10, eP (.aload_n 0) 1),
  (11, eP (.iload_n 1) 1),
  (12, eF (.putfield 64) 3 12 0 34),
  (15, eP (.aload_n 0) 1),
  (16, eF (.getfield 38) 3 5 2 25),
  (19, eP (.iload_n 1) 1),
  (20, eP (.dup2) 1),
  (21, eP (.iaload) 1),
  (22, eC (.iconst 1) 1 0 1),
  (23, eP (.iadd) 1),
  (24, eP (.iastore) 1),
  (25, eC (.bipush (-3)) 2 0 (-3)),
  (27, eR (.ireturn) 0)]
/-- X3_makeOn -/
def k_101 : List (Nat × En) := [(0, eP (.aload_n 1) 1),
  (1, eP (.iload_n 2) 1),
  (2, eM (.invokevirtual 83) 9 2 1 2 1 114),
  (5, eB (.ifCond .eq 9) 14),
  (8, eP (.iload_n 3) 1),
  (9, eC (.bipush 40) 2 0 40),
  (11, eB (.if_icmp .le 5) 16),
  (14, eC (.iconst (-1)) 1 0 (-1)),
  (15, eR (.ireturn) 0),
  (16, eP (.iload_n 3) 1),
  (17, eB (.ifCond .ge 9) 26),
  (20, eP (.aload_n 0) 1),
  (21, eC (.iconst 5) 1 0 5),
  (22, eM (.invokevirtual 90) 100 2 1 2 3 118),
  (25, eR (.ireturn) 0),
  (26, eP (.aload_n 1) 1),
  (27, eP (.iload_n 2) 1),
  (28, eP (.iload_n 3) 1),
  (29, eP (.iload 4) 2),
  (31, eM (.invokevirtual 308) 13 4 0 4 1 122),
  (34, eP (.iload_n 3) 1),
  (35, eR (.ireturn) 0)]
/-- X3_refusalOfPlace -/
def k_102 : List (Nat × En) := [(0, eP (.aload_n 1) 1),
  (1, eP (.iload_n 2) 1),
  (2, eM (.invokevirtual 83) 9 2 1 2 1 114),
  (5, eB (.ifCond .ne 5) 10),
  (8, eC (.iconst (-1)) 1 0 (-1)),
  (9, eR (.ireturn) 0),
  (10, eP (.aload_n 1) 1),
  (11, eP (.iload_n 2) 1),
  (12, eM (.invokevirtual 87) 10 2 1 2 1 150),
  (15, eB (.ifCond .ne 9) 24),
  (18, eP (.aload_n 0) 1),
  (19, eC (.iconst 1) 1 0 1),
  (20, eM (.invokevirtual 90) 100 2 1 2 3 118),
  (23, eR (.ireturn) 0),
  (24, eP (.aload_n 1) 1),
  (25, eP (.iload_n 2) 1),
  (26, eP (.iload_n 3) 1),
  (27, eC (.iconst 1) 1 0 1),
  (28, eM (.invokevirtual 97) 12 4 1 4 1 154),
  (31, eB (.ifCond .eq 7) 38),
  (34, eC (.iconst 0) 1 0 0),
  (35, eB (.goto 8) 43),
  (38, eP (.aload_n 0) 1),
  (39, eC (.iconst 2) 1 0 2),
  (40, eM (.invokevirtual 90) 100 2 1 2 3 118),
  (43, eR (.ireturn) 0)]
/-- X3_tellShare -/
def k_103 : List (Nat × En) := [(0, eP (.lload_n 3) 1),
  (1, eL (.lconst 0) 1 0 0),
  (2, eP (.lcmp) 1),
  (3, eB (.ifCond .gt 9) 12),
  (6, eP (.aload_n 0) 1),
  (7, eC (.iconst 4) 1 0 4),
  (8, eM (.invokevirtual 90) 100 2 1 2 3 118),
  (11, eR (.ireturn) 0),
  (12, eP (.aload_n 0) 1),
  (13, eP (.lload_n 1) 1),
  (14, eP (.lload_n 3) 1),
  (15, eM (.invokevirtual 248) 104 3 0 7 3 707),
  (18, eC (.iconst 1) 1 0 1),
  (19, eR (.ireturn) 0)]
/-- X3_tellFraction -/
def k_104 : List (Nat × En) := [(0, eP (.lload_n 1) 1),
  (1, eM (.invokestatic 311) 994 1 2 0 9 711),
  (4, eP (.lload_n 3) 1),
  (5, eM (.invokestatic 316) 105 2 2 11 9 714),
  (8, eP (.lstore 5) 2),
  (10, eP (.lload 5) 2),
  (12, eL (.lconst 0) 1 0 0),
  (13, eP (.lcmp) 1),
  (14, eB (.ifCond .le 19) 33),
  (17, eP (.aload_n 0) 1),
  (18, eP (.lload_n 1) 1),
  (19, eP (.lload 5) 2),
  (21, eP (.ldiv) 1),
  (22, eF (.putfield 57) 3 10 1 32),
  (25, eP (.aload_n 0) 1),
  (26, eP (.lload_n 3) 1),
  (27, eP (.lload 5) 2),
  (29, eP (.ldiv) 1),
  (30, eF (.putfield 61) 3 11 1 33),
  (33, eR (.return_) 2)]
/-- X3_commonDivisor -/
def k_105 : List (Nat × En) := [(0, eP (.lload_n 0) 1),
  (1, eP (.lstore 4) 2),
  (3, eP (.lload_n 2) 1),
  (4, eP (.lstore 6) 2),
  (6, eC (.iconst 0) 1 0 0),
  (7, eP (.istore 8) 2),
  (9, eK [0, 0, 0, 0, 1, 0, 1, 0, 1, 0, 0] (eP (.iload 8) 2)),
  (11, eC (.sipush 200) 3 0 200),
  (14, eB (.if_icmp .ge 31) 45),
  (17, eP (.lload 6) 2),
  (19, eL (.lconst 0) 1 0 0),
  (20, eP (.lcmp) 1),
  (21, eB (.ifCond .eq 24) 45),
  (24, eP (.lload 4) 2),
  (26, eP (.lload 6) 2),
  (28, eP (.lrem) 1),
  (29, eP (.lstore 9) 2),
  (31, eP (.lload 6) 2),
  (33, eP (.lstore 4) 2),
  (35, eP (.lload 9) 2),
  (37, eP (.lstore 6) 2),
  (39, eC (.iinc 8 1) 3 0 1),
  (42, eB (.goto (-33)) 9),
  (45, eP (.lload 4) 2),
  (47, eR (.lreturn) 1)]
/-- X3_isSaying -/
def k_106 : List (Nat × En) := [(0, eP (.iload_n 0) 1),
  (1, eB (.ifCond .lt 13) 14),
  (4, eP (.iload_n 0) 1),
  (5, eC (.bipush 28) 2 0 28),
  (7, eB (.if_icmp .ge 7) 14),
  (10, eC (.iconst 1) 1 0 1),
  (11, eB (.goto 4) 15),
  (14, eC (.iconst 0) 1 0 0),
  (15, eR (.ireturn) 3)]
/-- X3_isTelling -/
def k_107 : List (Nat × En) := [(0, eP (.iload_n 0) 1),
  (1, eB (.ifCond .lt 12) 13),
  (4, eP (.iload_n 0) 1),
  (5, eC (.iconst 3) 1 0 3),
  (6, eB (.if_icmp .gt 7) 13),
  (9, eC (.iconst 1) 1 0 1),
  (10, eB (.goto 4) 14),
  (13, eC (.iconst 0) 1 0 0),
  (14, eR (.ireturn) 3)]
/-- X3_isName -/
def k_108 : List (Nat × En) := [(0, eP (.iload_n 1) 1),
  (1, eB (.ifCond .lt 15) 16),
  (4, eP (.iload_n 1) 1),
  (5, eP (.aload_n 0) 1),
  (6, eF (.getfield 46) 3 7 0 29),
  (9, eB (.if_icmp .ge 7) 16),
  (12, eC (.iconst 1) 1 0 1),
  (13, eB (.goto 4) 17),
  (16, eC (.iconst 0) 1 0 0),
  (17, eR (.ireturn) 3)]
/-- X3_isOfNames -/
def k_109 : List (Nat × En) := [(0, eP (.iload_n 0) 1),
  (1, eC (.iconst 4) 1 0 4),
  (2, eP (.irem) 1),
  (3, eP (.iload_n 1) 1),
  (4, eB (.if_icmp .ge 7) 11),
  (7, eC (.iconst 1) 1 0 1),
  (8, eB (.goto 4) 12),
  (11, eC (.iconst 0) 1 0 0),
  (12, eK [1, 1, 0] (eP (.istore_n 2) 1)),
  (13, eP (.iload_n 0) 1),
  (14, eC (.bipush 12) 2 0 12),
  (16, eB (.if_icmp .ge 5) 21),
  (19, eP (.iload_n 2) 1),
  (20, eR (.ireturn) 3),
  (21, eP (.iload_n 2) 1),
  (22, eB (.ifCond .eq 17) 39),
  (25, eP (.iload_n 0) 1),
  (26, eC (.bipush 12) 2 0 12),
  (28, eP (.isub) 1),
  (29, eC (.iconst 4) 1 0 4),
  (30, eP (.idiv) 1),
  (31, eP (.iload_n 1) 1),
  (32, eB (.if_icmp .ge 7) 39),
  (35, eC (.iconst 1) 1 0 1),
  (36, eB (.goto 4) 40),
  (39, eC (.iconst 0) 1 0 0),
  (40, eR (.ireturn) 3)]
/-- X3_withNamesChanged -/
def k_110 : List (Nat × En) := [(0, eP (.iload_n 0) 1),
  (1, eC (.iconst 4) 1 0 4),
  (2, eP (.irem) 1),
  (3, eP (.istore_n 3) 1),
  (4, eP (.iload_n 0) 1),
  (5, eP (.iload_n 3) 1),
  (6, eP (.isub) 1),
  (7, eP (.iload_n 3) 1),
  (8, eP (.iload_n 1) 1),
  (9, eP (.iload_n 2) 1),
  (10, eM (.invokestatic 320) 111 3 1 3 9 761),
  (13, eP (.iadd) 1),
  (14, eP (.istore 4) 2),
  (16, eP (.iload_n 0) 1),
  (17, eC (.bipush 12) 2 0 12),
  (19, eB (.if_icmp .ge 6) 25),
  (22, eP (.iload 4) 2),
  (24, eR (.ireturn) 0),
  (25, eP (.iload_n 0) 1),
  (26, eC (.bipush 12) 2 0 12),
  (28, eP (.isub) 1),
  (29, eC (.iconst 4) 1 0 4),
  (30, eP (.idiv) 1),
  (31, eP (.istore 5) 2),
  (33, eP (.iload 4) 2),
  (35, eC (.iconst 4) 1 0 4),
  (36, eP (.iload 5) 2),
  (38, eP (.iload_n 1) 1),
  (39, eP (.iload_n 2) 1),
  (40, eM (.invokestatic 320) 111 3 1 3 9 761),
  (43, eP (.iload 5) 2),
  (45, eP (.isub) 1),
  (46, eP (.imul) 1),
  (47, eP (.iadd) 1),
  (48, eR (.ireturn) 0)]
/-- X3_changedName -/
def k_111 : List (Nat × En) := [(0, eP (.iload_n 0) 1),
  (1, eP (.iload_n 1) 1),
  (2, eB (.if_icmp .ne 5) 7),
  (5, eP (.iload_n 2) 1),
  (6, eR (.ireturn) 0),
  (7, eP (.iload_n 0) 1),
  (8, eP (.iload_n 2) 1),
  (9, eB (.if_icmp .ne 7) 16),
  (12, eP (.iload_n 1) 1),
  (13, eB (.goto 4) 17),
  (16, eP (.iload_n 0) 1),
  (17, eR (.ireturn) 0)]
/-- X3_wouldSeekTooMany -/
def k_112 : List (Nat × En) := [(0, eP (.iload_n 2) 1),
  (1, eC (.iconst 3) 1 0 3),
  (2, eB (.if_icmp .ne 28) 30),
  (5, eP (.aload_n 0) 1),
  (6, eF (.getfield 21) 3 2 2 18),
  (9, eP (.iload_n 1) 1),
  (10, eP (.iaload) 1),
  (11, eC (.iconst 3) 1 0 3),
  (12, eB (.if_icmp .eq 18) 30),
  (15, eP (.aload_n 0) 1),
  (16, eC (.iconst 3) 1 0 3),
  (17, eC (.iconst 3) 1 0 3),
  (18, eM (.invokevirtual 163) 113 3 1 5 3 290),
  (21, eC (.bipush 10) 2 0 10),
  (23, eB (.if_icmp .lt 7) 30),
  (26, eC (.iconst 1) 1 0 1),
  (27, eB (.goto 4) 31),
  (30, eC (.iconst 0) 1 0 0),
  (31, eR (.ireturn) 3)]
/-- X3_countTold -/
def k_113 : List (Nat × En) := [(0, eC (.iconst 0) 1 0 0),
  (1, eP (.istore_n 3) 1),
  (2, eC (.iconst 0) 1 0 0),
  (3, eP (.istore 4) 2),
  (5, eP (.iload 4) 2),
  (7, eC (.bipush 28) 2 0 28),
  (9, eB (.if_icmp .ge 34) 43),
  (12, eP (.aload_n 0) 1),
  (13, eF (.getfield 21) 3 2 2 18),
  (16, eP (.iload 4) 2),
  (18, eP (.iaload) 1),
  (19, eP (.iload_n 1) 1),
  (20, eB (.if_icmp .lt 17) 37),
  (23, eP (.aload_n 0) 1),
  (24, eF (.getfield 21) 3 2 2 18),
  (27, eP (.iload 4) 2),
  (29, eP (.iaload) 1),
  (30, eP (.iload_n 2) 1),
  (31, eB (.if_icmp .gt 6) 37),
  (34, eC (.iinc 3 1) 3 0 1),
  (37, eC (.iinc 4 1) 3 0 1),
  (40, eB (.goto (-35)) 5),
  (43, eP (.iload_n 3) 1),
  (44, eR (.ireturn) 0)]
/-- X3_isLaw -/
def k_114 : List (Nat × En) := [(0, eP (.iload_n 0) 1),
  (1, eB (.ifCond .lt 13) 14),
  (4, eP (.iload_n 0) 1),
  (5, eC (.bipush 8) 2 0 8),
  (7, eB (.if_icmp .ge 7) 14),
  (10, eC (.iconst 1) 1 0 1),
  (11, eB (.goto 4) 15),
  (14, eC (.iconst 0) 1 0 0),
  (15, eR (.ireturn) 3)]
/-- X3_isKind -/
def k_115 : List (Nat × En) := [(0, eP (.iload_n 0) 1),
  (1, eB (.ifCond .lt 12) 13),
  (4, eP (.iload_n 0) 1),
  (5, eC (.iconst 4) 1 0 4),
  (6, eB (.if_icmp .gt 7) 13),
  (9, eC (.iconst 1) 1 0 1),
  (10, eB (.goto 4) 14),
  (13, eC (.iconst 0) 1 0 0),
  (14, eR (.ireturn) 3)]
/-- X3_isWeight -/
def k_116 : List (Nat × En) := [(0, eP (.iload_n 0) 1),
  (1, eB (.ifCond .lt 13) 14),
  (4, eP (.iload_n 0) 1),
  (5, eC (.bipush 9) 2 0 9),
  (7, eB (.if_icmp .gt 7) 14),
  (10, eC (.iconst 1) 1 0 1),
  (11, eB (.goto 4) 15),
  (14, eC (.iconst 0) 1 0 0),
  (15, eR (.ireturn) 3)]
/-- X3_isHard -/
def k_117 : List (Nat × En) := [(0, eP (.iload_n 0) 1),
  (1, eC (.iconst 1) 1 0 1),
  (2, eB (.if_icmp .eq 8) 10),
  (5, eP (.iload_n 0) 1),
  (6, eC (.iconst 4) 1 0 4),
  (7, eB (.if_icmp .ne 7) 14),
  (10, eC (.iconst 1) 1 0 1),
  (11, eB (.goto 4) 15),
  (14, eC (.iconst 0) 1 0 0),
  (15, eR (.ireturn) 3)]
/-- X3_isSoft -/
def k_118 : List (Nat × En) := [(0, eP (.iload_n 0) 1),
  (1, eC (.iconst 2) 1 0 2),
  (2, eB (.if_icmp .eq 8) 10),
  (5, eP (.iload_n 0) 1),
  (6, eC (.iconst 3) 1 0 3),
  (7, eB (.if_icmp .ne 7) 14),
  (10, eC (.iconst 1) 1 0 1),
  (11, eB (.goto 4) 15),
  (14, eC (.iconst 0) 1 0 0),
  (15, eR (.ireturn) 3)]
/-- X3_isOfKind -/
def k_119 : List (Nat × En) := [(0, eP (.iload_n 1) 1),
  (1, eS (.lookupswitch 43 #[(1, 27), (2, 35)]) 27 44 [(1, 28), (2, 36)]),
  (28, eP (.aload_n 0) 1),
  (29, eF (.getfield 149) 0 1 0 10006),
  (32, eM (.invokestatic 323) 117 1 1 1 9 494),
  (35, eR (.ireturn) 3),
  (36, eP (.aload_n 0) 1),
  (37, eF (.getfield 149) 0 1 0 10006),
  (40, eM (.invokestatic 134) 118 1 1 1 9 415),
  (43, eR (.ireturn) 3),
  (44, eP (.aload_n 0) 1),
  (45, eF (.getfield 149) 0 1 0 10006),
  (48, eP (.iload_n 1) 1),
  (49, eB (.if_icmp .ne 7) 56),
  (52, eC (.iconst 1) 1 0 1),
  (53, eB (.goto 4) 57),
  (56, eC (.iconst 0) 1 0 0),
  (57, eR (.ireturn) 3)]
/-- X3_markOf -/
def k_120 : List (Nat × En) := [(0, eP (.iload_n 1) 1),
  (1, eS (.tableswitch 54 1 4 #[31, 36, 41, 46]) 31 55 [(1, 32), (2, 37), (3, 42), (4, 47)]),
  (32, eP (.aload_n 0) 1),
  (33, eM (.invokevirtual 326) 35 1 1 3 0 500),
  (36, eR (.ireturn) 0),
  (37, eP (.aload_n 0) 1),
  (38, eF (.getfield 143) 0 2 0 10008),
  (41, eR (.ireturn) 0),
  (42, eP (.aload_n 0) 1),
  (43, eF (.getfield 329) 0 3 0 10009),
  (46, eR (.ireturn) 0),
  (47, eP (.aload_n 0) 1),
  (48, eC (.iconst 0) 1 0 0),
  (49, eC (.iconst 0) 1 0 0),
  (50, eC (.iconst 0) 1 0 0),
  (51, eM (.invokevirtual 332) 36 4 1 5 0 504),
  (54, eR (.ireturn) 0),
  (55, eC (.iconst 0) 1 0 0),
  (56, eR (.ireturn) 0)]
/-- X3_toldOf -/
def k_121 : List (Nat × En) := [(0, eP (.iload_n 2) 1),
  (1, eS (.lookupswitch 37 #[(0, 27), (1, 32)]) 27 38 [(0, 28), (1, 33)]),
  (28, eP (.aload_n 1) 1),
  (29, eF (.getfield 149) 0 1 0 10006),
  (32, eR (.ireturn) 0),
  (33, eP (.aload_n 1) 1),
  (34, eF (.getfield 335) 0 4 0 10010),
  (37, eR (.ireturn) 0),
  (38, eP (.aload_n 1) 1),
  (39, eP (.aload_n 0) 1),
  (40, eF (.getfield 46) 3 7 0 29),
  (43, eM (.invokevirtual 146) 33 2 1 2 0 421),
  (46, eR (.ireturn) 0)]
/-- X3_countLaws -/
def k_122 : List (Nat × En) := [(0, eC (.iconst 0) 1 0 0),
  (1, eP (.istore_n 2) 1),
  (2, eC (.iconst 0) 1 0 0),
  (3, eP (.istore_n 3) 1),
  (4, eP (.iload_n 3) 1),
  (5, eC (.bipush 8) 2 0 8),
  (7, eB (.if_icmp .ge 43) 50),
  (10, eP (.aload_n 0) 1),
  (11, eF (.getfield 27) 3 3 2 20),
  (14, eP (.iload_n 3) 1),
  (15, eP (.aaload) 1),
  (16, eF (.getfield 140) 0 0 3 10004),
  (19, eB (.ifCond .eq 25) 44),
  (22, eP (.iload_n 1) 1),
  (23, eB (.ifCond .eq 18) 41),
  (26, eP (.aload_n 0) 1),
  (27, eF (.getfield 27) 3 3 2 20),
  (30, eP (.iload_n 3) 1),
  (31, eP (.aaload) 1),
  (32, eF (.getfield 149) 0 1 0 10006),
  (35, eM (.invokestatic 323) 117 1 1 1 9 494),
  (38, eB (.ifCond .eq 6) 44),
  (41, eC (.iinc 2 1) 3 0 1),
  (44, eC (.iinc 3 1) 3 0 1),
  (47, eB (.goto (-43)) 4),
  (50, eP (.iload_n 2) 1),
  (51, eR (.ireturn) 0)]
/-- X3_digestOfLaw -/
def k_123 : List (Nat × En) := [(0, eP (.aload_n 3) 1),
  (1, eF (.getfield 140) 0 0 3 10004),
  (4, eB (.ifCond .ne 11) 15),
  (7, eL (.ldc2_w 295) 3 1035 31),
  (10, eP (.lload_n 1) 1),
  (11, eP (.lmul) 1),
  (12, eL (.lconst 1) 1 0 1),
  (13, eP (.lsub) 1),
  (14, eR (.lreturn) 1),
  (15, eP (.lload_n 1) 1),
  (16, eP (.lstore 4) 2),
  (18, eC (.iconst 0) 1 0 0),
  (19, eP (.istore 6) 2),
  (21, eK [1, 0, 0, 1, 1, 0, 1] (eP (.iload 6) 2)),
  (23, eC (.iconst 2) 1 0 2),
  (24, eB (.if_icmp .gt 26) 50),
  (27, eL (.ldc2_w 295) 3 1035 31),
  (30, eP (.lload 4) 2),
  (32, eP (.lmul) 1),
  (33, eP (.aload_n 0) 1),
  (34, eP (.aload_n 3) 1),
  (35, eP (.iload 6) 2),
  (37, eM (.invokevirtual 152) 121 3 1 3 3 475),
  (40, eP (.i2l) 1),
  (41, eP (.ladd) 1),
  (42, eP (.lstore 4) 2),
  (44, eC (.iinc 6 1) 3 0 1),
  (47, eB (.goto (-26)) 21),
  (50, eL (.ldc2_w 295) 3 1035 31),
  (53, eP (.lload 4) 2),
  (55, eP (.lmul) 1),
  (56, eP (.aload_n 3) 1),
  (57, eP (.aload_n 3) 1),
  (58, eF (.getfield 149) 0 1 0 10006),
  (61, eM (.invokestatic 160) 120 2 1 2 9 497),
  (64, eP (.i2l) 1),
  (65, eP (.ladd) 1),
  (66, eR (.lreturn) 1)]
/-- X3_areThere -/
def k_124 : List (Nat × En) := [(0, eC (.iconst 0) 1 0 0),
  (1, eP (.istore_n 2) 1),
  (2, eP (.iload_n 2) 1),
  (3, eC (.bipush 8) 2 0 8),
  (5, eB (.if_icmp .ge 31) 36),
  (8, eP (.iload_n 1) 1),
  (9, eP (.iload_n 2) 1),
  (10, eP (.ishr) 1),
  (11, eC (.iconst 1) 1 0 1),
  (12, eP (.iand) 1),
  (13, eB (.ifCond .eq 17) 30),
  (16, eP (.aload_n 0) 1),
  (17, eF (.getfield 27) 3 3 2 20),
  (20, eP (.iload_n 2) 1),
  (21, eP (.aaload) 1),
  (22, eF (.getfield 140) 0 0 3 10004),
  (25, eB (.ifCond .ne 5) 30),
  (28, eC (.iconst 0) 1 0 0),
  (29, eR (.ireturn) 3),
  (30, eC (.iinc 2 1) 3 0 1),
  (33, eB (.goto (-31)) 2),
  (36, eC (.iconst 1) 1 0 1),
  (37, eR (.ireturn) 3)]
/-- X3_isWorld -/
def k_125 : List (Nat × En) := [(0, eP (.iload_n 1) 1),
  (1, eB (.ifCond .lt 19) 20),
  (4, eP (.iload_n 1) 1),
  (5, eC (.iconst 1) 1 0 1),
  (6, eP (.aload_n 0) 1),
  (7, eC (.iconst 3) 1 0 3),
  (8, eC (.iconst 3) 1 0 3),
  (9, eM (.invokevirtual 163) 113 3 1 5 3 290),
  (12, eP (.ishl) 1),
  (13, eB (.if_icmp .ge 7) 20),
  (16, eC (.iconst 1) 1 0 1),
  (17, eB (.goto 4) 21),
  (20, eC (.iconst 0) 1 0 0),
  (21, eR (.ireturn) 3)]
/-- X3_survey -/
def k_126 : List (Nat × En) := [(0, eP (.aload_n 0) 1),
  (1, eF (.getfield 50) 3 8 3 30),
  (4, eB (.ifCond .eq 27) 31),
  (7, eP (.aload_n 0) 1),
  (8, eF (.getfield 34) 3 4 2 24),
  (11, eP (.aload_n 0) 1),
  (12, eF (.getfield 21) 3 2 2 18),
  (15, eP (.aload_n 0) 1),
  (16, eF (.getfield 46) 3 7 0 29),
  (19, eP (.aload_n 0) 1),
  (20, eF (.getfield 27) 3 3 2 20),
  (23, eM (.invokevirtual 338) 39 4 0 5 2 548),
  (26, eP (.aload_n 0) 1),
  (27, eC (.iconst 0) 1 0 0),
  (28, eF (.putfield 50) 3 8 3 30),
  (31, eP (.aload_n 0) 1),
  (32, eF (.getfield 34) 3 4 2 24),
  (35, eP (.aload_n 0) 1),
  (36, eF (.getfield 27) 3 3 2 20),
  (39, eP (.iload_n 1) 1),
  (40, eM (.invokevirtual 342) 45 3 0 7 2 586),
  (43, eR (.return_) 2)]
/-- X3_surveyTold -/
def k_127 : List (Nat × En) := [(0, eP (.aload_n 0) 1),
  (1, eF (.getfield 21) 3 2 2 18),
  (4, eP (.iload_n 1) 1),
  (5, eP (.iaload) 1),
  (6, eP (.istore_n 3) 1),
  (7, eP (.aload_n 0) 1),
  (8, eF (.getfield 21) 3 2 2 18),
  (11, eP (.iload_n 1) 1),
  (12, eP (.iload_n 2) 1),
  (13, eP (.iastore) 1),
  (14, eP (.aload_n 0) 1),
  (15, eC (.iconst 1) 1 0 1),
  (16, eF (.putfield 50) 3 8 3 30),
  (19, eP (.aload_n 0) 1),
  (20, eC (.iconst 0) 1 0 0),
  (21, eM (.invokevirtual 169) 126 2 0 2 3 544),
  (24, eP (.aload_n 0) 1),
  (25, eF (.getfield 21) 3 2 2 18),
  (28, eP (.iload_n 1) 1),
  (29, eP (.iload_n 3) 1),
  (30, eP (.iastore) 1),
  (31, eP (.aload_n 0) 1),
  (32, eC (.iconst 1) 1 0 1),
  (33, eF (.putfield 50) 3 8 3 30),
  (36, eR (.return_) 2)]
/-- X3_fallOfCost -/
def k_128 : List (Nat × En) := [(0, eP (.iload_n 0) 1),
  (1, eC (.ldc_w 346) 3 953 1000000),
  (4, eB (.if_icmp .ne 14) 18),
  (7, eP (.iload_n 1) 1),
  (8, eC (.ldc_w 346) 3 953 1000000),
  (11, eB (.if_icmp .eq 7) 18),
  (14, eC (.sipush 1000) 3 0 1000),
  (17, eR (.ireturn) 0),
  (18, eP (.iload_n 0) 1),
  (19, eP (.iload_n 1) 1),
  (20, eP (.isub) 1),
  (21, eR (.ireturn) 0)]
/-- X3_isUnlikelyWithout -/
def k_129 : List (Nat × En) := [(0, eP (.aload_n 0) 1),
  (1, eP (.iload_n 1) 1),
  (2, eM (.invokevirtual 169) 126 2 0 2 3 544),
  (5, eL (.ldc2_w 347) 3 882 2),
  (8, eP (.aload_n 0) 1),
  (9, eF (.getfield 34) 3 4 2 24),
  (12, eC (.iconst 1) 1 0 1),
  (13, eP (.iload_n 2) 1),
  (14, eP (.ishl) 1),
  (15, eM (.invokevirtual 195) 56 2 2 5 2 699),
  (18, eP (.lmul) 1),
  (19, eP (.aload_n 0) 1),
  (20, eF (.getfield 34) 3 4 2 24),
  (23, eF (.getfield 198) 2 9 1 10002),
  (26, eP (.lcmp) 1),
  (27, eB (.ifCond .gt 7) 34),
  (30, eC (.iconst 1) 1 0 1),
  (31, eB (.goto 4) 35),
  (34, eC (.iconst 0) 1 0 0),
  (35, eR (.ireturn) 3)]
/-- X3_nextNumber -/
def k_130 : List (Nat × En) := [(0, eP (.iload_n 0) 1),
  (1, eC (.ldc_w 349) 3 779 1103515245),
  (4, eP (.imul) 1),
  (5, eC (.sipush 12345) 3 0 12345),
  (8, eP (.iadd) 1),
  (9, eR (.ireturn) 0)]
/-- X3_fifteenBits -/
def k_131 : List (Nat × En) := [(0, eP (.iload_n 0) 1),
  (1, eC (.bipush 16) 2 0 16),
  (3, eP (.iushr) 1),
  (4, eC (.sipush 32767) 3 0 32767),
  (7, eP (.iand) 1),
  (8, eR (.ireturn) 0)]
/-- X3_findingOfLearned -/
def k_132 : List (Nat × En) := [(0, eP (.aload_n 0) 1),
  (1, eP (.iload_n 1) 1),
  (2, eM (.invokevirtual 255) 124 2 1 3 3 812),
  (5, eB (.ifCond .ne 5) 10),
  (8, eC (.iconst 1) 1 0 1),
  (9, eR (.ireturn) 0),
  (10, eC (.iconst 0) 1 0 0),
  (11, eP (.istore_n 2) 1),
  (12, eP (.iload_n 2) 1),
  (13, eC (.bipush 8) 2 0 8),
  (15, eB (.if_icmp .ge 34) 49),
  (18, eP (.iload_n 1) 1),
  (19, eP (.iload_n 2) 1),
  (20, eP (.ishr) 1),
  (21, eC (.iconst 1) 1 0 1),
  (22, eP (.iand) 1),
  (23, eB (.ifCond .eq 20) 43),
  (26, eP (.aload_n 0) 1),
  (27, eF (.getfield 27) 3 3 2 20),
  (30, eP (.iload_n 2) 1),
  (31, eP (.aaload) 1),
  (32, eF (.getfield 149) 0 1 0 10006),
  (35, eM (.invokestatic 134) 118 1 1 1 9 415),
  (38, eB (.ifCond .ne 5) 43),
  (41, eC (.iconst 3) 1 0 3),
  (42, eR (.ireturn) 0),
  (43, eC (.iinc 2 1) 3 0 1),
  (46, eB (.goto (-34)) 12),
  (49, eC (.iconst 0) 1 0 0),
  (50, eR (.ireturn) 0)]
/-- X3_bestCode -/
def k_133 : List (Nat × En) := [(0, eC (.iconst 0) 1 0 0),
  (1, eP (.istore 4) 2),
  (3, eC (.iconst 0) 1 0 0),
  (4, eP (.istore 5) 2),
  (6, eL (.lconst 0) 1 0 0),
  (7, eP (.lstore 6) 2),
  (9, eC (.iconst 1) 1 0 1),
  (10, eC (.iconst 2) 1 0 2),
  (11, eP (.iload_n 2) 1),
  (12, eM (.invokestatic 227) 1 1 1 1 9 801),
  (15, eP (.imul) 1),
  (16, eP (.ishl) 1),
  (17, eP (.istore 8) 2),
  (19, eC (.iconst 0) 1 0 0),
  (20, eP (.istore 9) 2),
  (22, eK [1, 1, 1, 1, 1, 1, 1, 0, 1, 1, 0, 0] (eP (.iload 9) 2)),
  (24, eP (.iload 8) 2),
  (26, eB (.if_icmp .ge 118) 144),
  (29, eP (.aload_n 0) 1),
  (30, eP (.iload_n 2) 1),
  (31, eP (.iload 9) 2),
  (33, eM (.invokevirtual 241) 135 3 0 5 3 821),
  (36, eP (.aload_n 0) 1),
  (37, eC (.iconst 0) 1 0 0),
  (38, eM (.invokevirtual 169) 126 2 0 2 3 544),
  (41, eP (.aload_n 0) 1),
  (42, eF (.getfield 34) 3 4 2 24),
  (45, eP (.iload_n 1) 1),
  (46, eM (.invokevirtual 350) 54 2 1 3 2 825),
  (49, eP (.istore 10) 2),
  (51, eP (.iload 10) 2),
  (53, eC (.sipush (-1000)) 3 0 (-1000)),
  (56, eB (.if_icmp .eq 15) 71),
  (59, eP (.iload 10) 2),
  (61, eP (.iload_n 3) 1),
  (62, eP (.iload 9) 2),
  (64, eM (.invokestatic 353) 136 1 1 1 9 826),
  (67, eP (.imul) 1),
  (68, eP (.isub) 1),
  (69, eP (.istore 10) 2),
  (71, eK [1, 1, 1, 1, 1, 1, 1, 0, 1, 1, 1, 0] (eP (.iload 9) 2)),
  (73, eB (.ifCond .ne 7) 80),
  (76, eC (.iconst 1) 1 0 1),
  (77, eB (.goto 19) 96),
  (80, eP (.iload 10) 2),
  (82, eP (.aload_n 0) 1),
  (83, eF (.getfield 34) 3 4 2 24),
  (86, eF (.getfield 198) 2 9 1 10002),
  (89, eP (.iload 5) 2),
  (91, eP (.lload 6) 2),
  (93, eM (.invokestatic 355) 134 4 1 7 9 829),
  (96, eK [1, 1, 1, 1, 1, 1, 1, 0, 1, 1, 1, 0] (eP (.istore 11) 2)),
  (98, eP (.iload 11) 2),
  (100, eB (.ifCond .gt 21) 121),
  (103, eP (.iload 11) 2),
  (105, eB (.ifCond .ne 33) 138),
  (108, eP (.iload 9) 2),
  (110, eM (.invokestatic 353) 136 1 1 1 9 826),
  (113, eP (.iload 4) 2),
  (115, eM (.invokestatic 353) 136 1 1 1 9 826),
  (118, eB (.if_icmp .ge 20) 138),
  (121, eP (.iload 9) 2),
  (123, eP (.istore 4) 2),
  (125, eP (.iload 10) 2),
  (127, eP (.istore 5) 2),
  (129, eP (.aload_n 0) 1),
  (130, eF (.getfield 34) 3 4 2 24),
  (133, eF (.getfield 198) 2 9 1 10002),
  (136, eP (.lstore 6) 2),
  (138, eC (.iinc 9 1) 3 0 1),
  (141, eB (.goto (-119)) 22),
  (144, eP (.iload 4) 2),
  (146, eR (.ireturn) 0)]
/-- X3_compareParts -/
def k_134 : List (Nat × En) := [(0, eP (.iload_n 0) 1),
  (1, eC (.sipush (-1000)) 3 0 (-1000)),
  (4, eB (.if_icmp .eq 10) 14),
  (7, eP (.iload_n 3) 1),
  (8, eC (.sipush (-1000)) 3 0 (-1000)),
  (11, eB (.if_icmp .ne 9) 20),
  (14, eP (.iload_n 0) 1),
  (15, eP (.iload_n 3) 1),
  (16, eM (.invokestatic 359) 0 2 1 2 9 838),
  (19, eR (.ireturn) 0),
  (20, eP (.iload_n 0) 1),
  (21, eP (.iload_n 3) 1),
  (22, eP (.isub) 1),
  (23, eM (.invokestatic 362) 993 1 1 0 9 832),
  (26, eC (.bipush 31) 2 0 31),
  (28, eM (.invokestatic 364) 996 2 1 0 9 835),
  (31, eP (.istore 6) 2),
  (33, eP (.iload_n 0) 1),
  (34, eP (.iload_n 3) 1),
  (35, eB (.if_icmp .lt 13) 48),
  (38, eP (.lload 4) 2),
  (40, eP (.iload 6) 2),
  (42, eP (.lshl) 1),
  (43, eP (.lload_n 1) 1),
  (44, eM (.invokestatic 367) 2 2 1 4 9 841),
  (47, eR (.ireturn) 0),
  (48, eP (.lload 4) 2),
  (50, eP (.lload_n 1) 1),
  (51, eP (.iload 6) 2),
  (53, eP (.lshl) 1),
  (54, eM (.invokestatic 367) 2 2 1 4 9 841),
  (57, eR (.ireturn) 0)]
/-- X3_setWeights -/
def k_135 : List (Nat × En) := [(0, eP (.iload_n 2) 1),
  (1, eP (.istore_n 3) 1),
  (2, eC (.bipush 7) 2 0 7),
  (4, eP (.istore 4) 2),
  (6, eK [1, 1, 0, 1, 1] (eP (.iload 4) 2)),
  (8, eB (.ifCond .lt 35) 43),
  (11, eP (.iload_n 1) 1),
  (12, eP (.iload 4) 2),
  (14, eP (.ishr) 1),
  (15, eC (.iconst 1) 1 0 1),
  (16, eP (.iand) 1),
  (17, eB (.ifCond .eq 20) 37),
  (20, eP (.aload_n 0) 1),
  (21, eF (.getfield 27) 3 3 2 20),
  (24, eP (.iload 4) 2),
  (26, eP (.aaload) 1),
  (27, eP (.iload_n 3) 1),
  (28, eC (.iconst 3) 1 0 3),
  (29, eP (.iand) 1),
  (30, eF (.putfield 143) 0 2 0 10008),
  (33, eP (.iload_n 3) 1),
  (34, eC (.iconst 2) 1 0 2),
  (35, eP (.ishr) 1),
  (36, eP (.istore_n 3) 1),
  (37, eC (.iinc 4 (-1)) 3 0 (-1)),
  (40, eB (.goto (-34)) 6),
  (43, eR (.return_) 2)]
/-- X3_sumOf -/
def k_136 : List (Nat × En) := [(0, eP (.iload_n 0) 1),
  (1, eC (.iconst 3) 1 0 3),
  (2, eP (.iand) 1),
  (3, eP (.iload_n 0) 1),
  (4, eC (.iconst 2) 1 0 2),
  (5, eP (.ishr) 1),
  (6, eC (.iconst 3) 1 0 3),
  (7, eP (.iand) 1),
  (8, eP (.iadd) 1),
  (9, eP (.iload_n 0) 1),
  (10, eC (.iconst 4) 1 0 4),
  (11, eP (.ishr) 1),
  (12, eC (.iconst 3) 1 0 3),
  (13, eP (.iand) 1),
  (14, eP (.iadd) 1),
  (15, eR (.ireturn) 0)]
/-- X3_figuresOf -/
def k_137 : List (Nat × En) := [(0, eC (.bipush 100) 2 0 100),
  (2, eP (.iload_n 0) 1),
  (3, eC (.iconst 4) 1 0 4),
  (4, eP (.ishr) 1),
  (5, eC (.iconst 3) 1 0 3),
  (6, eP (.iand) 1),
  (7, eP (.imul) 1),
  (8, eC (.bipush 10) 2 0 10),
  (10, eP (.iload_n 0) 1),
  (11, eC (.iconst 2) 1 0 2),
  (12, eP (.ishr) 1),
  (13, eC (.iconst 3) 1 0 3),
  (14, eP (.iand) 1),
  (15, eP (.imul) 1),
  (16, eP (.iadd) 1),
  (17, eP (.iload_n 0) 1),
  (18, eC (.iconst 3) 1 0 3),
  (19, eP (.iand) 1),
  (20, eP (.iadd) 1),
  (21, eR (.ireturn) 0)]
/-- X3_surveyForActs -/
def k_138 : List (Nat × En) := [(0, eP (.aload_n 0) 1),
  (1, eP (.iload_n 1) 1),
  (2, eM (.invokevirtual 371) 139 2 1 4 3 909),
  (5, eP (.istore_n 2) 1),
  (6, eP (.iload_n 2) 1),
  (7, eB (.ifCond .eq 5) 12),
  (10, eP (.iload_n 2) 1),
  (11, eR (.ireturn) 0),
  (12, eP (.aload_n 0) 1),
  (13, eC (.iconst 0) 1 0 0),
  (14, eM (.invokevirtual 169) 126 2 0 2 3 544),
  (17, eP (.aload_n 0) 1),
  (18, eF (.getfield 34) 3 4 2 24),
  (21, eM (.invokevirtual 182) 50 1 1 1 2 656),
  (24, eB (.ifCond .eq 7) 31),
  (27, eC (.iconst 4) 1 0 4),
  (28, eB (.goto 4) 32),
  (31, eC (.iconst 0) 1 0 0),
  (32, eR (.ireturn) 0)]
/-- X3_findingOfWorths -/
def k_139 : List (Nat × En) := [(0, eP (.aload_n 0) 1),
  (1, eF (.getfield 14) 3 0 2 15),
  (4, eP (.iload_n 1) 1),
  (5, eM (.invokevirtual 87) 10 2 1 2 1 150),
  (8, eB (.ifCond .ne 5) 13),
  (11, eC (.iconst 1) 1 0 1),
  (12, eR (.ireturn) 0),
  (13, eP (.aload_n 0) 1),
  (14, eF (.getfield 14) 3 0 2 15),
  (17, eP (.iload_n 1) 1),
  (18, eM (.invokevirtual 105) 11 2 1 2 1 226),
  (21, eB (.ifCond .eq 16) 37),
  (24, eP (.aload_n 0) 1),
  (25, eF (.getfield 14) 3 0 2 15),
  (28, eP (.iload_n 1) 1),
  (29, eM (.invokevirtual 105) 11 2 1 2 1 226),
  (32, eC (.iconst 2) 1 0 2),
  (33, eP (.irem) 1),
  (34, eB (.ifCond .eq 5) 39),
  (37, eC (.iconst 5) 1 0 5),
  (38, eR (.ireturn) 0),
  (39, eC (.iconst 0) 1 0 0),
  (40, eP (.istore_n 2) 1),
  (41, eK [1, 1, 1, 0] (eP (.iload_n 2) 1)),
  (42, eP (.aload_n 0) 1),
  (43, eF (.getfield 14) 3 0 2 15),
  (46, eP (.iload_n 1) 1),
  (47, eM (.invokevirtual 105) 11 2 1 2 1 226),
  (50, eB (.if_icmp .ge 33) 83),
  (53, eP (.aload_n 0) 1),
  (54, eF (.getfield 14) 3 0 2 15),
  (57, eP (.iload_n 1) 1),
  (58, eP (.iload_n 2) 1),
  (59, eM (.invokevirtual 75) 15 3 1 3 1 159),
  (62, eP (.istore_n 3) 1),
  (63, eP (.iload_n 3) 1),
  (64, eC (.bipush (-99)) 2 0 (-99)),
  (66, eB (.if_icmp .lt 9) 75),
  (69, eP (.iload_n 3) 1),
  (70, eC (.bipush 99) 2 0 99),
  (72, eB (.if_icmp .le 5) 77),
  (75, eC (.iconst 3) 1 0 3),
  (76, eR (.ireturn) 0),
  (77, eC (.iinc 2 1) 3 0 1),
  (80, eB (.goto (-39)) 41),
  (83, eC (.iconst 0) 1 0 0),
  (84, eR (.ireturn) 0)]
/-- X3_findingOfHeld -/
def k_140 : List (Nat × En) := [(0, eP (.aload_n 0) 1),
  (1, eF (.getfield 14) 3 0 2 15),
  (4, eP (.iload_n 1) 1),
  (5, eM (.invokevirtual 87) 10 2 1 2 1 150),
  (8, eB (.ifCond .ne 5) 13),
  (11, eC (.iconst 1) 1 0 1),
  (12, eR (.ireturn) 0),
  (13, eP (.aload_n 0) 1),
  (14, eF (.getfield 14) 3 0 2 15),
  (17, eP (.iload_n 1) 1),
  (18, eM (.invokevirtual 105) 11 2 1 2 1 226),
  (21, eC (.iconst 2) 1 0 2),
  (22, eP (.irem) 1),
  (23, eB (.ifCond .eq 5) 28),
  (26, eC (.iconst 5) 1 0 5),
  (27, eR (.ireturn) 0),
  (28, eC (.iconst 0) 1 0 0),
  (29, eP (.istore_n 2) 1),
  (30, eK [1, 1, 1, 0] (eP (.iload_n 2) 1)),
  (31, eP (.aload_n 0) 1),
  (32, eF (.getfield 14) 3 0 2 15),
  (35, eP (.iload_n 1) 1),
  (36, eM (.invokevirtual 105) 11 2 1 2 1 226),
  (39, eB (.if_icmp .ge 49) 88),
  (42, eP (.iload_n 2) 1),
  (43, eC (.iconst 2) 1 0 2),
  (44, eP (.irem) 1),
  (45, eB (.ifCond .ne 8) 53),
  (48, eC (.bipush 10) 2 0 10),
  (50, eB (.goto 4) 54),
  (53, eC (.iconst 1) 1 0 1),
  (54, eK [1, 1, 1, 0] (eP (.istore_n 3) 1)),
  (55, eP (.aload_n 0) 1),
  (56, eF (.getfield 14) 3 0 2 15),
  (59, eP (.iload_n 1) 1),
  (60, eP (.iload_n 2) 1),
  (61, eM (.invokevirtual 75) 15 3 1 3 1 159),
  (64, eB (.ifCond .lt 16) 80),
  (67, eP (.aload_n 0) 1),
  (68, eF (.getfield 14) 3 0 2 15),
  (71, eP (.iload_n 1) 1),
  (72, eP (.iload_n 2) 1),
  (73, eM (.invokevirtual 75) 15 3 1 3 1 159),
  (76, eP (.iload_n 3) 1),
  (77, eB (.if_icmp .le 5) 82),
  (80, eC (.iconst 3) 1 0 3),
  (81, eR (.ireturn) 0),
  (82, eC (.iinc 2 1) 3 0 1),
  (85, eB (.goto (-55)) 30),
  (88, eC (.iconst 0) 1 0 0),
  (89, eR (.ireturn) 0)]
/-- X3_worthOf -/
def k_141 : List (Nat × En) := [(0, eP (.aload_n 0) 1),
  (1, eF (.getfield 14) 3 0 2 15),
  (4, eP (.iload_n 1) 1),
  (5, eC (.iconst 2) 1 0 2),
  (6, eP (.iload_n 2) 1),
  (7, eP (.imul) 1),
  (8, eM (.invokevirtual 75) 15 3 1 3 1 159),
  (11, eP (.i2l) 1),
  (12, eP (.lload_n 3) 1),
  (13, eP (.lmul) 1),
  (14, eP (.aload_n 0) 1),
  (15, eF (.getfield 14) 3 0 2 15),
  (18, eP (.iload_n 1) 1),
  (19, eC (.iconst 2) 1 0 2),
  (20, eP (.iload_n 2) 1),
  (21, eP (.imul) 1),
  (22, eC (.iconst 1) 1 0 1),
  (23, eP (.iadd) 1),
  (24, eM (.invokevirtual 75) 15 3 1 3 1 159),
  (27, eP (.i2l) 1),
  (28, eP (.lload 5) 2),
  (30, eP (.lmul) 1),
  (31, eP (.ladd) 1),
  (32, eR (.lreturn) 1)]
/-- X3_bestAct -/
def k_142 : List (Nat × En) := [(0, eC (.iconst 0) 1 0 0),
  (1, eP (.istore 6) 2),
  (3, eC (.iconst 1) 1 0 1),
  (4, eP (.istore 7) 2),
  (6, eK [1, 1, 1, 0, 1, 0, 1, 1] (eP (.iload 7) 2)),
  (8, eP (.aload_n 0) 1),
  (9, eF (.getfield 14) 3 0 2 15),
  (12, eP (.iload_n 1) 1),
  (13, eM (.invokevirtual 105) 11 2 1 2 1 226),
  (16, eC (.iconst 2) 1 0 2),
  (17, eP (.idiv) 1),
  (18, eB (.if_icmp .ge 37) 55),
  (21, eP (.aload_n 0) 1),
  (22, eP (.iload_n 1) 1),
  (23, eP (.iload 7) 2),
  (25, eP (.lload_n 2) 1),
  (26, eP (.lload 4) 2),
  (28, eM (.invokevirtual 271) 141 5 2 7 3 917),
  (31, eP (.aload_n 0) 1),
  (32, eP (.iload_n 1) 1),
  (33, eP (.iload 6) 2),
  (35, eP (.lload_n 2) 1),
  (36, eP (.lload 4) 2),
  (38, eM (.invokevirtual 271) 141 5 2 7 3 917),
  (41, eP (.lcmp) 1),
  (42, eB (.ifCond .le 7) 49),
  (45, eP (.iload 7) 2),
  (47, eP (.istore 6) 2),
  (49, eC (.iinc 7 1) 3 0 1),
  (52, eB (.goto (-46)) 6),
  (55, eP (.iload 6) 2),
  (57, eR (.ireturn) 0)]
/-- X3_greatestWorth -/
def k_143 : List (Nat × En) := [(0, eP (.aload_n 0) 1),
  (1, eP (.iload_n 1) 1),
  (2, eP (.aload_n 0) 1),
  (3, eP (.iload_n 1) 1),
  (4, eP (.lload_n 2) 1),
  (5, eP (.lload 4) 2),
  (7, eM (.invokevirtual 267) 142 4 1 8 3 913),
  (10, eP (.lload_n 2) 1),
  (11, eP (.lload 4) 2),
  (13, eM (.invokevirtual 271) 141 5 2 7 3 917),
  (16, eR (.lreturn) 1)]
/-- X4_in -/
def k_144 : List (Nat × En) := [(0, eP (.iload_n 0) 1),
  (1, eP (.iload_n 1) 1),
  (2, eB (.if_icmp .lt 12) 14),
  (5, eP (.iload_n 0) 1),
  (6, eP (.iload_n 2) 1),
  (7, eB (.if_icmp .gt 7) 14),
  (10, eC (.iconst 1) 1 0 1),
  (11, eB (.goto 4) 15),
  (14, eC (.iconst 0) 1 0 0),
  (15, eR (.ireturn) 3)]
/-- X4_meets -/
def k_145 : List (Nat × En) := [(0, eP (.aload_n 0) 1),
  (1, eP (.iload_n 1) 1),
  (2, eF (.putfield 89) 4 0 0 141),
  (5, eP (.aload_n 0) 1),
  (6, eF (.getfield 7) 4 1 2 81),
  (9, eP (.iload_n 1) 1),
  (10, eP (.dup2) 1),
  (11, eP (.iaload) 1),
  (12, eC (.iconst 1) 1 0 1),
  (13, eP (.iadd) 1),
  (14, eP (.iastore) 1),
  (15, eC (.bipush (-3)) 2 0 (-3)),
  (17, eR (.ireturn) 0)]
/-- X4_ask -/
def k_146 : List (Nat × En) := [(0, eP (.aload_n 0) 1),
  (1, eP (.iload_n 1) 1),
  (2, eF (.putfield 92) 4 2 0 188),
  (5, eP (.iload_n 2) 1),
  (6, eR (.ireturn) 0)]
/-- X4_has -/
def k_147 : List (Nat × En) := [(0, eP (.iload_n 0) 1),
  (1, eP (.iload_n 1) 1),
  (2, eP (.ishr) 1),
  (3, eC (.iconst 1) 1 0 1),
  (4, eP (.iand) 1),
  (5, eC (.iconst 1) 1 0 1),
  (6, eB (.if_icmp .ne 7) 13),
  (9, eC (.iconst 1) 1 0 1),
  (10, eB (.goto 4) 14),
  (13, eC (.iconst 0) 1 0 0),
  (14, eR (.ireturn) 3)]
/-- X4_bits -/
def k_148 : List (Nat × En) := [(0, eC (.iconst 0) 1 0 0),
  (1, eP (.istore_n 1) 1),
  (2, eC (.iconst 0) 1 0 0),
  (3, eP (.istore_n 2) 1),
  (4, eP (.iload_n 2) 1),
  (5, eC (.bipush 8) 2 0 8),
  (7, eB (.if_icmp .ge 17) 24),
  (10, eP (.iload_n 1) 1),
  (11, eP (.iload_n 0) 1),
  (12, eP (.iload_n 2) 1),
  (13, eP (.ishr) 1),
  (14, eC (.iconst 1) 1 0 1),
  (15, eP (.iand) 1),
  (16, eP (.iadd) 1),
  (17, eP (.istore_n 1) 1),
  (18, eC (.iinc 2 1) 3 0 1),
  (21, eB (.goto (-17)) 4),
  (24, eP (.iload_n 1) 1),
  (25, eR (.ireturn) 0)]
/-- X4_share -/
def k_149 : List (Nat × En) := [(0, eP (.lload_n 1) 1),
  (1, eL (.lconst 0) 1 0 0),
  (2, eP (.lcmp) 1),
  (3, eB (.ifCond .ge 8) 11),
  (6, eP (.lload_n 1) 1),
  (7, eP (.lneg) 1),
  (8, eB (.goto 4) 12),
  (11, eP (.lload_n 1) 1),
  (12, eP (.lstore 6) 2),
  (14, eP (.lload_n 3) 1),
  (15, eP (.lstore 8) 2),
  (17, eK [1, 1, 0, 1, 0, 1, 1, 0, 1, 0, 0, 0] (eP (.lload 8) 2)),
  (19, eL (.lconst 0) 1 0 0),
  (20, eP (.lcmp) 1),
  (21, eB (.ifCond .eq 21) 42),
  (24, eP (.lload 6) 2),
  (26, eP (.lload 8) 2),
  (28, eP (.lrem) 1),
  (29, eP (.lstore 10) 2),
  (31, eP (.lload 8) 2),
  (33, eP (.lstore 6) 2),
  (35, eP (.lload 10) 2),
  (37, eP (.lstore 8) 2),
  (39, eB (.goto (-22)) 17),
  (42, eP (.aload_n 0) 1),
  (43, eP (.lload_n 1) 1),
  (44, eP (.lload 6) 2),
  (46, eP (.ldiv) 1),
  (47, eF (.putfield 95) 4 3 1 729),
  (50, eP (.aload_n 0) 1),
  (51, eP (.lload_n 3) 1),
  (52, eP (.lload 6) 2),
  (54, eP (.ldiv) 1),
  (55, eF (.putfield 13) 4 4 1 82),
  (58, eP (.iload 5) 2),
  (60, eR (.ireturn) 0)]
/-- X4_isRow -/
def k_150 : List (Nat × En) := [(0, eP (.iload_n 0) 1),
  (1, eC (.iconst 0) 1 0 0),
  (2, eC (.iconst 5) 1 0 5),
  (3, eM (.invokestatic 98) 144 3 1 3 9 134),
  (6, eR (.ireturn) 3)]
/-- X4_isText -/
def k_151 : List (Nat × En) := [(0, eP (.iload_n 0) 1),
  (1, eC (.iconst 0) 1 0 0),
  (2, eC (.iconst 3) 1 0 3),
  (3, eM (.invokestatic 98) 144 3 1 3 9 134),
  (6, eR (.ireturn) 3)]
/-- X4_askedRow -/
def k_152 : List (Nat × En) := [(0, eP (.iload_n 1) 1),
  (1, eM (.invokestatic 102) 150 1 1 1 9 131),
  (4, eB (.ifCond .ne 7) 11),
  (7, eC (.iconst (-1)) 1 0 (-1)),
  (8, eB (.goto 21) 29),
  (11, eP (.aload_n 0) 1),
  (12, eF (.getfield 17) 4 5 2 83),
  (15, eP (.iload_n 1) 1),
  (16, eP (.iaload) 1),
  (17, eB (.ifCond .ge 11) 28),
  (20, eP (.aload_n 0) 1),
  (21, eC (.iconst 1) 1 0 1),
  (22, eM (.invokevirtual 106) 145 2 1 2 4 137),
  (25, eB (.goto 4) 29),
  (28, eC (.iconst 0) 1 0 0),
  (29, eR (.ireturn) 0)]
/-- X4_askedText -/
def k_153 : List (Nat × En) := [(0, eP (.iload_n 1) 1),
  (1, eM (.invokestatic 110) 151 1 1 1 9 247),
  (4, eB (.ifCond .ne 7) 11),
  (7, eC (.iconst (-1)) 1 0 (-1)),
  (8, eB (.goto 21) 29),
  (11, eP (.aload_n 0) 1),
  (12, eF (.getfield 26) 4 8 2 86),
  (15, eP (.iload_n 1) 1),
  (16, eP (.iaload) 1),
  (17, eB (.ifCond .ge 11) 28),
  (20, eP (.aload_n 0) 1),
  (21, eC (.iconst 1) 1 0 1),
  (22, eM (.invokevirtual 106) 145 2 1 2 4 137),
  (25, eB (.goto 4) 29),
  (28, eC (.iconst 0) 1 0 0),
  (29, eR (.ireturn) 0)]
/-- X4_rowAt -/
def k_154 : List (Nat × En) := [(0, eP (.aload_n 0) 1),
  (1, eF (.getfield 20) 4 6 2 84),
  (4, eC (.bipush 40) 2 0 40),
  (6, eP (.iload_n 1) 1),
  (7, eP (.imul) 1),
  (8, eP (.iload_n 2) 1),
  (9, eP (.iadd) 1),
  (10, eP (.iaload) 1),
  (11, eR (.ireturn) 0)]
/-- X4_row -/
def k_155 : List (Nat × En) := [(0, eP (.iload_n 1) 1),
  (1, eM (.invokestatic 102) 150 1 1 1 9 131),
  (4, eB (.ifCond .eq 9) 13),
  (7, eP (.iload_n 2) 1),
  (8, eC (.bipush 40) 2 0 40),
  (10, eB (.if_icmp .le 5) 15),
  (13, eC (.iconst (-1)) 1 0 (-1)),
  (14, eR (.ireturn) 0),
  (15, eP (.iload_n 2) 1),
  (16, eB (.ifCond .ge 9) 25),
  (19, eP (.aload_n 0) 1),
  (20, eC (.iconst 5) 1 0 5),
  (21, eM (.invokevirtual 106) 145 2 1 2 4 137),
  (24, eR (.ireturn) 0),
  (25, eP (.aload_n 0) 1),
  (26, eF (.getfield 17) 4 5 2 83),
  (29, eP (.iload_n 1) 1),
  (30, eP (.iload_n 2) 1),
  (31, eP (.iastore) 1),
  (32, eC (.iconst 0) 1 0 0),
  (33, eP (.istore_n 3) 1),
  (34, eP (.iload_n 3) 1),
  (35, eC (.bipush 40) 2 0 40),
  (37, eB (.if_icmp .ge 21) 58),
  (40, eP (.aload_n 0) 1),
  (41, eF (.getfield 20) 4 6 2 84),
  (44, eC (.bipush 40) 2 0 40),
  (46, eP (.iload_n 1) 1),
  (47, eP (.imul) 1),
  (48, eP (.iload_n 3) 1),
  (49, eP (.iadd) 1),
  (50, eC (.iconst 0) 1 0 0),
  (51, eP (.iastore) 1),
  (52, eC (.iinc 3 1) 3 0 1),
  (55, eB (.goto (-21)) 34),
  (58, eP (.iload_n 2) 1),
  (59, eR (.ireturn) 0)]
/-- X4_at -/
def k_156 : List (Nat × En) := [(0, eP (.aload_n 0) 1),
  (1, eP (.iload_n 1) 1),
  (2, eM (.invokevirtual 113) 152 2 1 2 4 176),
  (5, eP (.istore_n 3) 1),
  (6, eP (.iload_n 3) 1),
  (7, eB (.ifCond .ge 5) 12),
  (10, eP (.iload_n 3) 1),
  (11, eR (.ireturn) 0),
  (12, eP (.iload_n 2) 1),
  (13, eC (.iconst 0) 1 0 0),
  (14, eP (.aload_n 0) 1),
  (15, eF (.getfield 17) 4 5 2 83),
  (18, eP (.iload_n 1) 1),
  (19, eP (.iaload) 1),
  (20, eC (.iconst 1) 1 0 1),
  (21, eP (.isub) 1),
  (22, eM (.invokestatic 98) 144 3 1 3 9 134),
  (25, eB (.ifCond .eq 17) 42),
  (28, eP (.aload_n 0) 1),
  (29, eP (.aload_n 0) 1),
  (30, eP (.iload_n 1) 1),
  (31, eP (.iload_n 2) 1),
  (32, eM (.invokevirtual 116) 154 3 1 3 4 180),
  (35, eC (.iconst 1) 1 0 1),
  (36, eM (.invokevirtual 120) 146 3 1 3 4 184),
  (39, eB (.goto 8) 47),
  (42, eP (.aload_n 0) 1),
  (43, eC (.iconst 2) 1 0 2),
  (44, eM (.invokevirtual 106) 145 2 1 2 4 137),
  (47, eR (.ireturn) 0)]
/-- X4_lay -/
def k_157 : List (Nat × En) := [(0, eP (.aload_n 0) 1),
  (1, eP (.iload_n 1) 1),
  (2, eP (.iload_n 2) 1),
  (3, eM (.invokevirtual 123) 156 3 1 4 4 172),
  (6, eP (.istore 4) 2),
  (8, eP (.iload 4) 2),
  (10, eB (.ifCond .ge 6) 16),
  (13, eP (.iload 4) 2),
  (15, eR (.ireturn) 0),
  (16, eP (.aload_n 0) 1),
  (17, eF (.getfield 20) 4 6 2 84),
  (20, eC (.bipush 40) 2 0 40),
  (22, eP (.iload_n 1) 1),
  (23, eP (.imul) 1),
  (24, eP (.iload_n 2) 1),
  (25, eP (.iadd) 1),
  (26, eP (.iload_n 3) 1),
  (27, eP (.iastore) 1),
  (28, eC (.iconst 1) 1 0 1),
  (29, eR (.ireturn) 0)]
/-- X4_tear -/
def k_158 : List (Nat × En) := [(0, eP (.aload_n 0) 1),
  (1, eP (.iload_n 1) 1),
  (2, eM (.invokevirtual 113) 152 2 1 2 4 176),
  (5, eP (.istore_n 2) 1),
  (6, eP (.iload_n 2) 1),
  (7, eB (.ifCond .ge 5) 12),
  (10, eP (.iload_n 2) 1),
  (11, eR (.ireturn) 0),
  (12, eP (.aload_n 0) 1),
  (13, eF (.getfield 17) 4 5 2 83),
  (16, eP (.iload_n 1) 1),
  (17, eC (.bipush (-9)) 2 0 (-9)),
  (19, eP (.iastore) 1),
  (20, eC (.iconst 1) 1 0 1),
  (21, eR (.ireturn) 0)]
/-- X4_copy -/
def k_159 : List (Nat × En) := [(0, eP (.iload_n 1) 1),
  (1, eM (.invokestatic 102) 150 1 1 1 9 131),
  (4, eB (.ifCond .eq 10) 14),
  (7, eP (.iload_n 3) 1),
  (8, eM (.invokestatic 102) 150 1 1 1 9 131),
  (11, eB (.ifCond .ne 5) 16),
  (14, eC (.iconst (-1)) 1 0 (-1)),
  (15, eR (.ireturn) 0),
  (16, eP (.iload 5) 2),
  (18, eB (.ifCond .ge 9) 27),
  (21, eP (.aload_n 0) 1),
  (22, eC (.iconst 5) 1 0 5),
  (23, eM (.invokevirtual 106) 145 2 1 2 4 137),
  (26, eR (.ireturn) 0),
  (27, eP (.aload_n 0) 1),
  (28, eF (.getfield 17) 4 5 2 83),
  (31, eP (.iload_n 1) 1),
  (32, eP (.iaload) 1),
  (33, eB (.ifCond .lt 12) 45),
  (36, eP (.aload_n 0) 1),
  (37, eF (.getfield 17) 4 5 2 83),
  (40, eP (.iload_n 3) 1),
  (41, eP (.iaload) 1),
  (42, eB (.ifCond .ge 9) 51),
  (45, eP (.aload_n 0) 1),
  (46, eC (.iconst 1) 1 0 1),
  (47, eM (.invokevirtual 106) 145 2 1 2 4 137),
  (50, eR (.ireturn) 0),
  (51, eP (.iload_n 2) 1),
  (52, eB (.ifCond .lt 43) 95),
  (55, eP (.iload 4) 2),
  (57, eB (.ifCond .lt 38) 95),
  (60, eP (.iload_n 2) 1),
  (61, eP (.i2l) 1),
  (62, eP (.iload 5) 2),
  (64, eP (.i2l) 1),
  (65, eP (.ladd) 1),
  (66, eP (.aload_n 0) 1),
  (67, eF (.getfield 17) 4 5 2 83),
  (70, eP (.iload_n 1) 1),
  (71, eP (.iaload) 1),
  (72, eP (.i2l) 1),
  (73, eP (.lcmp) 1),
  (74, eB (.ifCond .gt 21) 95),
  (77, eP (.iload 4) 2),
  (79, eP (.i2l) 1),
  (80, eP (.iload 5) 2),
  (82, eP (.i2l) 1),
  (83, eP (.ladd) 1),
  (84, eP (.aload_n 0) 1),
  (85, eF (.getfield 17) 4 5 2 83),
  (88, eP (.iload_n 3) 1),
  (89, eP (.iaload) 1),
  (90, eP (.i2l) 1),
  (91, eP (.lcmp) 1),
  (92, eB (.ifCond .le 9) 101),
  (95, eP (.aload_n 0) 1),
  (96, eC (.iconst 2) 1 0 2),
  (97, eM (.invokevirtual 106) 145 2 1 2 4 137),
  (100, eR (.ireturn) 0),
  (101, eC (.iconst 0) 1 0 0),
  (102, eP (.istore 6) 2),
  (104, eP (.iload 6) 2),
  (106, eP (.iload 5) 2),
  (108, eB (.if_icmp .ge 25) 133),
  (111, eP (.aload_n 0) 1),
  (112, eF (.getfield 23) 4 7 2 85),
  (115, eP (.iload 6) 2),
  (117, eP (.aload_n 0) 1),
  (118, eP (.iload_n 1) 1),
  (119, eP (.iload_n 2) 1),
  (120, eP (.iload 6) 2),
  (122, eP (.iadd) 1),
  (123, eM (.invokevirtual 116) 154 3 1 3 4 180),
  (126, eP (.iastore) 1),
  (127, eC (.iinc 6 1) 3 0 1),
  (130, eB (.goto (-26)) 104),
  (133, eC (.iconst 0) 1 0 0),
  (134, eP (.istore 6) 2),
  (136, eK [1, 0, 0, 1, 1, 1, 1] (eP (.iload 6) 2)),
  (138, eP (.iload 5) 2),
  (140, eB (.if_icmp .ge 31) 171),
  (143, eP (.aload_n 0) 1),
  (144, eF (.getfield 20) 4 6 2 84),
  (147, eC (.bipush 40) 2 0 40),
  (149, eP (.iload_n 3) 1),
  (150, eP (.imul) 1),
  (151, eP (.iload 4) 2),
  (153, eP (.iadd) 1),
  (154, eP (.iload 6) 2),
  (156, eP (.iadd) 1),
  (157, eP (.aload_n 0) 1),
  (158, eF (.getfield 23) 4 7 2 85),
  (161, eP (.iload 6) 2),
  (163, eP (.iaload) 1),
  (164, eP (.iastore) 1),
  (165, eC (.iinc 6 1) 3 0 1),
  (168, eB (.goto (-32)) 136),
  (171, eC (.iconst 1) 1 0 1),
  (172, eR (.ireturn) 0)]
/-- X4_mean -/
def k_160 : List (Nat × En) := [(0, eP (.aload_n 0) 1),
  (1, eP (.iload_n 1) 1),
  (2, eM (.invokevirtual 113) 152 2 1 2 4 176),
  (5, eP (.istore_n 2) 1),
  (6, eP (.iload_n 2) 1),
  (7, eB (.ifCond .ge 5) 12),
  (10, eP (.iload_n 2) 1),
  (11, eR (.ireturn) 0),
  (12, eL (.lconst 0) 1 0 0),
  (13, eP (.lstore_n 3) 1),
  (14, eC (.iconst 0) 1 0 0),
  (15, eP (.istore 5) 2),
  (17, eK [1, 1, 0, 1, 0, 1] (eP (.iload 5) 2)),
  (19, eP (.aload_n 0) 1),
  (20, eF (.getfield 17) 4 5 2 83),
  (23, eP (.iload_n 1) 1),
  (24, eP (.iaload) 1),
  (25, eB (.if_icmp .ge 20) 45),
  (28, eP (.lload_n 3) 1),
  (29, eP (.aload_n 0) 1),
  (30, eP (.iload_n 1) 1),
  (31, eP (.iload 5) 2),
  (33, eM (.invokevirtual 116) 154 3 1 3 4 180),
  (36, eP (.i2l) 1),
  (37, eP (.ladd) 1),
  (38, eP (.lstore_n 3) 1),
  (39, eC (.iinc 5 1) 3 0 1),
  (42, eB (.goto (-25)) 17),
  (45, eP (.aload_n 0) 1),
  (46, eF (.getfield 17) 4 5 2 83),
  (49, eP (.iload_n 1) 1),
  (50, eP (.iaload) 1),
  (51, eB (.ifCond .ne 11) 62),
  (54, eP (.aload_n 0) 1),
  (55, eC (.iconst 4) 1 0 4),
  (56, eM (.invokevirtual 106) 145 2 1 2 4 137),
  (59, eB (.goto 18) 77),
  (62, eP (.aload_n 0) 1),
  (63, eP (.lload_n 3) 1),
  (64, eP (.aload_n 0) 1),
  (65, eF (.getfield 17) 4 5 2 83),
  (68, eP (.iload_n 1) 1),
  (69, eP (.iaload) 1),
  (70, eP (.i2l) 1),
  (71, eP (.ldiv) 1),
  (72, eP (.l2i) 1),
  (73, eC (.iconst 1) 1 0 1),
  (74, eM (.invokevirtual 120) 146 3 1 3 4 184),
  (77, eR (.ireturn) 0)]
/-- X4_text -/
def k_161 : List (Nat × En) := [(0, eP (.iload_n 1) 1),
  (1, eM (.invokestatic 110) 151 1 1 1 9 247),
  (4, eB (.ifCond .eq 9) 13),
  (7, eP (.iload_n 2) 1),
  (8, eC (.bipush 40) 2 0 40),
  (10, eB (.if_icmp .le 5) 15),
  (13, eC (.iconst (-1)) 1 0 (-1)),
  (14, eR (.ireturn) 0),
  (15, eP (.iload_n 2) 1),
  (16, eB (.ifCond .ge 9) 25),
  (19, eP (.aload_n 0) 1),
  (20, eC (.iconst 5) 1 0 5),
  (21, eM (.invokevirtual 106) 145 2 1 2 4 137),
  (24, eR (.ireturn) 0),
  (25, eP (.aload_n 0) 1),
  (26, eF (.getfield 26) 4 8 2 86),
  (29, eP (.iload_n 1) 1),
  (30, eP (.iload_n 2) 1),
  (31, eP (.iastore) 1),
  (32, eC (.iconst 0) 1 0 0),
  (33, eP (.istore_n 3) 1),
  (34, eP (.iload_n 3) 1),
  (35, eC (.bipush 40) 2 0 40),
  (37, eB (.if_icmp .ge 22) 59),
  (40, eP (.aload_n 0) 1),
  (41, eF (.getfield 29) 4 9 2 87),
  (44, eC (.bipush 40) 2 0 40),
  (46, eP (.iload_n 1) 1),
  (47, eP (.imul) 1),
  (48, eP (.iload_n 3) 1),
  (49, eP (.iadd) 1),
  (50, eC (.bipush 32) 2 0 32),
  (52, eP (.iastore) 1),
  (53, eC (.iinc 3 1) 3 0 1),
  (56, eB (.goto (-22)) 34),
  (59, eP (.iload_n 2) 1),
  (60, eR (.ireturn) 0)]
/-- X4_put -/
def k_162 : List (Nat × En) := [(0, eP (.aload_n 0) 1),
  (1, eP (.iload_n 1) 1),
  (2, eM (.invokevirtual 126) 153 2 1 2 4 258),
  (5, eP (.istore 4) 2),
  (7, eP (.iload 4) 2),
  (9, eB (.ifCond .ge 6) 15),
  (12, eP (.iload 4) 2),
  (14, eR (.ireturn) 0),
  (15, eP (.iload_n 2) 1),
  (16, eC (.iconst 0) 1 0 0),
  (17, eP (.aload_n 0) 1),
  (18, eF (.getfield 26) 4 8 2 86),
  (21, eP (.iload_n 1) 1),
  (22, eP (.iaload) 1),
  (23, eC (.iconst 1) 1 0 1),
  (24, eP (.isub) 1),
  (25, eM (.invokestatic 98) 144 3 1 3 9 134),
  (28, eB (.ifCond .ne 9) 37),
  (31, eP (.aload_n 0) 1),
  (32, eC (.iconst 2) 1 0 2),
  (33, eM (.invokevirtual 106) 145 2 1 2 4 137),
  (36, eR (.ireturn) 0),
  (37, eP (.aload_n 0) 1),
  (38, eF (.getfield 29) 4 9 2 87),
  (41, eC (.bipush 40) 2 0 40),
  (43, eP (.iload_n 1) 1),
  (44, eP (.imul) 1),
  (45, eP (.iload_n 2) 1),
  (46, eP (.iadd) 1),
  (47, eP (.iaload) 1),
  (48, eP (.istore 5) 2),
  (50, eP (.aload_n 0) 1),
  (51, eF (.getfield 29) 4 9 2 87),
  (54, eC (.bipush 40) 2 0 40),
  (56, eP (.iload_n 1) 1),
  (57, eP (.imul) 1),
  (58, eP (.iload_n 2) 1),
  (59, eP (.iadd) 1),
  (60, eP (.iload_n 3) 1),
  (61, eP (.i2b) 1),
  (62, eP (.iastore) 1),
  (63, eP (.iload 5) 2),
  (65, eC (.sipush 1000) 3 0 1000),
  (68, eP (.iadd) 1),
  (69, eR (.ireturn) 0)]
/-- X4_isSaying -/
def k_163 : List (Nat × En) := [(0, eP (.iload_n 0) 1),
  (1, eC (.iconst 0) 1 0 0),
  (2, eC (.bipush 27) 2 0 27),
  (4, eM (.invokestatic 98) 144 3 1 3 9 134),
  (7, eR (.ireturn) 3)]
/-- X4_lastName -/
def k_164 : List (Nat × En) := [(0, eP (.iload_n 0) 1),
  (1, eC (.bipush 12) 2 0 12),
  (3, eB (.if_icmp .ge 9) 12),
  (6, eP (.iload_n 0) 1),
  (7, eC (.iconst 4) 1 0 4),
  (8, eP (.irem) 1),
  (9, eB (.goto 9) 18),
  (12, eP (.iload_n 0) 1),
  (13, eC (.bipush 12) 2 0 12),
  (15, eP (.isub) 1),
  (16, eC (.iconst 4) 1 0 4),
  (17, eP (.idiv) 1),
  (18, eK [1, 0, 0] (eP (.istore_n 1) 1)),
  (19, eP (.iload_n 0) 1),
  (20, eC (.bipush 12) 2 0 12),
  (22, eB (.if_icmp .ge 7) 29),
  (25, eC (.iconst 0) 1 0 0),
  (26, eB (.goto 9) 35),
  (29, eP (.iload_n 0) 1),
  (30, eC (.bipush 12) 2 0 12),
  (32, eP (.isub) 1),
  (33, eC (.iconst 4) 1 0 4),
  (34, eP (.irem) 1),
  (35, eP (.istore_n 2) 1),
  (36, eP (.iload_n 1) 1),
  (37, eP (.iload_n 2) 1),
  (38, eB (.if_icmp .le 7) 45),
  (41, eP (.iload_n 1) 1),
  (42, eB (.goto 4) 46),
  (45, eP (.iload_n 2) 1),
  (46, eR (.ireturn) 0)]
/-- X4_names -/
def k_165 : List (Nat × En) := [(0, eP (.iload_n 1) 1),
  (1, eC (.iconst 1) 1 0 1),
  (2, eC (.iconst 4) 1 0 4),
  (3, eM (.invokestatic 98) 144 3 1 3 9 134),
  (6, eB (.ifCond .ne 5) 11),
  (9, eC (.iconst (-1)) 1 0 (-1)),
  (10, eR (.ireturn) 0),
  (11, eC (.iconst 0) 1 0 0),
  (12, eP (.istore_n 2) 1),
  (13, eP (.iload_n 2) 1),
  (14, eC (.bipush 28) 2 0 28),
  (16, eB (.if_icmp .ge 29) 45),
  (19, eP (.aload_n 0) 1),
  (20, eF (.getfield 36) 4 11 2 89),
  (23, eP (.iload_n 2) 1),
  (24, eP (.iaload) 1),
  (25, eB (.ifCond .eq 14) 39),
  (28, eP (.iload_n 2) 1),
  (29, eM (.invokestatic 129) 164 1 1 3 9 273),
  (32, eP (.iload_n 1) 1),
  (33, eB (.if_icmp .lt 6) 39),
  (36, eC (.bipush (-4)) 2 0 (-4)),
  (38, eR (.ireturn) 0),
  (39, eC (.iinc 2 1) 3 0 1),
  (42, eB (.goto (-29)) 13),
  (45, eP (.aload_n 0) 1),
  (46, eF (.getfield 32) 4 10 0 88),
  (49, eP (.istore_n 2) 1),
  (50, eP (.aload_n 0) 1),
  (51, eP (.iload_n 1) 1),
  (52, eF (.putfield 32) 4 10 0 88),
  (55, eP (.iload_n 2) 1),
  (56, eR (.ireturn) 0)]
/-- X4_toldMany -/
def k_166 : List (Nat × En) := [(0, eC (.iconst 0) 1 0 0),
  (1, eP (.istore_n 3) 1),
  (2, eC (.iconst 0) 1 0 0),
  (3, eP (.istore 4) 2),
  (5, eP (.iload 4) 2),
  (7, eC (.bipush 28) 2 0 28),
  (9, eB (.if_icmp .ge 32) 41),
  (12, eP (.iload_n 3) 1),
  (13, eP (.aload_n 0) 1),
  (14, eF (.getfield 36) 4 11 2 89),
  (17, eP (.iload 4) 2),
  (19, eP (.iaload) 1),
  (20, eP (.iload_n 1) 1),
  (21, eP (.iload_n 2) 1),
  (22, eM (.invokestatic 98) 144 3 1 3 9 134),
  (25, eB (.ifCond .eq 7) 32),
  (28, eC (.iconst 1) 1 0 1),
  (29, eB (.goto 4) 33),
  (32, eC (.iconst 0) 1 0 0),
  (33, eP (.iadd) 1),
  (34, eP (.istore_n 3) 1),
  (35, eC (.iinc 4 1) 3 0 1),
  (38, eB (.goto (-33)) 5),
  (41, eP (.iload_n 3) 1),
  (42, eR (.ireturn) 0)]
/-- X4_askedTell -/
def k_167 : List (Nat × En) := [(0, eP (.iload_n 1) 1),
  (1, eM (.invokestatic 132) 163 1 1 1 9 302),
  (4, eB (.ifCond .eq 23) 27),
  (7, eP (.iload_n 2) 1),
  (8, eC (.iconst 0) 1 0 0),
  (9, eC (.iconst 3) 1 0 3),
  (10, eM (.invokestatic 98) 144 3 1 3 9 134),
  (13, eB (.ifCond .eq 14) 27),
  (16, eP (.iload_n 1) 1),
  (17, eM (.invokestatic 129) 164 1 1 3 9 273),
  (20, eP (.aload_n 0) 1),
  (21, eF (.getfield 32) 4 10 0 88),
  (24, eB (.if_icmp .lt 5) 29),
  (27, eC (.iconst (-1)) 1 0 (-1)),
  (28, eR (.ireturn) 0),
  (29, eP (.iload_n 2) 1),
  (30, eC (.iconst 3) 1 0 3),
  (31, eB (.if_icmp .ne 29) 60),
  (34, eP (.aload_n 0) 1),
  (35, eF (.getfield 36) 4 11 2 89),
  (38, eP (.iload_n 1) 1),
  (39, eP (.iaload) 1),
  (40, eC (.iconst 3) 1 0 3),
  (41, eB (.if_icmp .eq 19) 60),
  (44, eP (.aload_n 0) 1),
  (45, eC (.iconst 3) 1 0 3),
  (46, eC (.iconst 3) 1 0 3),
  (47, eM (.invokevirtual 135) 166 3 1 5 4 305),
  (50, eC (.bipush 10) 2 0 10),
  (52, eB (.if_icmp .ne 8) 60),
  (55, eC (.bipush (-2)) 2 0 (-2)),
  (57, eB (.goto 4) 61),
  (60, eC (.iconst 0) 1 0 0),
  (61, eR (.ireturn) 0)]
/-- X4_tell -/
def k_168 : List (Nat × En) := [(0, eP (.aload_n 0) 1),
  (1, eP (.iload_n 1) 1),
  (2, eP (.iload_n 2) 1),
  (3, eM (.invokevirtual 138) 167 3 1 3 4 298),
  (6, eP (.istore_n 3) 1),
  (7, eP (.iload_n 3) 1),
  (8, eB (.ifCond .ge 5) 13),
  (11, eP (.iload_n 3) 1),
  (12, eR (.ireturn) 0),
  (13, eP (.aload_n 0) 1),
  (14, eF (.getfield 36) 4 11 2 89),
  (17, eP (.iload_n 1) 1),
  (18, eP (.iaload) 1),
  (19, eP (.istore 4) 2),
  (21, eP (.aload_n 0) 1),
  (22, eF (.getfield 36) 4 11 2 89),
  (25, eP (.iload_n 1) 1),
  (26, eP (.iload_n 2) 1),
  (27, eP (.iastore) 1),
  (28, eP (.iload 4) 2),
  (30, eR (.ireturn) 0)]
/-- X4_how -/
def k_169 : List (Nat × En) := [(0, eP (.iload_n 1) 1),
  (1, eM (.invokestatic 132) 163 1 1 1 9 302),
  (4, eB (.ifCond .eq 12) 16),
  (7, eP (.aload_n 0) 1),
  (8, eF (.getfield 36) 4 11 2 89),
  (11, eP (.iload_n 1) 1),
  (12, eP (.iaload) 1),
  (13, eB (.goto 4) 17),
  (16, eC (.iconst (-1)) 1 0 (-1)),
  (17, eR (.ireturn) 0)]
/-- X4_here -/
def k_170 : List (Nat × En) := [(0, eP (.aload_n 0) 1),
  (1, eF (.getfield 141) 4 12 0 381),
  (4, eP (.aload_n 0) 1),
  (5, eF (.getfield 26) 4 8 2 86),
  (8, eP (.iload_n 1) 1),
  (9, eP (.iaload) 1),
  (10, eB (.if_icmp .ge 20) 30),
  (13, eP (.aload_n 0) 1),
  (14, eF (.getfield 29) 4 9 2 87),
  (17, eC (.bipush 40) 2 0 40),
  (19, eP (.iload_n 1) 1),
  (20, eP (.imul) 1),
  (21, eP (.aload_n 0) 1),
  (22, eF (.getfield 141) 4 12 0 381),
  (25, eP (.iadd) 1),
  (26, eP (.iaload) 1),
  (27, eB (.goto 5) 32),
  (30, eC (.bipush (-9)) 2 0 (-9)),
  (32, eR (.ireturn) 0)]
/-- X4_skips -/
def k_171 : List (Nat × En) := [(0, eP (.aload_n 0) 1),
  (1, eP (.iload_n 1) 1),
  (2, eM (.invokevirtual 144) 170 2 1 2 4 387),
  (5, eC (.bipush 32) 2 0 32),
  (7, eB (.if_icmp .ne 16) 23),
  (10, eP (.aload_n 0) 1),
  (11, eP (.dup) 1),
  (12, eF (.getfield 141) 4 12 0 381),
  (15, eC (.iconst 1) 1 0 1),
  (16, eP (.iadd) 1),
  (17, eF (.putfield 141) 4 12 0 381),
  (20, eB (.goto (-20)) 0),
  (23, eR (.return_) 2)]
/-- X4_readsByte -/
def k_172 : List (Nat × En) := [(0, eP (.aload_n 0) 1),
  (1, eP (.iload_n 1) 1),
  (2, eM (.invokevirtual 144) 170 2 1 2 4 387),
  (5, eP (.iload_n 2) 1),
  (6, eB (.if_icmp .ne 7) 13),
  (9, eC (.iconst 1) 1 0 1),
  (10, eB (.goto 4) 14),
  (13, eC (.iconst 0) 1 0 0),
  (14, eK [1, 0, 0, 0] (eP (.istore_n 3) 1)),
  (15, eP (.aload_n 0) 1),
  (16, eP (.dup) 1),
  (17, eF (.getfield 141) 4 12 0 381),
  (20, eP (.iload_n 3) 1),
  (21, eB (.ifCond .eq 7) 28),
  (24, eC (.iconst 1) 1 0 1),
  (25, eB (.goto 4) 29),
  (28, eC (.iconst 0) 1 0 0),
  (29, eP (.iadd) 1),
  (30, eF (.putfield 141) 4 12 0 381),
  (33, eP (.iload_n 3) 1),
  (34, eR (.ireturn) 3)]
/-- X4_readsName -/
def k_173 : List (Nat × En) := [(0, eP (.aload_n 0) 1),
  (1, eP (.iload_n 1) 1),
  (2, eC (.bipush 120) 2 0 120),
  (4, eM (.invokevirtual 147) 172 3 1 4 4 396),
  (7, eB (.ifCond .eq 7) 14),
  (10, eC (.iconst 0) 1 0 0),
  (11, eB (.goto 23) 34),
  (14, eP (.iload_n 2) 1),
  (15, eB (.ifCond .ne 17) 32),
  (18, eP (.aload_n 0) 1),
  (19, eP (.iload_n 1) 1),
  (20, eC (.bipush 121) 2 0 121),
  (22, eM (.invokevirtual 147) 172 3 1 4 4 396),
  (25, eB (.ifCond .eq 7) 32),
  (28, eC (.iconst 1) 1 0 1),
  (29, eB (.goto 5) 34),
  (32, eC (.bipush (-9)) 2 0 (-9)),
  (34, eR (.ireturn) 0)]
/-- X4_readsPart -/
def k_174 : List (Nat × En) := [(0, eP (.aload_n 0) 1),
  (1, eF (.getfield 151) 4 13 0 382),
  (4, eP (.istore_n 3) 1),
  (5, eP (.aload_n 0) 1),
  (6, eF (.getfield 39) 4 15 2 90),
  (9, eP (.iload_n 3) 1),
  (10, eP (.aload_n 0) 1),
  (11, eP (.iload_n 1) 1),
  (12, eC (.bipush 33) 2 0 33),
  (14, eM (.invokevirtual 147) 172 3 1 4 4 396),
  (17, eP (.bastore) 1),
  (18, eP (.aload_n 0) 1),
  (19, eP (.iload_n 1) 1),
  (20, eM (.invokevirtual 144) 170 2 1 2 4 387),
  (23, eC (.bipush 65) 2 0 65),
  (25, eB (.if_icmp .ne 7) 32),
  (28, eC (.iconst 0) 1 0 0),
  (29, eB (.goto 47) 76),
  (32, eP (.aload_n 0) 1),
  (33, eP (.iload_n 1) 1),
  (34, eM (.invokevirtual 144) 170 2 1 2 4 387),
  (37, eC (.bipush 66) 2 0 66),
  (39, eB (.if_icmp .ne 7) 46),
  (42, eC (.iconst 1) 1 0 1),
  (43, eB (.goto 33) 76),
  (46, eP (.aload_n 0) 1),
  (47, eP (.iload_n 1) 1),
  (48, eM (.invokevirtual 144) 170 2 1 2 4 387),
  (51, eC (.bipush 67) 2 0 67),
  (53, eB (.if_icmp .ne 7) 60),
  (56, eC (.iconst 2) 1 0 2),
  (57, eB (.goto 19) 76),
  (60, eP (.aload_n 0) 1),
  (61, eP (.iload_n 1) 1),
  (62, eM (.invokevirtual 144) 170 2 1 2 4 387),
  (65, eC (.bipush 70) 2 0 70),
  (67, eB (.if_icmp .ne 7) 74),
  (70, eC (.iconst 3) 1 0 3),
  (71, eB (.goto 5) 76),
  (74, eC (.bipush (-9)) 2 0 (-9)),
  (76, eK [1, 1, 1, 1, 0] (eP (.istore 4) 2)),
  (78, eP (.iload 4) 2),
  (80, eB (.ifCond .ge 5) 85),
  (83, eC (.iconst 0) 1 0 0),
  (84, eR (.ireturn) 3),
  (85, eP (.aload_n 0) 1),
  (86, eP (.dup) 1),
  (87, eF (.getfield 141) 4 12 0 381),
  (90, eC (.iconst 1) 1 0 1),
  (91, eP (.iadd) 1),
  (92, eF (.putfield 141) 4 12 0 381),
  (95, eP (.aload_n 0) 1),
  (96, eF (.getfield 43) 4 16 2 91),
  (99, eP (.iload_n 3) 1),
  (100, eP (.iload 4) 2),
  (102, eP (.iastore) 1),
  (103, eP (.aload_n 0) 1),
  (104, eF (.getfield 46) 4 17 2 92),
  (107, eP (.iload_n 3) 1),
  (108, eP (.aload_n 0) 1),
  (109, eP (.iload_n 1) 1),
  (110, eP (.iload_n 2) 1),
  (111, eM (.invokevirtual 154) 173 3 1 3 4 404),
  (114, eP (.iastore) 1),
  (115, eP (.aload_n 0) 1),
  (116, eF (.getfield 46) 4 17 2 92),
  (119, eP (.iload_n 3) 1),
  (120, eP (.iaload) 1),
  (121, eB (.ifCond .ge 5) 126),
  (124, eC (.iconst 0) 1 0 0),
  (125, eR (.ireturn) 3),
  (126, eP (.aload_n 0) 1),
  (127, eF (.getfield 49) 4 18 2 93),
  (130, eP (.iload_n 3) 1),
  (131, eP (.iload 4) 2),
  (133, eC (.iconst 3) 1 0 3),
  (134, eB (.if_icmp .ne 12) 146),
  (137, eP (.aload_n 0) 1),
  (138, eP (.iload_n 1) 1),
  (139, eP (.iload_n 2) 1),
  (140, eM (.invokevirtual 154) 173 3 1 3 4 404),
  (143, eB (.goto 4) 147),
  (146, eC (.iconst 0) 1 0 0),
  (147, eK [1, 0, 0, 1, 0] (eP (.iastore) 1)),
  (148, eP (.aload_n 0) 1),
  (149, eP (.dup) 1),
  (150, eF (.getfield 151) 4 13 0 382),
  (153, eC (.iconst 1) 1 0 1),
  (154, eP (.iadd) 1),
  (155, eF (.putfield 151) 4 13 0 382),
  (158, eP (.aload_n 0) 1),
  (159, eF (.getfield 49) 4 18 2 93),
  (162, eP (.iload_n 3) 1),
  (163, eP (.iaload) 1),
  (164, eB (.ifCond .lt 7) 171),
  (167, eC (.iconst 1) 1 0 1),
  (168, eB (.goto 4) 172),
  (171, eC (.iconst 0) 1 0 0),
  (172, eR (.ireturn) 3)]
/-- X4_readsHead -/
def k_175 : List (Nat × En) := [(0, eP (.aload_n 0) 1),
  (1, eC (.iconst 0) 1 0 0),
  (2, eF (.putfield 158) 4 14 0 395),
  (5, eP (.iload_n 2) 1),
  (6, eC (.iconst 4) 1 0 4),
  (7, eB (.if_icmp .ne 11) 18),
  (10, eP (.aload_n 0) 1),
  (11, eP (.iload_n 1) 1),
  (12, eC (.bipush 49) 2 0 49),
  (14, eM (.invokevirtual 147) 172 3 1 4 4 396),
  (17, eR (.ireturn) 3),
  (18, eP (.iload_n 2) 1),
  (19, eC (.iconst 3) 1 0 3),
  (20, eB (.if_icmp .eq 5) 25),
  (23, eC (.iconst 1) 1 0 1),
  (24, eR (.ireturn) 3),
  (25, eP (.aload_n 0) 1),
  (26, eP (.iload_n 1) 1),
  (27, eC (.bipush 35) 2 0 35),
  (29, eM (.invokevirtual 147) 172 3 1 4 4 396),
  (32, eB (.ifCond .eq 18) 50),
  (35, eP (.aload_n 0) 1),
  (36, eP (.iload_n 1) 1),
  (37, eM (.invokevirtual 144) 170 2 1 2 4 387),
  (40, eC (.bipush 49) 2 0 49),
  (42, eC (.bipush 52) 2 0 52),
  (44, eM (.invokestatic 98) 144 3 1 3 9 134),
  (47, eB (.ifCond .ne 5) 52),
  (50, eC (.iconst 0) 1 0 0),
  (51, eR (.ireturn) 3),
  (52, eP (.aload_n 0) 1),
  (53, eP (.aload_n 0) 1),
  (54, eP (.iload_n 1) 1),
  (55, eM (.invokevirtual 144) 170 2 1 2 4 387),
  (58, eC (.bipush 48) 2 0 48),
  (60, eP (.isub) 1),
  (61, eF (.putfield 158) 4 14 0 395),
  (64, eP (.aload_n 0) 1),
  (65, eP (.dup) 1),
  (66, eF (.getfield 141) 4 12 0 381),
  (69, eC (.iconst 1) 1 0 1),
  (70, eP (.iadd) 1),
  (71, eF (.putfield 141) 4 12 0 381),
  (74, eC (.iconst 1) 1 0 1),
  (75, eR (.ireturn) 3)]
/-- X4_reads -/
def k_176 : List (Nat × En) := [(0, eP (.iload_n 2) 1),
  (1, eC (.iconst 3) 1 0 3),
  (2, eB (.if_icmp .lt 7) 9),
  (5, eC (.iconst 1) 1 0 1),
  (6, eB (.goto 4) 10),
  (9, eC (.iconst 0) 1 0 0),
  (10, eK [1, 1, 1, 0, 0] (eP (.istore_n 3) 1)),
  (11, eP (.aload_n 0) 1),
  (12, eC (.iconst 0) 1 0 0),
  (13, eF (.putfield 141) 4 12 0 381),
  (16, eP (.aload_n 0) 1),
  (17, eC (.iconst 0) 1 0 0),
  (18, eF (.putfield 151) 4 13 0 382),
  (21, eP (.aload_n 0) 1),
  (22, eP (.iload_n 1) 1),
  (23, eM (.invokevirtual 161) 171 2 0 2 4 383),
  (26, eP (.aload_n 0) 1),
  (27, eP (.iload_n 1) 1),
  (28, eP (.iload_n 2) 1),
  (29, eM (.invokevirtual 165) 175 3 1 3 4 391),
  (32, eB (.ifCond .ne 8) 40),
  (35, eP (.aload_n 0) 1),
  (36, eF (.getfield 141) 4 12 0 381),
  (39, eR (.ireturn) 0),
  (40, eC (.iconst 1) 1 0 1),
  (41, eP (.istore 4) 2),
  (43, eK [1, 1, 0, 1, 1] (eP (.iload 4) 2)),
  (45, eB (.ifCond .eq 50) 95),
  (48, eP (.aload_n 0) 1),
  (49, eP (.iload_n 1) 1),
  (50, eP (.iload_n 3) 1),
  (51, eM (.invokevirtual 168) 174 3 1 5 4 400),
  (54, eB (.ifCond .ne 8) 62),
  (57, eP (.aload_n 0) 1),
  (58, eF (.getfield 141) 4 12 0 381),
  (61, eR (.ireturn) 0),
  (62, eP (.iload_n 3) 1),
  (63, eB (.ifCond .ne 26) 89),
  (66, eP (.aload_n 0) 1),
  (67, eF (.getfield 151) 4 13 0 382),
  (70, eC (.bipush 6) 2 0 6),
  (72, eB (.if_icmp .ge 17) 89),
  (75, eP (.aload_n 0) 1),
  (76, eP (.iload_n 1) 1),
  (77, eC (.bipush 124) 2 0 124),
  (79, eM (.invokevirtual 147) 172 3 1 4 4 396),
  (82, eB (.ifCond .eq 7) 89),
  (85, eC (.iconst 1) 1 0 1),
  (86, eB (.goto 4) 90),
  (89, eC (.iconst 0) 1 0 0),
  (90, eP (.istore 4) 2),
  (92, eB (.goto (-49)) 43),
  (95, eP (.aload_n 0) 1),
  (96, eP (.iload_n 1) 1),
  (97, eM (.invokevirtual 161) 171 2 0 2 4 383),
  (100, eP (.aload_n 0) 1),
  (101, eF (.getfield 141) 4 12 0 381),
  (104, eP (.aload_n 0) 1),
  (105, eF (.getfield 26) 4 8 2 86),
  (108, eP (.iload_n 1) 1),
  (109, eP (.iaload) 1),
  (110, eB (.if_icmp .ne 8) 118),
  (113, eC (.bipush (-9)) 2 0 (-9)),
  (115, eB (.goto 7) 122),
  (118, eP (.aload_n 0) 1),
  (119, eF (.getfield 141) 4 12 0 381),
  (122, eR (.ireturn) 0)]
/-- X4_isKind -/
def k_177 : List (Nat × En) := [(0, eP (.iload_n 0) 1),
  (1, eC (.iconst 0) 1 0 0),
  (2, eC (.iconst 4) 1 0 4),
  (3, eM (.invokestatic 98) 144 3 1 3 9 134),
  (6, eR (.ireturn) 3)]
/-- X4_fault -/
def k_178 : List (Nat × En) := [(0, eP (.iload_n 2) 1),
  (1, eM (.invokestatic 172) 177 1 1 1 9 374),
  (4, eB (.ifCond .ne 5) 9),
  (7, eC (.iconst (-1)) 1 0 (-1)),
  (8, eR (.ireturn) 0),
  (9, eP (.aload_n 0) 1),
  (10, eP (.iload_n 1) 1),
  (11, eM (.invokevirtual 126) 153 2 1 2 4 258),
  (14, eP (.istore_n 3) 1),
  (15, eP (.iload_n 3) 1),
  (16, eB (.ifCond .ge 7) 23),
  (19, eP (.iload_n 3) 1),
  (20, eB (.goto 9) 29),
  (23, eP (.aload_n 0) 1),
  (24, eP (.iload_n 1) 1),
  (25, eP (.iload_n 2) 1),
  (26, eM (.invokevirtual 175) 176 3 1 5 4 377),
  (29, eR (.ireturn) 0)]
/-- X4_isLaw -/
def k_179 : List (Nat × En) := [(0, eP (.iload_n 0) 1),
  (1, eC (.iconst 0) 1 0 0),
  (2, eC (.bipush 7) 2 0 7),
  (4, eM (.invokestatic 98) 144 3 1 3 9 134),
  (7, eR (.ireturn) 3)]
/-- X4_askedLaw -/
def k_180 : List (Nat × En) := [(0, eP (.iload_n 1) 1),
  (1, eM (.invokestatic 178) 179 1 1 1 9 437),
  (4, eB (.ifCond .ne 7) 11),
  (7, eC (.iconst (-1)) 1 0 (-1)),
  (8, eB (.goto 21) 29),
  (11, eP (.aload_n 0) 1),
  (12, eF (.getfield 52) 4 19 2 94),
  (15, eP (.iload_n 1) 1),
  (16, eP (.iaload) 1),
  (17, eB (.ifCond .ge 11) 28),
  (20, eP (.aload_n 0) 1),
  (21, eC (.iconst 1) 1 0 1),
  (22, eM (.invokevirtual 106) 145 2 1 2 4 137),
  (25, eB (.goto 4) 29),
  (28, eC (.iconst 0) 1 0 0),
  (29, eR (.ireturn) 0)]
/-- X4_isSoft -/
def k_181 : List (Nat × En) := [(0, eP (.iload_n 0) 1),
  (1, eC (.iconst 2) 1 0 2),
  (2, eB (.if_icmp .eq 8) 10),
  (5, eP (.iload_n 0) 1),
  (6, eC (.iconst 3) 1 0 3),
  (7, eB (.if_icmp .ne 7) 14),
  (10, eC (.iconst 1) 1 0 1),
  (11, eB (.goto 4) 15),
  (14, eC (.iconst 0) 1 0 0),
  (15, eR (.ireturn) 3)]
/-- X4_isHard -/
def k_182 : List (Nat × En) := [(0, eP (.iload_n 0) 1),
  (1, eC (.iconst 1) 1 0 1),
  (2, eB (.if_icmp .eq 8) 10),
  (5, eP (.iload_n 0) 1),
  (6, eC (.iconst 4) 1 0 4),
  (7, eB (.if_icmp .ne 7) 14),
  (10, eC (.iconst 1) 1 0 1),
  (11, eB (.goto 4) 15),
  (14, eC (.iconst 0) 1 0 0),
  (15, eR (.ireturn) 3)]
/-- X4_law -/
def k_183 : List (Nat × En) := [(0, eP (.iload_n 1) 1),
  (1, eM (.invokestatic 178) 179 1 1 1 9 437),
  (4, eB (.ifCond .eq 35) 39),
  (7, eP (.iload_n 2) 1),
  (8, eM (.invokestatic 110) 151 1 1 1 9 247),
  (11, eB (.ifCond .eq 28) 39),
  (14, eP (.iload_n 3) 1),
  (15, eM (.invokestatic 172) 177 1 1 1 9 374),
  (18, eB (.ifCond .eq 21) 39),
  (21, eP (.iload_n 3) 1),
  (22, eM (.invokestatic 181) 181 1 1 1 9 440),
  (25, eB (.ifCond .eq 16) 41),
  (28, eP (.iload 4) 2),
  (30, eC (.iconst 0) 1 0 0),
  (31, eC (.bipush 9) 2 0 9),
  (33, eM (.invokestatic 98) 144 3 1 3 9 134),
  (36, eB (.ifCond .ne 5) 41),
  (39, eC (.iconst (-1)) 1 0 (-1)),
  (40, eR (.ireturn) 0),
  (41, eK [1, 1, 1, 1, 1, 0] (eP (.aload_n 0) 1)),
  (42, eF (.getfield 26) 4 8 2 86),
  (45, eP (.iload_n 2) 1),
  (46, eP (.iaload) 1),
  (47, eB (.ifCond .ge 9) 56),
  (50, eP (.aload_n 0) 1),
  (51, eC (.iconst 1) 1 0 1),
  (52, eM (.invokevirtual 106) 145 2 1 2 4 137),
  (55, eR (.ireturn) 0),
  (56, eP (.aload_n 0) 1),
  (57, eP (.iload_n 2) 1),
  (58, eP (.iload_n 3) 1),
  (59, eM (.invokevirtual 175) 176 3 1 5 4 377),
  (62, eC (.bipush (-9)) 2 0 (-9)),
  (64, eB (.if_icmp .eq 6) 70),
  (67, eC (.bipush (-4)) 2 0 (-4)),
  (69, eR (.ireturn) 0),
  (70, eP (.aload_n 0) 1),
  (71, eF (.getfield 52) 4 19 2 94),
  (74, eP (.iload_n 1) 1),
  (75, eP (.iload_n 3) 1),
  (76, eP (.iastore) 1),
  (77, eP (.aload_n 0) 1),
  (78, eF (.getfield 55) 4 20 2 95),
  (81, eP (.iload_n 1) 1),
  (82, eP (.iload_n 3) 1),
  (83, eM (.invokestatic 181) 181 1 1 1 9 440),
  (86, eB (.ifCond .eq 8) 94),
  (89, eP (.iload 4) 2),
  (91, eB (.goto 4) 95),
  (94, eC (.iconst 0) 1 0 0),
  (95, eK [1, 1, 0, 0, 0, 0] (eP (.iastore) 1)),
  (96, eP (.aload_n 0) 1),
  (97, eF (.getfield 58) 4 21 2 96),
  (100, eP (.iload_n 1) 1),
  (101, eP (.aload_n 0) 1),
  (102, eF (.getfield 158) 4 14 0 395),
  (105, eP (.iastore) 1),
  (106, eP (.aload_n 0) 1),
  (107, eF (.getfield 61) 4 22 2 97),
  (110, eP (.iload_n 1) 1),
  (111, eP (.aload_n 0) 1),
  (112, eF (.getfield 151) 4 13 0 382),
  (115, eP (.iastore) 1),
  (116, eC (.iconst 0) 1 0 0),
  (117, eP (.istore 5) 2),
  (119, eK [1, 1, 0, 0, 0, 1] (eP (.iload 5) 2)),
  (121, eP (.aload_n 0) 1),
  (122, eF (.getfield 151) 4 13 0 382),
  (125, eB (.if_icmp .ge 85) 210),
  (128, eP (.aload_n 0) 1),
  (129, eF (.getfield 64) 4 23 2 98),
  (132, eC (.bipush 6) 2 0 6),
  (134, eP (.iload_n 1) 1),
  (135, eP (.imul) 1),
  (136, eP (.iload 5) 2),
  (138, eP (.iadd) 1),
  (139, eP (.aload_n 0) 1),
  (140, eF (.getfield 39) 4 15 2 90),
  (143, eP (.iload 5) 2),
  (145, eP (.baload) 1),
  (146, eP (.bastore) 1),
  (147, eP (.aload_n 0) 1),
  (148, eF (.getfield 67) 4 24 2 99),
  (151, eC (.bipush 6) 2 0 6),
  (153, eP (.iload_n 1) 1),
  (154, eP (.imul) 1),
  (155, eP (.iload 5) 2),
  (157, eP (.iadd) 1),
  (158, eP (.aload_n 0) 1),
  (159, eF (.getfield 43) 4 16 2 91),
  (162, eP (.iload 5) 2),
  (164, eP (.iaload) 1),
  (165, eP (.iastore) 1),
  (166, eP (.aload_n 0) 1),
  (167, eF (.getfield 70) 4 25 2 100),
  (170, eC (.bipush 6) 2 0 6),
  (172, eP (.iload_n 1) 1),
  (173, eP (.imul) 1),
  (174, eP (.iload 5) 2),
  (176, eP (.iadd) 1),
  (177, eP (.aload_n 0) 1),
  (178, eF (.getfield 46) 4 17 2 92),
  (181, eP (.iload 5) 2),
  (183, eP (.iaload) 1),
  (184, eP (.iastore) 1),
  (185, eP (.aload_n 0) 1),
  (186, eF (.getfield 73) 4 26 2 101),
  (189, eC (.bipush 6) 2 0 6),
  (191, eP (.iload_n 1) 1),
  (192, eP (.imul) 1),
  (193, eP (.iload 5) 2),
  (195, eP (.iadd) 1),
  (196, eP (.aload_n 0) 1),
  (197, eF (.getfield 49) 4 18 2 93),
  (200, eP (.iload 5) 2),
  (202, eP (.iaload) 1),
  (203, eP (.iastore) 1),
  (204, eC (.iinc 5 1) 3 0 1),
  (207, eB (.goto (-88)) 119),
  (210, eP (.aload_n 0) 1),
  (211, eP (.iload_n 1) 1),
  (212, eM (.invokevirtual 184) 186 2 1 2 4 443),
  (215, eR (.ireturn) 0)]
/-- X4_drop -/
def k_184 : List (Nat × En) := [(0, eP (.aload_n 0) 1),
  (1, eP (.iload_n 1) 1),
  (2, eM (.invokevirtual 187) 180 2 1 2 4 459),
  (5, eP (.istore_n 2) 1),
  (6, eP (.iload_n 2) 1),
  (7, eB (.ifCond .ge 5) 12),
  (10, eP (.iload_n 2) 1),
  (11, eR (.ireturn) 0),
  (12, eP (.aload_n 0) 1),
  (13, eF (.getfield 52) 4 19 2 94),
  (16, eP (.iload_n 1) 1),
  (17, eC (.bipush (-9)) 2 0 (-9)),
  (19, eP (.iastore) 1),
  (20, eC (.iconst 1) 1 0 1),
  (21, eR (.ireturn) 0)]
/-- X4_hasName -/
def k_185 : List (Nat × En) := [(0, eC (.iconst 0) 1 0 0),
  (1, eP (.istore_n 3) 1),
  (2, eC (.bipush 6) 2 0 6),
  (4, eP (.iload_n 1) 1),
  (5, eP (.imul) 1),
  (6, eP (.istore 4) 2),
  (8, eP (.iload 4) 2),
  (10, eC (.bipush 6) 2 0 6),
  (12, eP (.iload_n 1) 1),
  (13, eP (.imul) 1),
  (14, eP (.aload_n 0) 1),
  (15, eF (.getfield 61) 4 22 2 97),
  (18, eP (.iload_n 1) 1),
  (19, eP (.iaload) 1),
  (20, eP (.iadd) 1),
  (21, eB (.if_icmp .ge 52) 73),
  (24, eP (.iload_n 3) 1),
  (25, eB (.ifCond .ne 36) 61),
  (28, eP (.aload_n 0) 1),
  (29, eF (.getfield 70) 4 25 2 100),
  (32, eP (.iload 4) 2),
  (34, eP (.iaload) 1),
  (35, eP (.iload_n 2) 1),
  (36, eB (.if_icmp .eq 25) 61),
  (39, eP (.aload_n 0) 1),
  (40, eF (.getfield 67) 4 24 2 99),
  (43, eP (.iload 4) 2),
  (45, eP (.iaload) 1),
  (46, eC (.iconst 3) 1 0 3),
  (47, eB (.if_icmp .ne 18) 65),
  (50, eP (.aload_n 0) 1),
  (51, eF (.getfield 73) 4 26 2 101),
  (54, eP (.iload 4) 2),
  (56, eP (.iaload) 1),
  (57, eP (.iload_n 2) 1),
  (58, eB (.if_icmp .ne 7) 65),
  (61, eC (.iconst 1) 1 0 1),
  (62, eB (.goto 4) 66),
  (65, eC (.iconst 0) 1 0 0),
  (66, eP (.istore_n 3) 1),
  (67, eC (.iinc 4 1) 3 0 1),
  (70, eB (.goto (-62)) 8),
  (73, eP (.iload_n 3) 1),
  (74, eR (.ireturn) 3)]
/-- X4_cases -/
def k_186 : List (Nat × En) := [(0, eP (.aload_n 0) 1),
  (1, eF (.getfield 52) 4 19 2 94),
  (4, eP (.iload_n 1) 1),
  (5, eP (.iaload) 1),
  (6, eC (.iconst 3) 1 0 3),
  (7, eB (.if_icmp .lt 7) 14),
  (10, eC (.iconst 1) 1 0 1),
  (11, eB (.goto 37) 48),
  (14, eP (.aload_n 0) 1),
  (15, eP (.iload_n 1) 1),
  (16, eC (.iconst 0) 1 0 0),
  (17, eM (.invokevirtual 190) 185 3 1 5 4 447),
  (20, eB (.ifCond .eq 24) 44),
  (23, eP (.aload_n 0) 1),
  (24, eP (.iload_n 1) 1),
  (25, eC (.iconst 1) 1 0 1),
  (26, eM (.invokevirtual 190) 185 3 1 5 4 447),
  (29, eB (.ifCond .eq 15) 44),
  (32, eP (.aload_n 0) 1),
  (33, eF (.getfield 32) 4 10 0 88),
  (36, eP (.aload_n 0) 1),
  (37, eF (.getfield 32) 4 10 0 88),
  (40, eP (.imul) 1),
  (41, eB (.goto 7) 48),
  (44, eP (.aload_n 0) 1),
  (45, eF (.getfield 32) 4 10 0 88),
  (48, eR (.ireturn) 0)]
/-- X4_weight -/
def k_187 : List (Nat × En) := [(0, eP (.iload_n 2) 1),
  (1, eC (.iconst 0) 1 0 0),
  (2, eC (.bipush 9) 2 0 9),
  (4, eM (.invokestatic 98) 144 3 1 3 9 134),
  (7, eB (.ifCond .ne 5) 12),
  (10, eC (.iconst (-1)) 1 0 (-1)),
  (11, eR (.ireturn) 0),
  (12, eP (.aload_n 0) 1),
  (13, eP (.iload_n 1) 1),
  (14, eM (.invokevirtual 187) 180 2 1 2 4 459),
  (17, eP (.istore_n 3) 1),
  (18, eP (.iload_n 3) 1),
  (19, eB (.ifCond .ge 5) 24),
  (22, eP (.iload_n 3) 1),
  (23, eR (.ireturn) 0),
  (24, eP (.aload_n 0) 1),
  (25, eF (.getfield 52) 4 19 2 94),
  (28, eP (.iload_n 1) 1),
  (29, eP (.iaload) 1),
  (30, eM (.invokestatic 181) 181 1 1 1 9 440),
  (33, eB (.ifCond .ne 9) 42),
  (36, eP (.aload_n 0) 1),
  (37, eC (.iconst 3) 1 0 3),
  (38, eM (.invokevirtual 106) 145 2 1 2 4 137),
  (41, eR (.ireturn) 0),
  (42, eP (.aload_n 0) 1),
  (43, eF (.getfield 55) 4 20 2 95),
  (46, eP (.iload_n 1) 1),
  (47, eP (.iaload) 1),
  (48, eP (.istore 4) 2),
  (50, eP (.aload_n 0) 1),
  (51, eF (.getfield 55) 4 20 2 95),
  (54, eP (.iload_n 1) 1),
  (55, eP (.iload_n 2) 1),
  (56, eP (.iastore) 1),
  (57, eP (.iload 4) 2),
  (59, eR (.ireturn) 0)]
/-- X4_lawTells -/
def k_188 : List (Nat × En) := [(0, eP (.iload_n 2) 1),
  (1, eB (.ifCond .ne 12) 13),
  (4, eP (.aload_n 0) 1),
  (5, eF (.getfield 52) 4 19 2 94),
  (8, eP (.iload_n 1) 1),
  (9, eP (.iaload) 1),
  (10, eB (.goto 22) 32),
  (13, eP (.iload_n 2) 1),
  (14, eC (.iconst 1) 1 0 1),
  (15, eB (.if_icmp .ne 12) 27),
  (18, eP (.aload_n 0) 1),
  (19, eF (.getfield 61) 4 22 2 97),
  (22, eP (.iload_n 1) 1),
  (23, eP (.iaload) 1),
  (24, eB (.goto 8) 32),
  (27, eP (.aload_n 0) 1),
  (28, eP (.iload_n 1) 1),
  (29, eM (.invokevirtual 184) 186 2 1 2 4 443),
  (32, eR (.ireturn) 0)]
/-- X4_told -/
def k_189 : List (Nat × En) := [(0, eP (.iload_n 2) 1),
  (1, eC (.iconst 0) 1 0 0),
  (2, eC (.iconst 2) 1 0 2),
  (3, eM (.invokestatic 98) 144 3 1 3 9 134),
  (6, eB (.ifCond .ne 5) 11),
  (9, eC (.iconst (-1)) 1 0 (-1)),
  (10, eR (.ireturn) 0),
  (11, eP (.aload_n 0) 1),
  (12, eP (.iload_n 1) 1),
  (13, eM (.invokevirtual 187) 180 2 1 2 4 459),
  (16, eP (.istore_n 3) 1),
  (17, eP (.iload_n 3) 1),
  (18, eB (.ifCond .ge 7) 25),
  (21, eP (.iload_n 3) 1),
  (22, eB (.goto 14) 36),
  (25, eP (.aload_n 0) 1),
  (26, eP (.aload_n 0) 1),
  (27, eP (.iload_n 1) 1),
  (28, eP (.iload_n 2) 1),
  (29, eM (.invokevirtual 193) 188 3 1 3 4 483),
  (32, eC (.iconst 1) 1 0 1),
  (33, eM (.invokevirtual 120) 146 3 1 3 4 184),
  (36, eR (.ireturn) 0)]
/-- X4_notMany -/
def k_190 : List (Nat × En) := [(0, eC (.iconst 0) 1 0 0),
  (1, eP (.istore_n 2) 1),
  (2, eC (.bipush 6) 2 0 6),
  (4, eP (.iload_n 1) 1),
  (5, eP (.imul) 1),
  (6, eP (.istore_n 3) 1),
  (7, eP (.iload_n 3) 1),
  (8, eC (.bipush 6) 2 0 6),
  (10, eP (.iload_n 1) 1),
  (11, eP (.imul) 1),
  (12, eP (.aload_n 0) 1),
  (13, eF (.getfield 61) 4 22 2 97),
  (16, eP (.iload_n 1) 1),
  (17, eP (.iaload) 1),
  (18, eP (.iadd) 1),
  (19, eB (.if_icmp .ge 26) 45),
  (22, eP (.iload_n 2) 1),
  (23, eP (.aload_n 0) 1),
  (24, eF (.getfield 64) 4 23 2 98),
  (27, eP (.iload_n 3) 1),
  (28, eP (.baload) 1),
  (29, eB (.ifCond .eq 7) 36),
  (32, eC (.iconst 1) 1 0 1),
  (33, eB (.goto 4) 37),
  (36, eC (.iconst 0) 1 0 0),
  (37, eP (.iadd) 1),
  (38, eP (.istore_n 2) 1),
  (39, eC (.iinc 3 1) 3 0 1),
  (42, eB (.goto (-35)) 7),
  (45, eP (.iload_n 2) 1),
  (46, eR (.ireturn) 0)]
/-- X4_sayingOf -/
def k_191 : List (Nat × En) := [(0, eP (.iload_n 0) 1),
  (1, eC (.iconst 3) 1 0 3),
  (2, eB (.if_icmp .ne 14) 16),
  (5, eC (.bipush 12) 2 0 12),
  (7, eC (.iconst 4) 1 0 4),
  (8, eP (.iload_n 1) 1),
  (9, eP (.imul) 1),
  (10, eP (.iadd) 1),
  (11, eP (.iload_n 2) 1),
  (12, eP (.iadd) 1),
  (13, eB (.goto 8) 21),
  (16, eC (.iconst 4) 1 0 4),
  (17, eP (.iload_n 0) 1),
  (18, eP (.imul) 1),
  (19, eP (.iload_n 1) 1),
  (20, eP (.iadd) 1),
  (21, eR (.ireturn) 0)]
/-- X4_markOf -/
def k_192 : List (Nat × En) := [(0, eP (.iload_n 2) 1),
  (1, eC (.iconst 1) 1 0 1),
  (2, eB (.if_icmp .ne 11) 13),
  (5, eP (.aload_n 0) 1),
  (6, eP (.iload_n 1) 1),
  (7, eM (.invokevirtual 196) 190 2 1 4 4 516),
  (10, eB (.goto 54) 64),
  (13, eP (.iload_n 2) 1),
  (14, eC (.iconst 2) 1 0 2),
  (15, eB (.if_icmp .ne 12) 27),
  (18, eP (.aload_n 0) 1),
  (19, eF (.getfield 55) 4 20 2 95),
  (22, eP (.iload_n 1) 1),
  (23, eP (.iaload) 1),
  (24, eB (.goto 40) 64),
  (27, eP (.iload_n 2) 1),
  (28, eC (.iconst 3) 1 0 3),
  (29, eB (.if_icmp .ne 12) 41),
  (32, eP (.aload_n 0) 1),
  (33, eF (.getfield 58) 4 21 2 96),
  (36, eP (.iload_n 1) 1),
  (37, eP (.iaload) 1),
  (38, eB (.goto 26) 64),
  (41, eP (.iload_n 2) 1),
  (42, eC (.iconst 4) 1 0 4),
  (43, eB (.if_icmp .ne 20) 63),
  (46, eP (.aload_n 0) 1),
  (47, eF (.getfield 67) 4 24 2 99),
  (50, eC (.bipush 6) 2 0 6),
  (52, eP (.iload_n 1) 1),
  (53, eP (.imul) 1),
  (54, eP (.iaload) 1),
  (55, eC (.iconst 0) 1 0 0),
  (56, eC (.iconst 0) 1 0 0),
  (57, eM (.invokestatic 199) 191 3 1 3 9 520),
  (60, eB (.goto 4) 64),
  (63, eC (.iconst 0) 1 0 0),
  (64, eR (.ireturn) 0)]
/-- X4_mark -/
def k_193 : List (Nat × En) := [(0, eP (.iload_n 2) 1),
  (1, eC (.iconst 1) 1 0 1),
  (2, eC (.iconst 4) 1 0 4),
  (3, eM (.invokestatic 98) 144 3 1 3 9 134),
  (6, eB (.ifCond .ne 5) 11),
  (9, eC (.iconst (-1)) 1 0 (-1)),
  (10, eR (.ireturn) 0),
  (11, eP (.aload_n 0) 1),
  (12, eP (.iload_n 1) 1),
  (13, eM (.invokevirtual 187) 180 2 1 2 4 459),
  (16, eP (.istore_n 3) 1),
  (17, eP (.iload_n 3) 1),
  (18, eB (.ifCond .ge 5) 23),
  (21, eP (.iload_n 3) 1),
  (22, eR (.ireturn) 0),
  (23, eP (.aload_n 0) 1),
  (24, eF (.getfield 52) 4 19 2 94),
  (27, eP (.iload_n 1) 1),
  (28, eP (.iaload) 1),
  (29, eP (.iload_n 2) 1),
  (30, eB (.if_icmp .eq 33) 63),
  (33, eP (.iload_n 2) 1),
  (34, eC (.iconst 1) 1 0 1),
  (35, eB (.if_icmp .ne 13) 48),
  (38, eP (.aload_n 0) 1),
  (39, eF (.getfield 52) 4 19 2 94),
  (42, eP (.iload_n 1) 1),
  (43, eP (.iaload) 1),
  (44, eC (.iconst 4) 1 0 4),
  (45, eB (.if_icmp .eq 18) 63),
  (48, eK [1, 1, 1, 0, 0] (eP (.iload_n 2) 1)),
  (49, eC (.iconst 2) 1 0 2),
  (50, eB (.if_icmp .ne 17) 67),
  (53, eP (.aload_n 0) 1),
  (54, eF (.getfield 52) 4 19 2 94),
  (57, eP (.iload_n 1) 1),
  (58, eP (.iaload) 1),
  (59, eC (.iconst 3) 1 0 3),
  (60, eB (.if_icmp .ne 7) 67),
  (63, eC (.iconst 1) 1 0 1),
  (64, eB (.goto 4) 68),
  (67, eC (.iconst 0) 1 0 0),
  (68, eK [1, 1, 1, 0, 0] (eP (.istore 4) 2)),
  (70, eP (.iload 4) 2),
  (72, eB (.ifCond .eq 12) 84),
  (75, eP (.aload_n 0) 1),
  (76, eP (.iload_n 1) 1),
  (77, eP (.iload_n 2) 1),
  (78, eM (.invokevirtual 203) 192 3 1 3 4 512),
  (81, eB (.goto 8) 89),
  (84, eP (.aload_n 0) 1),
  (85, eC (.iconst 3) 1 0 3),
  (86, eM (.invokevirtual 106) 145 2 1 2 4 137),
  (89, eR (.ireturn) 0)]
/-- X4_setBits -/
def k_194 : List (Nat × En) := [(0, eC (.iconst 0) 1 0 0),
  (1, eP (.istore_n 1) 1),
  (2, eC (.iconst 0) 1 0 0),
  (3, eP (.istore_n 2) 1),
  (4, eP (.iload_n 2) 1),
  (5, eC (.bipush 28) 2 0 28),
  (7, eB (.if_icmp .ge 49) 56),
  (10, eP (.aload_n 0) 1),
  (11, eF (.getfield 76) 4 27 2 102),
  (14, eP (.iload_n 2) 1),
  (15, eP (.aload_n 0) 1),
  (16, eF (.getfield 36) 4 11 2 89),
  (19, eP (.iload_n 2) 1),
  (20, eP (.iaload) 1),
  (21, eC (.iconst 3) 1 0 3),
  (22, eB (.if_icmp .ne 7) 29),
  (25, eP (.iload_n 1) 1),
  (26, eB (.goto 5) 31),
  (29, eC (.bipush (-9)) 2 0 (-9)),
  (31, eP (.iastore) 1),
  (32, eP (.iload_n 1) 1),
  (33, eP (.aload_n 0) 1),
  (34, eF (.getfield 36) 4 11 2 89),
  (37, eP (.iload_n 2) 1),
  (38, eP (.iaload) 1),
  (39, eC (.iconst 3) 1 0 3),
  (40, eB (.if_icmp .ne 7) 47),
  (43, eC (.iconst 1) 1 0 1),
  (44, eB (.goto 4) 48),
  (47, eC (.iconst 0) 1 0 0),
  (48, eP (.iadd) 1),
  (49, eP (.istore_n 1) 1),
  (50, eC (.iinc 2 1) 3 0 1),
  (53, eB (.goto (-49)) 4),
  (56, eP (.aload_n 0) 1),
  (57, eC (.iconst 1) 1 0 1),
  (58, eP (.iload_n 1) 1),
  (59, eP (.ishl) 1),
  (60, eF (.putfield 206) 4 28 0 531),
  (63, eR (.return_) 2)]
/-- X4_isSo -/
def k_195 : List (Nat × En) := [(0, eP (.aload_n 0) 1),
  (1, eF (.getfield 36) 4 11 2 89),
  (4, eP (.iload_n 1) 1),
  (5, eP (.iaload) 1),
  (6, eC (.iconst 1) 1 0 1),
  (7, eB (.if_icmp .eq 26) 33),
  (10, eP (.aload_n 0) 1),
  (11, eF (.getfield 36) 4 11 2 89),
  (14, eP (.iload_n 1) 1),
  (15, eP (.iaload) 1),
  (16, eC (.iconst 3) 1 0 3),
  (17, eB (.if_icmp .ne 20) 37),
  (20, eP (.iload_n 2) 1),
  (21, eP (.aload_n 0) 1),
  (22, eF (.getfield 76) 4 27 2 102),
  (25, eP (.iload_n 1) 1),
  (26, eP (.iaload) 1),
  (27, eM (.invokestatic 209) 147 2 1 2 9 637),
  (30, eB (.ifCond .eq 7) 37),
  (33, eC (.iconst 1) 1 0 1),
  (34, eB (.goto 4) 38),
  (37, eC (.iconst 0) 1 0 0),
  (38, eR (.ireturn) 3)]
/-- X4_holds -/
def k_196 : List (Nat × En) := [(0, eP (.aload_n 0) 1),
  (1, eF (.getfield 70) 4 25 2 100),
  (4, eP (.iload_n 1) 1),
  (5, eP (.iaload) 1),
  (6, eB (.ifCond .ne 7) 13),
  (9, eP (.iload_n 2) 1),
  (10, eB (.goto 4) 14),
  (13, eP (.iload_n 3) 1),
  (14, eP (.istore 5) 2),
  (16, eP (.aload_n 0) 1),
  (17, eF (.getfield 73) 4 26 2 101),
  (20, eP (.iload_n 1) 1),
  (21, eP (.iaload) 1),
  (22, eB (.ifCond .ne 7) 29),
  (25, eP (.iload_n 2) 1),
  (26, eB (.goto 4) 30),
  (29, eP (.iload_n 3) 1),
  (30, eK [1, 1, 0, 0, 1, 1, 0] (eP (.istore 6) 2)),
  (32, eP (.aload_n 0) 1),
  (33, eP (.aload_n 0) 1),
  (34, eF (.getfield 67) 4 24 2 99),
  (37, eP (.iload_n 1) 1),
  (38, eP (.iaload) 1),
  (39, eP (.iload 5) 2),
  (41, eP (.iload 6) 2),
  (43, eM (.invokestatic 199) 191 3 1 3 9 520),
  (46, eP (.iload 4) 2),
  (48, eM (.invokevirtual 212) 195 3 1 3 4 633),
  (51, eP (.aload_n 0) 1),
  (52, eF (.getfield 64) 4 23 2 98),
  (55, eP (.iload_n 1) 1),
  (56, eP (.baload) 1),
  (57, eB (.if_icmp .eq 7) 64),
  (60, eC (.iconst 1) 1 0 1),
  (61, eB (.goto 4) 65),
  (64, eC (.iconst 0) 1 0 0),
  (65, eR (.ireturn) 3)]
/-- X4_breaks -/
def k_197 : List (Nat × En) := [(0, eP (.aload_n 0) 1),
  (1, eF (.getfield 52) 4 19 2 94),
  (4, eP (.iload_n 1) 1),
  (5, eP (.iaload) 1),
  (6, eC (.iconst 3) 1 0 3),
  (7, eB (.if_icmp .lt 86) 93),
  (10, eC (.iconst 0) 1 0 0),
  (11, eP (.istore_n 3) 1),
  (12, eC (.iconst 0) 1 0 0),
  (13, eP (.istore 4) 2),
  (15, eK [1, 1, 1, 1, 1, 0, 0, 0, 0, 0] (eP (.iload 4) 2)),
  (17, eP (.aload_n 0) 1),
  (18, eF (.getfield 32) 4 10 0 88),
  (21, eB (.if_icmp .ge 33) 54),
  (24, eP (.iload_n 3) 1),
  (25, eP (.aload_n 0) 1),
  (26, eC (.bipush 6) 2 0 6),
  (28, eP (.iload_n 1) 1),
  (29, eP (.imul) 1),
  (30, eP (.iload 4) 2),
  (32, eP (.iload 4) 2),
  (34, eP (.iload_n 2) 1),
  (35, eM (.invokevirtual 215) 196 5 1 7 4 629),
  (38, eB (.ifCond .eq 7) 45),
  (41, eC (.iconst 1) 1 0 1),
  (42, eB (.goto 4) 46),
  (45, eC (.iconst 0) 1 0 0),
  (46, eP (.iadd) 1),
  (47, eP (.istore_n 3) 1),
  (48, eC (.iinc 4 1) 3 0 1),
  (51, eB (.goto (-36)) 15),
  (54, eP (.aload_n 0) 1),
  (55, eF (.getfield 52) 4 19 2 94),
  (58, eP (.iload_n 1) 1),
  (59, eP (.iaload) 1),
  (60, eC (.iconst 3) 1 0 3),
  (61, eB (.if_icmp .ne 21) 82),
  (64, eP (.iload_n 3) 1),
  (65, eP (.aload_n 0) 1),
  (66, eF (.getfield 58) 4 21 2 96),
  (69, eP (.iload_n 1) 1),
  (70, eP (.iaload) 1),
  (71, eB (.if_icmp .ge 7) 78),
  (74, eC (.iconst 1) 1 0 1),
  (75, eB (.goto 17) 92),
  (78, eC (.iconst 0) 1 0 0),
  (79, eB (.goto 13) 92),
  (82, eP (.iload_n 3) 1),
  (83, eC (.iconst 1) 1 0 1),
  (84, eB (.if_icmp .ne 7) 91),
  (87, eC (.iconst 0) 1 0 0),
  (88, eB (.goto 4) 92),
  (91, eC (.iconst 1) 1 0 1),
  (92, eR (.ireturn) 0),
  (93, eP (.aload_n 0) 1),
  (94, eF (.getfield 52) 4 19 2 94),
  (97, eP (.iload_n 1) 1),
  (98, eP (.iaload) 1),
  (99, eC (.iconst 1) 1 0 1),
  (100, eB (.if_icmp .ge 5) 105),
  (103, eC (.iconst 0) 1 0 0),
  (104, eR (.ireturn) 0),
  (105, eC (.iconst 0) 1 0 0),
  (106, eP (.istore_n 3) 1),
  (107, eP (.aload_n 0) 1),
  (108, eP (.iload_n 1) 1),
  (109, eC (.iconst 0) 1 0 0),
  (110, eM (.invokevirtual 190) 185 3 1 5 4 447),
  (113, eB (.ifCond .eq 10) 123),
  (116, eP (.aload_n 0) 1),
  (117, eF (.getfield 32) 4 10 0 88),
  (120, eB (.goto 4) 124),
  (123, eC (.iconst 1) 1 0 1),
  (124, eK [1, 1, 1, 1, 0, 0, 0, 0, 0, 0] (eP (.istore 4) 2)),
  (126, eP (.aload_n 0) 1),
  (127, eP (.iload_n 1) 1),
  (128, eC (.iconst 1) 1 0 1),
  (129, eM (.invokevirtual 190) 185 3 1 5 4 447),
  (132, eB (.ifCond .eq 10) 142),
  (135, eP (.aload_n 0) 1),
  (136, eF (.getfield 32) 4 10 0 88),
  (139, eB (.goto 4) 143),
  (142, eC (.iconst 1) 1 0 1),
  (143, eP (.istore 5) 2),
  (145, eC (.iconst 0) 1 0 0),
  (146, eP (.istore 6) 2),
  (148, eK [1, 1, 1, 1, 1, 1, 1, 0, 0, 0] (eP (.iload 6) 2)),
  (150, eP (.iload 4) 2),
  (152, eB (.if_icmp .ge 87) 239),
  (155, eC (.iconst 0) 1 0 0),
  (156, eP (.istore 7) 2),
  (158, eK [1, 1, 1, 1, 1, 1, 1, 1, 0, 0] (eP (.iload 7) 2)),
  (160, eP (.iload 5) 2),
  (162, eB (.if_icmp .ge 71) 233),
  (165, eC (.iconst 0) 1 0 0),
  (166, eP (.istore 8) 2),
  (168, eC (.bipush 6) 2 0 6),
  (170, eP (.iload_n 1) 1),
  (171, eP (.imul) 1),
  (172, eP (.istore 9) 2),
  (174, eP (.iload 9) 2),
  (176, eC (.bipush 6) 2 0 6),
  (178, eP (.iload_n 1) 1),
  (179, eP (.imul) 1),
  (180, eP (.aload_n 0) 1),
  (181, eF (.getfield 61) 4 22 2 97),
  (184, eP (.iload_n 1) 1),
  (185, eP (.iaload) 1),
  (186, eP (.iadd) 1),
  (187, eB (.if_icmp .ge 27) 214),
  (190, eP (.iload 8) 2),
  (192, eB (.ifCond .ne 22) 214),
  (195, eP (.aload_n 0) 1),
  (196, eP (.iload 9) 2),
  (198, eP (.iload 6) 2),
  (200, eP (.iload 7) 2),
  (202, eP (.iload_n 2) 1),
  (203, eM (.invokevirtual 215) 196 5 1 7 4 629),
  (206, eP (.istore 8) 2),
  (208, eC (.iinc 9 1) 3 0 1),
  (211, eB (.goto (-37)) 174),
  (214, eK [1, 1, 1, 1, 1, 1, 1, 1, 1, 0] (eP (.iload_n 3) 1)),
  (215, eP (.iload 8) 2),
  (217, eB (.ifCond .eq 7) 224),
  (220, eC (.iconst 0) 1 0 0),
  (221, eB (.goto 4) 225),
  (224, eC (.iconst 1) 1 0 1),
  (225, eP (.iadd) 1),
  (226, eP (.istore_n 3) 1),
  (227, eC (.iinc 7 1) 3 0 1),
  (230, eB (.goto (-72)) 158),
  (233, eC (.iinc 6 1) 3 0 1),
  (236, eB (.goto (-88)) 148),
  (239, eP (.iload_n 3) 1),
  (240, eR (.ireturn) 0)]
/-- X4_setTable -/
def k_198 : List (Nat × En) := [(0, eP (.aload_n 0) 1),
  (1, eM (.invokevirtual 219) 194 1 0 3 4 532),
  (4, eC (.iconst 0) 1 0 0),
  (5, eP (.istore_n 1) 1),
  (6, eK [1, 1, 0] (eP (.iload_n 1) 1)),
  (7, eC (.bipush 8) 2 0 8),
  (9, eB (.if_icmp .ge 43) 52),
  (12, eC (.iconst 0) 1 0 0),
  (13, eP (.istore_n 2) 1),
  (14, eP (.iload_n 2) 1),
  (15, eP (.aload_n 0) 1),
  (16, eF (.getfield 206) 4 28 0 531),
  (19, eB (.if_icmp .ge 27) 46),
  (22, eP (.aload_n 0) 1),
  (23, eF (.getfield 79) 4 29 2 103),
  (26, eC (.sipush 1024) 3 0 1024),
  (29, eP (.iload_n 1) 1),
  (30, eP (.imul) 1),
  (31, eP (.iload_n 2) 1),
  (32, eP (.iadd) 1),
  (33, eP (.aload_n 0) 1),
  (34, eP (.iload_n 1) 1),
  (35, eP (.iload_n 2) 1),
  (36, eM (.invokevirtual 222) 197 3 1 10 4 625),
  (39, eP (.iastore) 1),
  (40, eC (.iinc 2 1) 3 0 1),
  (43, eB (.goto (-29)) 14),
  (46, eC (.iinc 1 1) 3 0 1),
  (49, eB (.goto (-43)) 6),
  (52, eR (.return_) 2)]
/-- X4_costBy -/
def k_199 : List (Nat × En) := [(0, eC (.iconst 0) 1 0 0),
  (1, eP (.istore_n 3) 1),
  (2, eC (.iconst 0) 1 0 0),
  (3, eP (.istore 4) 2),
  (5, eK [1, 1, 1, 1, 1, 0] (eP (.iload 4) 2)),
  (7, eC (.bipush 8) 2 0 8),
  (9, eB (.if_icmp .ge 88) 97),
  (12, eP (.iload_n 1) 1),
  (13, eP (.iload 4) 2),
  (15, eM (.invokestatic 209) 147 2 1 2 9 637),
  (18, eB (.ifCond .eq 19) 37),
  (21, eP (.aload_n 0) 1),
  (22, eF (.getfield 79) 4 29 2 103),
  (25, eC (.sipush 1024) 3 0 1024),
  (28, eP (.iload 4) 2),
  (30, eP (.imul) 1),
  (31, eP (.iload_n 2) 1),
  (32, eP (.iadd) 1),
  (33, eP (.iaload) 1),
  (34, eB (.goto 4) 38),
  (37, eC (.iconst 0) 1 0 0),
  (38, eK [1, 1, 1, 1, 1, 0] (eP (.istore 5) 2)),
  (40, eP (.iload 5) 2),
  (42, eB (.ifCond .le 19) 61),
  (45, eP (.aload_n 0) 1),
  (46, eF (.getfield 52) 4 19 2 94),
  (49, eP (.iload 4) 2),
  (51, eP (.iaload) 1),
  (52, eM (.invokestatic 225) 182 1 1 1 9 640),
  (55, eB (.ifCond .eq 6) 61),
  (58, eC (.bipush (-9)) 2 0 (-9)),
  (60, eR (.ireturn) 0),
  (61, eP (.iload_n 3) 1),
  (62, eP (.aload_n 0) 1),
  (63, eF (.getfield 52) 4 19 2 94),
  (66, eP (.iload 4) 2),
  (68, eP (.iaload) 1),
  (69, eM (.invokestatic 181) 181 1 1 1 9 440),
  (72, eB (.ifCond .eq 16) 88),
  (75, eP (.iload 5) 2),
  (77, eP (.aload_n 0) 1),
  (78, eF (.getfield 55) 4 20 2 95),
  (81, eP (.iload 4) 2),
  (83, eP (.iaload) 1),
  (84, eP (.imul) 1),
  (85, eB (.goto 4) 89),
  (88, eC (.iconst 0) 1 0 0),
  (89, eP (.iadd) 1),
  (90, eP (.istore_n 3) 1),
  (91, eC (.iinc 4 1) 3 0 1),
  (94, eB (.goto (-89)) 5),
  (97, eP (.iload_n 3) 1),
  (98, eR (.ireturn) 0)]
/-- X4_setShares -/
def k_200 : List (Nat × En) := [(0, eP (.aload_n 0) 1),
  (1, eC (.bipush (-9)) 2 0 (-9)),
  (3, eF (.putfield 228) 4 30 0 665),
  (6, eC (.iconst 0) 1 0 0),
  (7, eP (.istore_n 2) 1),
  (8, eK [1, 1, 1, 0] (eP (.iload_n 2) 1)),
  (9, eP (.aload_n 0) 1),
  (10, eF (.getfield 206) 4 28 0 531),
  (13, eB (.if_icmp .ge 65) 78),
  (16, eP (.aload_n 0) 1),
  (17, eF (.getfield 82) 4 32 2 104),
  (20, eP (.iload_n 2) 1),
  (21, eP (.aload_n 0) 1),
  (22, eP (.iload_n 1) 1),
  (23, eP (.iload_n 2) 1),
  (24, eM (.invokevirtual 231) 199 3 1 6 4 679),
  (27, eP (.iastore) 1),
  (28, eP (.aload_n 0) 1),
  (29, eF (.getfield 82) 4 32 2 104),
  (32, eP (.iload_n 2) 1),
  (33, eP (.iaload) 1),
  (34, eB (.ifCond .lt 38) 72),
  (37, eP (.aload_n 0) 1),
  (38, eF (.getfield 228) 4 30 0 665),
  (41, eB (.ifCond .lt 16) 57),
  (44, eP (.aload_n 0) 1),
  (45, eF (.getfield 82) 4 32 2 104),
  (48, eP (.iload_n 2) 1),
  (49, eP (.iaload) 1),
  (50, eP (.aload_n 0) 1),
  (51, eF (.getfield 234) 4 31 0 664),
  (54, eB (.if_icmp .ge 18) 72),
  (57, eP (.aload_n 0) 1),
  (58, eP (.iload_n 2) 1),
  (59, eF (.putfield 228) 4 30 0 665),
  (62, eP (.aload_n 0) 1),
  (63, eP (.aload_n 0) 1),
  (64, eF (.getfield 82) 4 32 2 104),
  (67, eP (.iload_n 2) 1),
  (68, eP (.iaload) 1),
  (69, eF (.putfield 234) 4 31 0 664),
  (72, eC (.iinc 2 1) 3 0 1),
  (75, eB (.goto (-67)) 8),
  (78, eP (.aload_n 0) 1),
  (79, eL (.lconst 0) 1 0 0),
  (80, eF (.putfield 237) 4 34 1 678),
  (83, eC (.iconst 0) 1 0 0),
  (84, eP (.istore_n 2) 1),
  (85, eK [1, 0, 1, 0] (eP (.iload_n 2) 1)),
  (86, eP (.aload_n 0) 1),
  (87, eF (.getfield 206) 4 28 0 531),
  (90, eB (.if_icmp .ge 67) 157),
  (93, eP (.aload_n 0) 1),
  (94, eF (.getfield 82) 4 32 2 104),
  (97, eP (.iload_n 2) 1),
  (98, eP (.iaload) 1),
  (99, eP (.aload_n 0) 1),
  (100, eF (.getfield 234) 4 31 0 664),
  (103, eP (.isub) 1),
  (104, eP (.istore_n 3) 1),
  (105, eP (.aload_n 0) 1),
  (106, eF (.getfield 85) 4 33 2 105),
  (109, eP (.iload_n 2) 1),
  (110, eP (.aload_n 0) 1),
  (111, eF (.getfield 82) 4 32 2 104),
  (114, eP (.iload_n 2) 1),
  (115, eP (.iaload) 1),
  (116, eB (.ifCond .lt 9) 125),
  (119, eP (.iload_n 3) 1),
  (120, eC (.bipush 20) 2 0 20),
  (122, eB (.if_icmp .le 7) 129),
  (125, eL (.lconst 0) 1 0 0),
  (126, eB (.goto 9) 135),
  (129, eL (.lconst 1) 1 0 1),
  (130, eC (.bipush 20) 2 0 20),
  (132, eP (.iload_n 3) 1),
  (133, eP (.isub) 1),
  (134, eP (.lshl) 1),
  (135, eK [1, 0, 1, 0] (eP (.lastore) 1)),
  (136, eP (.aload_n 0) 1),
  (137, eP (.dup) 1),
  (138, eF (.getfield 237) 4 34 1 678),
  (141, eP (.aload_n 0) 1),
  (142, eF (.getfield 85) 4 33 2 105),
  (145, eP (.iload_n 2) 1),
  (146, eP (.laload) 1),
  (147, eP (.ladd) 1),
  (148, eF (.putfield 237) 4 34 1 678),
  (151, eC (.iinc 2 1) 3 0 1),
  (154, eB (.goto (-69)) 85),
  (157, eP (.aload_n 0) 1),
  (158, eF (.getfield 228) 4 30 0 665),
  (161, eB (.ifCond .lt 7) 168),
  (164, eC (.iconst 1) 1 0 1),
  (165, eB (.goto 4) 169),
  (168, eC (.iconst 0) 1 0 0),
  (169, eR (.ireturn) 3)]
/-- X4_setAll -/
def k_201 : List (Nat × En) := [(0, eP (.aload_n 0) 1),
  (1, eM (.invokevirtual 240) 198 1 0 3 4 670),
  (4, eP (.aload_n 0) 1),
  (5, eC (.sipush 255) 3 0 255),
  (8, eM (.invokevirtual 243) 200 2 1 4 4 674),
  (11, eR (.ireturn) 3)]
/-- X4_shareOf -/
def k_202 : List (Nat × En) := [(0, eL (.lconst 0) 1 0 0),
  (1, eP (.lstore_n 2) 1),
  (2, eC (.iconst 0) 1 0 0),
  (3, eP (.istore 4) 2),
  (5, eK [1, 1, 1, 0, 1] (eP (.iload 4) 2)),
  (7, eP (.aload_n 0) 1),
  (8, eF (.getfield 206) 4 28 0 531),
  (11, eB (.if_icmp .ge 33) 44),
  (14, eP (.lload_n 2) 1),
  (15, eP (.aload_n 0) 1),
  (16, eP (.iload_n 1) 1),
  (17, eP (.iload 4) 2),
  (19, eM (.invokevirtual 212) 195 3 1 3 4 633),
  (22, eB (.ifCond .eq 13) 35),
  (25, eP (.aload_n 0) 1),
  (26, eF (.getfield 85) 4 33 2 105),
  (29, eP (.iload 4) 2),
  (31, eP (.laload) 1),
  (32, eB (.goto 4) 36),
  (35, eL (.lconst 0) 1 0 0),
  (36, eP (.ladd) 1),
  (37, eP (.lstore_n 2) 1),
  (38, eC (.iinc 4 1) 3 0 1),
  (41, eB (.goto (-36)) 5),
  (44, eP (.lload_n 2) 1),
  (45, eR (.lreturn) 1)]
/-- X4_shareOfBoth -/
def k_203 : List (Nat × En) := [(0, eL (.lconst 0) 1 0 0),
  (1, eP (.lstore_n 3) 1),
  (2, eC (.iconst 0) 1 0 0),
  (3, eP (.istore 5) 2),
  (5, eK [1, 1, 1, 1, 0, 1] (eP (.iload 5) 2)),
  (7, eP (.aload_n 0) 1),
  (8, eF (.getfield 206) 4 28 0 531),
  (11, eB (.if_icmp .ge 43) 54),
  (14, eP (.lload_n 3) 1),
  (15, eP (.aload_n 0) 1),
  (16, eP (.iload_n 1) 1),
  (17, eP (.iload 5) 2),
  (19, eM (.invokevirtual 212) 195 3 1 3 4 633),
  (22, eB (.ifCond .eq 23) 45),
  (25, eP (.aload_n 0) 1),
  (26, eP (.iload_n 2) 1),
  (27, eP (.iload 5) 2),
  (29, eM (.invokevirtual 212) 195 3 1 3 4 633),
  (32, eB (.ifCond .eq 13) 45),
  (35, eP (.aload_n 0) 1),
  (36, eF (.getfield 85) 4 33 2 105),
  (39, eP (.iload 5) 2),
  (41, eP (.laload) 1),
  (42, eB (.goto 4) 46),
  (45, eL (.lconst 0) 1 0 0),
  (46, eP (.ladd) 1),
  (47, eP (.lstore_n 3) 1),
  (48, eC (.iinc 5 1) 3 0 1),
  (51, eB (.goto (-46)) 5),
  (54, eP (.lload_n 3) 1),
  (55, eR (.lreturn) 1)]
/-- X4_worlds -/
def k_204 : List (Nat × En) := [(0, eP (.aload_n 0) 1),
  (1, eM (.invokevirtual 219) 194 1 0 3 4 532),
  (4, eP (.aload_n 0) 1),
  (5, eF (.getfield 206) 4 28 0 531),
  (8, eR (.ireturn) 0)]
/-- X4_isWorld -/
def k_205 : List (Nat × En) := [(0, eP (.aload_n 0) 1),
  (1, eM (.invokevirtual 219) 194 1 0 3 4 532),
  (4, eP (.iload_n 1) 1),
  (5, eC (.iconst 0) 1 0 0),
  (6, eP (.aload_n 0) 1),
  (7, eF (.getfield 206) 4 28 0 531),
  (10, eC (.iconst 1) 1 0 1),
  (11, eP (.isub) 1),
  (12, eM (.invokestatic 98) 144 3 1 3 9 134),
  (15, eR (.ireturn) 3)]
/-- X4_cost -/
def k_206 : List (Nat × En) := [(0, eP (.aload_n 0) 1),
  (1, eP (.iload_n 1) 1),
  (2, eM (.invokevirtual 246) 205 2 1 2 4 621),
  (5, eB (.ifCond .ne 5) 10),
  (8, eC (.iconst (-1)) 1 0 (-1)),
  (9, eR (.ireturn) 0),
  (10, eC (.iconst 0) 1 0 0),
  (11, eP (.istore_n 2) 1),
  (12, eC (.iconst 0) 1 0 0),
  (13, eP (.istore_n 3) 1),
  (14, eC (.iconst 0) 1 0 0),
  (15, eP (.istore 4) 2),
  (17, eK [1, 1, 1, 1, 1, 0] (eP (.iload 4) 2)),
  (19, eC (.bipush 8) 2 0 8),
  (21, eB (.if_icmp .ge 70) 91),
  (24, eP (.aload_n 0) 1),
  (25, eP (.iload 4) 2),
  (27, eP (.iload_n 1) 1),
  (28, eM (.invokevirtual 222) 197 3 1 10 4 625),
  (31, eP (.istore 5) 2),
  (33, eP (.iload_n 2) 1),
  (34, eP (.aload_n 0) 1),
  (35, eF (.getfield 52) 4 19 2 94),
  (38, eP (.iload 4) 2),
  (40, eP (.iaload) 1),
  (41, eM (.invokestatic 181) 181 1 1 1 9 440),
  (44, eB (.ifCond .eq 16) 60),
  (47, eP (.aload_n 0) 1),
  (48, eF (.getfield 55) 4 20 2 95),
  (51, eP (.iload 4) 2),
  (53, eP (.iaload) 1),
  (54, eP (.iload 5) 2),
  (56, eP (.imul) 1),
  (57, eB (.goto 4) 61),
  (60, eC (.iconst 0) 1 0 0),
  (61, eK [1, 1, 0, 1, 1, 1] (eP (.iadd) 1)),
  (62, eP (.istore_n 2) 1),
  (63, eP (.iload_n 3) 1),
  (64, eP (.aload_n 0) 1),
  (65, eF (.getfield 52) 4 19 2 94),
  (68, eP (.iload 4) 2),
  (70, eP (.iaload) 1),
  (71, eM (.invokestatic 225) 182 1 1 1 9 640),
  (74, eB (.ifCond .eq 8) 82),
  (77, eP (.iload 5) 2),
  (79, eB (.goto 4) 83),
  (82, eC (.iconst 0) 1 0 0),
  (83, eP (.iadd) 1),
  (84, eP (.istore_n 3) 1),
  (85, eC (.iinc 4 1) 3 0 1),
  (88, eB (.goto (-71)) 17),
  (91, eP (.aload_n 0) 1),
  (92, eP (.iload_n 3) 1),
  (93, eP (.iload_n 2) 1),
  (94, eM (.invokevirtual 120) 146 3 1 3 4 184),
  (97, eR (.ireturn) 0)]
/-- X4_broken -/
def k_207 : List (Nat × En) := [(0, eP (.iload_n 1) 1),
  (1, eM (.invokestatic 178) 179 1 1 1 9 437),
  (4, eB (.ifCond .eq 11) 15),
  (7, eP (.aload_n 0) 1),
  (8, eP (.iload_n 2) 1),
  (9, eM (.invokevirtual 246) 205 2 1 2 4 621),
  (12, eB (.ifCond .ne 5) 17),
  (15, eC (.iconst (-1)) 1 0 (-1)),
  (16, eR (.ireturn) 0),
  (17, eP (.aload_n 0) 1),
  (18, eF (.getfield 52) 4 19 2 94),
  (21, eP (.iload_n 1) 1),
  (22, eP (.iaload) 1),
  (23, eB (.ifCond .ge 11) 34),
  (26, eP (.aload_n 0) 1),
  (27, eC (.iconst 1) 1 0 1),
  (28, eM (.invokevirtual 106) 145 2 1 2 4 137),
  (31, eB (.goto 9) 40),
  (34, eP (.aload_n 0) 1),
  (35, eP (.iload_n 1) 1),
  (36, eP (.iload_n 2) 1),
  (37, eM (.invokevirtual 222) 197 3 1 10 4 625),
  (40, eR (.ireturn) 0)]
/-- X4_likeliest -/
def k_208 : List (Nat × En) := [(0, eP (.aload_n 0) 1),
  (1, eM (.invokevirtual 249) 201 1 1 1 4 666),
  (4, eB (.ifCond .eq 18) 22),
  (7, eP (.aload_n 0) 1),
  (8, eP (.aload_n 0) 1),
  (9, eF (.getfield 234) 4 31 0 664),
  (12, eP (.aload_n 0) 1),
  (13, eF (.getfield 228) 4 30 0 665),
  (16, eM (.invokevirtual 120) 146 3 1 3 4 184),
  (19, eB (.goto 5) 24),
  (22, eC (.bipush (-9)) 2 0 (-9)),
  (24, eR (.ireturn) 0)]
/-- X4_near -/
def k_209 : List (Nat × En) := [(0, eP (.iload_n 1) 1),
  (1, eC (.iconst 0) 1 0 0),
  (2, eC (.sipush 999) 3 0 999),
  (5, eM (.invokestatic 98) 144 3 1 3 9 134),
  (8, eB (.ifCond .ne 5) 13),
  (11, eC (.iconst (-1)) 1 0 (-1)),
  (12, eR (.ireturn) 0),
  (13, eC (.iconst 0) 1 0 0),
  (14, eP (.istore_n 2) 1),
  (15, eP (.aload_n 0) 1),
  (16, eM (.invokevirtual 249) 201 1 1 1 4 666),
  (19, eP (.istore_n 3) 1),
  (20, eC (.iconst 0) 1 0 0),
  (21, eP (.istore 4) 2),
  (23, eP (.iload 4) 2),
  (25, eP (.aload_n 0) 1),
  (26, eF (.getfield 206) 4 28 0 531),
  (29, eB (.if_icmp .ge 47) 76),
  (32, eP (.iload_n 3) 1),
  (33, eB (.ifCond .eq 43) 76),
  (36, eP (.iload_n 2) 1),
  (37, eP (.aload_n 0) 1),
  (38, eF (.getfield 82) 4 32 2 104),
  (41, eP (.iload 4) 2),
  (43, eP (.iaload) 1),
  (44, eB (.ifCond .lt 23) 67),
  (47, eP (.aload_n 0) 1),
  (48, eF (.getfield 82) 4 32 2 104),
  (51, eP (.iload 4) 2),
  (53, eP (.iaload) 1),
  (54, eP (.aload_n 0) 1),
  (55, eF (.getfield 234) 4 31 0 664),
  (58, eP (.isub) 1),
  (59, eP (.iload_n 1) 1),
  (60, eB (.if_icmp .gt 7) 67),
  (63, eC (.iconst 1) 1 0 1),
  (64, eB (.goto 4) 68),
  (67, eC (.iconst 0) 1 0 0),
  (68, eP (.iadd) 1),
  (69, eP (.istore_n 2) 1),
  (70, eC (.iinc 4 1) 3 0 1),
  (73, eB (.goto (-50)) 23),
  (76, eP (.iload_n 2) 1),
  (77, eR (.ireturn) 0)]
/-- X4_odds -/
def k_210 : List (Nat × En) := [(0, eP (.iload_n 1) 1),
  (1, eM (.invokestatic 132) 163 1 1 1 9 302),
  (4, eB (.ifCond .ne 5) 9),
  (7, eC (.iconst (-1)) 1 0 (-1)),
  (8, eR (.ireturn) 0),
  (9, eP (.aload_n 0) 1),
  (10, eM (.invokevirtual 249) 201 1 1 1 4 666),
  (13, eB (.ifCond .eq 20) 33),
  (16, eP (.aload_n 0) 1),
  (17, eP (.aload_n 0) 1),
  (18, eP (.iload_n 1) 1),
  (19, eM (.invokevirtual 253) 202 2 2 5 4 721),
  (22, eP (.aload_n 0) 1),
  (23, eF (.getfield 237) 4 34 1 678),
  (26, eC (.iconst 1) 1 0 1),
  (27, eM (.invokevirtual 257) 149 4 1 12 4 725),
  (30, eB (.goto 8) 38),
  (33, eP (.aload_n 0) 1),
  (34, eC (.iconst 4) 1 0 4),
  (35, eM (.invokevirtual 106) 145 2 1 2 4 137),
  (38, eR (.ireturn) 0)]
/-- X4_both -/
def k_211 : List (Nat × En) := [(0, eP (.iload_n 1) 1),
  (1, eM (.invokestatic 132) 163 1 1 1 9 302),
  (4, eB (.ifCond .eq 10) 14),
  (7, eP (.iload_n 2) 1),
  (8, eM (.invokestatic 132) 163 1 1 1 9 302),
  (11, eB (.ifCond .ne 5) 16),
  (14, eC (.iconst (-1)) 1 0 (-1)),
  (15, eR (.ireturn) 0),
  (16, eP (.aload_n 0) 1),
  (17, eM (.invokevirtual 249) 201 1 1 1 4 666),
  (20, eB (.ifCond .eq 21) 41),
  (23, eP (.aload_n 0) 1),
  (24, eP (.aload_n 0) 1),
  (25, eP (.iload_n 1) 1),
  (26, eP (.iload_n 2) 1),
  (27, eM (.invokevirtual 261) 203 3 2 6 4 738),
  (30, eP (.aload_n 0) 1),
  (31, eF (.getfield 237) 4 34 1 678),
  (34, eC (.iconst 1) 1 0 1),
  (35, eM (.invokevirtual 257) 149 4 1 12 4 725),
  (38, eB (.goto 8) 46),
  (41, eP (.aload_n 0) 1),
  (42, eC (.iconst 4) 1 0 4),
  (43, eM (.invokevirtual 106) 145 2 1 2 4 137),
  (46, eR (.ireturn) 0)]
/-- X4_given -/
def k_212 : List (Nat × En) := [(0, eP (.iload_n 1) 1),
  (1, eM (.invokestatic 132) 163 1 1 1 9 302),
  (4, eB (.ifCond .eq 10) 14),
  (7, eP (.iload_n 2) 1),
  (8, eM (.invokestatic 132) 163 1 1 1 9 302),
  (11, eB (.ifCond .ne 5) 16),
  (14, eC (.iconst (-1)) 1 0 (-1)),
  (15, eR (.ireturn) 0),
  (16, eP (.aload_n 0) 1),
  (17, eM (.invokevirtual 249) 201 1 1 1 4 666),
  (20, eB (.ifCond .eq 17) 37),
  (23, eP (.aload_n 0) 1),
  (24, eP (.iload_n 2) 1),
  (25, eM (.invokevirtual 253) 202 2 2 5 4 721),
  (28, eL (.lconst 0) 1 0 0),
  (29, eP (.lcmp) 1),
  (30, eB (.ifCond .le 7) 37),
  (33, eC (.iconst 1) 1 0 1),
  (34, eB (.goto 4) 38),
  (37, eC (.iconst 0) 1 0 0),
  (38, eK [1, 1, 1, 0] (eP (.istore_n 3) 1)),
  (39, eP (.iload_n 3) 1),
  (40, eB (.ifCond .eq 22) 62),
  (43, eP (.aload_n 0) 1),
  (44, eP (.aload_n 0) 1),
  (45, eP (.iload_n 1) 1),
  (46, eP (.iload_n 2) 1),
  (47, eM (.invokevirtual 261) 203 3 2 6 4 738),
  (50, eP (.aload_n 0) 1),
  (51, eP (.iload_n 2) 1),
  (52, eM (.invokevirtual 253) 202 2 2 5 4 721),
  (55, eC (.iconst 1) 1 0 1),
  (56, eM (.invokevirtual 257) 149 4 1 12 4 725),
  (59, eB (.goto 8) 67),
  (62, eP (.aload_n 0) 1),
  (63, eC (.iconst 4) 1 0 4),
  (64, eM (.invokevirtual 106) 145 2 1 2 4 137),
  (67, eR (.ireturn) 0)]
/-- X4_change -/
def k_213 : List (Nat × En) := [(0, eP (.iload_n 0) 1),
  (1, eP (.iload_n 1) 1),
  (2, eB (.if_icmp .ne 7) 9),
  (5, eP (.iload_n 2) 1),
  (6, eB (.goto 13) 19),
  (9, eP (.iload_n 0) 1),
  (10, eP (.iload_n 2) 1),
  (11, eB (.if_icmp .ne 7) 18),
  (14, eP (.iload_n 1) 1),
  (15, eB (.goto 4) 19),
  (18, eP (.iload_n 0) 1),
  (19, eR (.ireturn) 0)]
/-- X4_alike -/
def k_214 : List (Nat × En) := [(0, eP (.iload_n 1) 1),
  (1, eC (.iconst 0) 1 0 0),
  (2, eP (.aload_n 0) 1),
  (3, eF (.getfield 32) 4 10 0 88),
  (6, eC (.iconst 1) 1 0 1),
  (7, eP (.isub) 1),
  (8, eM (.invokestatic 98) 144 3 1 3 9 134),
  (11, eB (.ifCond .eq 17) 28),
  (14, eP (.iload_n 2) 1),
  (15, eC (.iconst 0) 1 0 0),
  (16, eP (.aload_n 0) 1),
  (17, eF (.getfield 32) 4 10 0 88),
  (20, eC (.iconst 1) 1 0 1),
  (21, eP (.isub) 1),
  (22, eM (.invokestatic 98) 144 3 1 3 9 134),
  (25, eB (.ifCond .ne 5) 30),
  (28, eC (.iconst (-1)) 1 0 (-1)),
  (29, eR (.ireturn) 0),
  (30, eC (.iconst 1) 1 0 1),
  (31, eP (.istore_n 3) 1),
  (32, eC (.iconst 0) 1 0 0),
  (33, eP (.istore 4) 2),
  (35, eK [1, 1, 1, 1, 1, 0] (eP (.iload 4) 2)),
  (37, eC (.bipush 28) 2 0 28),
  (39, eB (.if_icmp .ge 93) 132),
  (42, eP (.iload 4) 2),
  (44, eC (.bipush 12) 2 0 12),
  (46, eB (.if_icmp .ge 23) 69),
  (49, eP (.iload 4) 2),
  (51, eC (.iconst 4) 1 0 4),
  (52, eP (.idiv) 1),
  (53, eP (.iload 4) 2),
  (55, eC (.iconst 4) 1 0 4),
  (56, eP (.irem) 1),
  (57, eP (.iload_n 1) 1),
  (58, eP (.iload_n 2) 1),
  (59, eM (.invokestatic 265) 213 3 1 3 9 768),
  (62, eC (.iconst 0) 1 0 0),
  (63, eM (.invokestatic 199) 191 3 1 3 9 520),
  (66, eB (.goto 31) 97),
  (69, eC (.iconst 3) 1 0 3),
  (70, eP (.iload 4) 2),
  (72, eC (.bipush 12) 2 0 12),
  (74, eP (.isub) 1),
  (75, eC (.iconst 4) 1 0 4),
  (76, eP (.idiv) 1),
  (77, eP (.iload_n 1) 1),
  (78, eP (.iload_n 2) 1),
  (79, eM (.invokestatic 265) 213 3 1 3 9 768),
  (82, eP (.iload 4) 2),
  (84, eC (.bipush 12) 2 0 12),
  (86, eP (.isub) 1),
  (87, eC (.iconst 4) 1 0 4),
  (88, eP (.irem) 1),
  (89, eP (.iload_n 1) 1),
  (90, eP (.iload_n 2) 1),
  (91, eM (.invokestatic 265) 213 3 1 3 9 768),
  (94, eM (.invokestatic 199) 191 3 1 3 9 520),
  (97, eK [1, 1, 1, 1, 1, 0] (eP (.istore 5) 2)),
  (99, eP (.iload_n 3) 1),
  (100, eB (.ifCond .eq 24) 124),
  (103, eP (.aload_n 0) 1),
  (104, eF (.getfield 36) 4 11 2 89),
  (107, eP (.iload 4) 2),
  (109, eP (.iaload) 1),
  (110, eP (.aload_n 0) 1),
  (111, eF (.getfield 36) 4 11 2 89),
  (114, eP (.iload 5) 2),
  (116, eP (.iaload) 1),
  (117, eB (.if_icmp .ne 7) 124),
  (120, eC (.iconst 1) 1 0 1),
  (121, eB (.goto 4) 125),
  (124, eC (.iconst 0) 1 0 0),
  (125, eP (.istore_n 3) 1),
  (126, eC (.iinc 4 1) 3 0 1),
  (129, eB (.goto (-94)) 35),
  (132, eP (.iload_n 3) 1),
  (133, eB (.ifCond .eq 7) 140),
  (136, eC (.iconst 1) 1 0 1),
  (137, eB (.goto 4) 141),
  (140, eC (.iconst 0) 1 0 0),
  (141, eR (.ireturn) 0)]
/-- X4_draw -/
def k_215 : List (Nat × En) := [(0, eP (.iload_n 2) 1),
  (1, eC (.iconst 1) 1 0 1),
  (2, eC (.sipush 200) 3 0 200),
  (5, eM (.invokestatic 98) 144 3 1 3 9 134),
  (8, eB (.ifCond .eq 10) 18),
  (11, eP (.iload_n 3) 1),
  (12, eM (.invokestatic 132) 163 1 1 1 9 302),
  (15, eB (.ifCond .ne 5) 20),
  (18, eC (.iconst (-1)) 1 0 (-1)),
  (19, eR (.ireturn) 0),
  (20, eP (.aload_n 0) 1),
  (21, eM (.invokevirtual 249) 201 1 1 1 4 666),
  (24, eB (.ifCond .ne 9) 33),
  (27, eP (.aload_n 0) 1),
  (28, eC (.iconst 4) 1 0 4),
  (29, eM (.invokevirtual 106) 145 2 1 2 4 137),
  (32, eR (.ireturn) 0),
  (33, eP (.iload_n 1) 1),
  (34, eP (.istore 4) 2),
  (36, eC (.iconst 0) 1 0 0),
  (37, eP (.istore 5) 2),
  (39, eC (.iconst 0) 1 0 0),
  (40, eP (.istore 6) 2),
  (42, eC (.iconst 0) 1 0 0),
  (43, eP (.istore 7) 2),
  (45, eK [1, 0, 1, 1, 1, 1, 1, 1, 0, 0, 0, 0, 0, 0] (eP (.iload 7) 2)),
  (47, eP (.iload_n 2) 1),
  (48, eB (.if_icmp .ge 133) 181),
  (51, eP (.iload 4) 2),
  (53, eC (.ldc_w 268) 3 795 1103515245),
  (56, eP (.imul) 1),
  (57, eC (.sipush 12345) 3 0 12345),
  (60, eP (.iadd) 1),
  (61, eP (.istore 4) 2),
  (63, eL (.ldc2_w 269) 3 796 32768),
  (66, eP (.iload 4) 2),
  (68, eC (.bipush 16) 2 0 16),
  (70, eP (.ishr) 1),
  (71, eC (.sipush 32767) 3 0 32767),
  (74, eP (.iand) 1),
  (75, eP (.i2l) 1),
  (76, eP (.lmul) 1),
  (77, eP (.lstore 8) 2),
  (79, eP (.iload 4) 2),
  (81, eC (.ldc_w 268) 3 795 1103515245),
  (84, eP (.imul) 1),
  (85, eC (.sipush 12345) 3 0 12345),
  (88, eP (.iadd) 1),
  (89, eP (.istore 4) 2),
  (91, eP (.lload 8) 2),
  (93, eP (.iload 4) 2),
  (95, eC (.bipush 16) 2 0 16),
  (97, eP (.ishr) 1),
  (98, eC (.sipush 32767) 3 0 32767),
  (101, eP (.iand) 1),
  (102, eP (.i2l) 1),
  (103, eP (.ladd) 1),
  (104, eP (.lstore 8) 2),
  (106, eP (.lload 8) 2),
  (108, eP (.aload_n 0) 1),
  (109, eF (.getfield 237) 4 34 1 678),
  (112, eP (.lmul) 1),
  (113, eC (.bipush 30) 2 0 30),
  (115, eP (.lshr) 1),
  (116, eP (.lstore 10) 2),
  (118, eP (.aload_n 0) 1),
  (119, eF (.getfield 85) 4 33 2 105),
  (122, eC (.iconst 0) 1 0 0),
  (123, eP (.laload) 1),
  (124, eP (.lstore 12) 2),
  (126, eC (.iconst 0) 1 0 0),
  (127, eP (.istore 6) 2),
  (129, eK [1, 0, 1, 1, 1, 1, 1, 1, 0, 0, 1, 0, 1, 0] (eP (.lload 12) 2)),
  (131, eP (.lload 10) 2),
  (133, eP (.lcmp) 1),
  (134, eB (.ifCond .gt 21) 155),
  (137, eC (.iinc 6 1) 3 0 1),
  (140, eP (.lload 12) 2),
  (142, eP (.aload_n 0) 1),
  (143, eF (.getfield 85) 4 33 2 105),
  (146, eP (.iload 6) 2),
  (148, eP (.laload) 1),
  (149, eP (.ladd) 1),
  (150, eP (.lstore 12) 2),
  (152, eB (.goto (-23)) 129),
  (155, eP (.iload 5) 2),
  (157, eP (.aload_n 0) 1),
  (158, eP (.iload_n 3) 1),
  (159, eP (.iload 6) 2),
  (161, eM (.invokevirtual 212) 195 3 1 3 4 633),
  (164, eB (.ifCond .eq 7) 171),
  (167, eC (.iconst 1) 1 0 1),
  (168, eB (.goto 4) 172),
  (171, eC (.iconst 0) 1 0 0),
  (172, eP (.iadd) 1),
  (173, eP (.istore 5) 2),
  (175, eC (.iinc 7 1) 3 0 1),
  (178, eB (.goto (-133)) 45),
  (181, eP (.aload_n 0) 1),
  (182, eP (.iload 6) 2),
  (184, eP (.iload 5) 2),
  (186, eM (.invokevirtual 120) 146 3 1 3 4 184),
  (189, eR (.ireturn) 0)]
/-- X4_isLess -/
def k_216 : List (Nat × En) := [(0, eP (.lload_n 0) 1),
  (1, eP (.lstore 8) 2),
  (3, eP (.lload_n 2) 1),
  (4, eP (.lstore 10) 2),
  (6, eP (.lload 4) 2),
  (8, eP (.lstore 12) 2),
  (10, eP (.lload 6) 2),
  (12, eP (.lstore 14) 2),
  (14, eC (.iconst 0) 1 0 0),
  (15, eP (.istore 16) 2),
  (17, eK [0, 0, 0, 0, 0, 0, 0, 0, 1, 0, 1, 0, 1, 0, 1, 0, 1, 0, 0] (eP (.lload 8) 2)),
  (19, eP (.lload 10) 2),
  (21, eP (.ldiv) 1),
  (22, eP (.lload 12) 2),
  (24, eP (.lload 14) 2),
  (26, eP (.ldiv) 1),
  (27, eP (.lcmp) 1),
  (28, eB (.ifCond .ne 117) 145),
  (31, eP (.lload 8) 2),
  (33, eP (.lload 10) 2),
  (35, eP (.lrem) 1),
  (36, eP (.lstore 8) 2),
  (38, eP (.lload 12) 2),
  (40, eP (.lload 14) 2),
  (42, eP (.lrem) 1),
  (43, eP (.lstore 12) 2),
  (45, eP (.lload 8) 2),
  (47, eL (.lconst 0) 1 0 0),
  (48, eP (.lcmp) 1),
  (49, eB (.ifCond .eq 10) 59),
  (52, eP (.lload 12) 2),
  (54, eL (.lconst 0) 1 0 0),
  (55, eP (.lcmp) 1),
  (56, eB (.ifCond .ne 50) 106),
  (59, eK [0, 0, 0, 0, 0, 0, 0, 0, 1, 0, 0, 0, 1, 0, 0, 0, 1, 0, 0] (eP (.iload 16) 2)),
  (61, eB (.ifCond .eq 25) 86),
  (64, eP (.lload 8) 2),
  (66, eL (.lconst 0) 1 0 0),
  (67, eP (.lcmp) 1),
  (68, eB (.ifCond .eq 14) 82),
  (71, eP (.lload 12) 2),
  (73, eL (.lconst 0) 1 0 0),
  (74, eP (.lcmp) 1),
  (75, eB (.ifCond .ne 7) 82),
  (78, eC (.iconst 1) 1 0 1),
  (79, eB (.goto 26) 105),
  (82, eC (.iconst 0) 1 0 0),
  (83, eB (.goto 22) 105),
  (86, eP (.lload 8) 2),
  (88, eL (.lconst 0) 1 0 0),
  (89, eP (.lcmp) 1),
  (90, eB (.ifCond .ne 14) 104),
  (93, eP (.lload 12) 2),
  (95, eL (.lconst 0) 1 0 0),
  (96, eP (.lcmp) 1),
  (97, eB (.ifCond .eq 7) 104),
  (100, eC (.iconst 1) 1 0 1),
  (101, eB (.goto 4) 105),
  (104, eC (.iconst 0) 1 0 0),
  (105, eR (.ireturn) 3),
  (106, eP (.lload 8) 2),
  (108, eP (.lstore 17) 2),
  (110, eP (.lload 10) 2),
  (112, eP (.lstore 8) 2),
  (114, eP (.lload 17) 2),
  (116, eP (.lstore 10) 2),
  (118, eP (.lload 12) 2),
  (120, eP (.lstore 17) 2),
  (122, eP (.lload 14) 2),
  (124, eP (.lstore 12) 2),
  (126, eP (.lload 17) 2),
  (128, eP (.lstore 14) 2),
  (130, eP (.iload 16) 2),
  (132, eB (.ifCond .ne 7) 139),
  (135, eC (.iconst 1) 1 0 1),
  (136, eB (.goto 4) 140),
  (139, eC (.iconst 0) 1 0 0),
  (140, eP (.istore 16) 2),
  (142, eB (.goto (-125)) 17),
  (145, eP (.iload 16) 2),
  (147, eP (.lload 8) 2),
  (149, eP (.lload 10) 2),
  (151, eP (.ldiv) 1),
  (152, eP (.lload 12) 2),
  (154, eP (.lload 14) 2),
  (156, eP (.ldiv) 1),
  (157, eP (.lcmp) 1),
  (158, eB (.ifCond .ge 7) 165),
  (161, eC (.iconst 1) 1 0 1),
  (162, eB (.goto 4) 166),
  (165, eC (.iconst 0) 1 0 0),
  (166, eB (.if_icmp .eq 7) 173),
  (169, eC (.iconst 1) 1 0 1),
  (170, eB (.goto 4) 174),
  (173, eC (.iconst 0) 1 0 0),
  (174, eR (.ireturn) 3)]
/-- X4_layWeights -/
def k_217 : List (Nat × En) := [(0, eC (.iconst 0) 1 0 0),
  (1, eP (.istore 4) 2),
  (3, eP (.iload_n 3) 1),
  (4, eP (.istore 5) 2),
  (6, eC (.iconst 0) 1 0 0),
  (7, eP (.istore 6) 2),
  (9, eK [1, 1, 1, 0, 1, 1, 1] (eP (.iload 6) 2)),
  (11, eC (.bipush 8) 2 0 8),
  (13, eB (.if_icmp .ge 48) 61),
  (16, eP (.iload_n 1) 1),
  (17, eP (.iload 6) 2),
  (19, eM (.invokestatic 209) 147 2 1 2 9 637),
  (22, eB (.ifCond .eq 33) 55),
  (25, eC (.iinc 5 (-1)) 3 0 (-1)),
  (28, eP (.aload_n 0) 1),
  (29, eF (.getfield 55) 4 20 2 95),
  (32, eP (.iload 6) 2),
  (34, eP (.iload_n 2) 1),
  (35, eC (.iconst 2) 1 0 2),
  (36, eP (.iload 5) 2),
  (38, eP (.imul) 1),
  (39, eP (.ishr) 1),
  (40, eC (.iconst 3) 1 0 3),
  (41, eP (.iand) 1),
  (42, eP (.iastore) 1),
  (43, eP (.iload 4) 2),
  (45, eP (.aload_n 0) 1),
  (46, eF (.getfield 55) 4 20 2 95),
  (49, eP (.iload 6) 2),
  (51, eP (.iaload) 1),
  (52, eP (.iadd) 1),
  (53, eP (.istore 4) 2),
  (55, eC (.iinc 6 1) 3 0 1),
  (58, eB (.goto (-49)) 9),
  (61, eP (.iload 4) 2),
  (63, eR (.ireturn) 0)]
/-- X4_learn -/
def k_218 : List (Nat × En) := [(0, eP (.aload_n 0) 1),
  (1, eP (.iload_n 1) 1),
  (2, eM (.invokevirtual 246) 205 2 1 2 4 621),
  (5, eB (.ifCond .eq 31) 36),
  (8, eP (.iload_n 2) 1),
  (9, eC (.iconst 1) 1 0 1),
  (10, eC (.sipush 255) 3 0 255),
  (13, eM (.invokestatic 98) 144 3 1 3 9 134),
  (16, eB (.ifCond .eq 20) 36),
  (19, eP (.iload_n 2) 1),
  (20, eM (.invokestatic 271) 148 1 1 3 9 856),
  (23, eC (.iconst 3) 1 0 3),
  (24, eB (.if_icmp .gt 12) 36),
  (27, eP (.iload_n 3) 1),
  (28, eC (.iconst 0) 1 0 0),
  (29, eC (.iconst 2) 1 0 2),
  (30, eM (.invokestatic 98) 144 3 1 3 9 134),
  (33, eB (.ifCond .ne 5) 38),
  (36, eC (.iconst (-1)) 1 0 (-1)),
  (37, eR (.ireturn) 0),
  (38, eC (.iconst 1) 1 0 1),
  (39, eP (.istore 4) 2),
  (41, eC (.iconst 1) 1 0 1),
  (42, eP (.istore 5) 2),
  (44, eC (.iconst 0) 1 0 0),
  (45, eP (.istore 6) 2),
  (47, eK [1, 1, 1, 1, 1, 1, 1, 0, 0, 0, 0, 0, 0, 0, 0, 0, 0, 0, 0, 0] (eP (.iload 6) 2)),
  (49, eC (.bipush 8) 2 0 8),
  (51, eB (.if_icmp .ge 74) 125),
  (54, eP (.iload 4) 2),
  (56, eB (.ifCond .eq 26) 82),
  (59, eP (.iload_n 2) 1),
  (60, eP (.iload 6) 2),
  (62, eM (.invokestatic 209) 147 2 1 2 9 637),
  (65, eB (.ifCond .eq 13) 78),
  (68, eP (.aload_n 0) 1),
  (69, eF (.getfield 52) 4 19 2 94),
  (72, eP (.iload 6) 2),
  (74, eP (.iaload) 1),
  (75, eB (.ifCond .lt 7) 82),
  (78, eC (.iconst 1) 1 0 1),
  (79, eB (.goto 4) 83),
  (82, eC (.iconst 0) 1 0 0),
  (83, eK [1, 1, 1, 1, 0, 1, 1, 0, 0, 0, 0, 0, 0, 0, 0, 0, 0, 0, 0, 0] (eP (.istore 4) 2)),
  (85, eP (.iload 5) 2),
  (87, eB (.ifCond .eq 29) 116),
  (90, eP (.iload_n 2) 1),
  (91, eP (.iload 6) 2),
  (93, eM (.invokestatic 209) 147 2 1 2 9 637),
  (96, eB (.ifCond .eq 16) 112),
  (99, eP (.aload_n 0) 1),
  (100, eF (.getfield 52) 4 19 2 94),
  (103, eP (.iload 6) 2),
  (105, eP (.iaload) 1),
  (106, eM (.invokestatic 181) 181 1 1 1 9 440),
  (109, eB (.ifCond .eq 7) 116),
  (112, eC (.iconst 1) 1 0 1),
  (113, eB (.goto 4) 117),
  (116, eC (.iconst 0) 1 0 0),
  (117, eP (.istore 5) 2),
  (119, eC (.iinc 6 1) 3 0 1),
  (122, eB (.goto (-75)) 47),
  (125, eP (.iload 4) 2),
  (127, eB (.ifCond .ne 9) 136),
  (130, eP (.aload_n 0) 1),
  (131, eC (.iconst 1) 1 0 1),
  (132, eM (.invokevirtual 106) 145 2 1 2 4 137),
  (135, eR (.ireturn) 0),
  (136, eP (.iload 5) 2),
  (138, eB (.ifCond .ne 9) 147),
  (141, eP (.aload_n 0) 1),
  (142, eC (.iconst 3) 1 0 3),
  (143, eM (.invokevirtual 106) 145 2 1 2 4 137),
  (146, eR (.ireturn) 0),
  (147, eP (.aload_n 0) 1),
  (148, eM (.invokevirtual 249) 201 1 1 1 4 666),
  (151, eB (.ifCond .ne 9) 160),
  (154, eP (.aload_n 0) 1),
  (155, eC (.iconst 4) 1 0 4),
  (156, eM (.invokevirtual 106) 145 2 1 2 4 137),
  (159, eR (.ireturn) 0),
  (160, eP (.aload_n 0) 1),
  (161, eF (.getfield 82) 4 32 2 104),
  (164, eP (.iload_n 1) 1),
  (165, eP (.iaload) 1),
  (166, eB (.ifCond .ge 6) 172),
  (169, eC (.bipush (-4)) 2 0 (-4)),
  (171, eR (.ireturn) 0),
  (172, eP (.iload_n 2) 1),
  (173, eM (.invokestatic 271) 148 1 1 3 9 856),
  (176, eP (.istore 6) 2),
  (178, eC (.bipush (-9)) 2 0 (-9)),
  (180, eP (.istore 7) 2),
  (182, eC (.iconst 0) 1 0 0),
  (183, eP (.istore 8) 2),
  (185, eL (.lconst 0) 1 0 0),
  (186, eP (.lstore 9) 2),
  (188, eL (.lconst 1) 1 0 1),
  (189, eP (.lstore 11) 2),
  (191, eC (.iconst 0) 1 0 0),
  (192, eP (.istore 13) 2),
  (194, eK [1, 1, 1, 1, 0, 0, 1, 1, 1, 1, 0, 1, 0, 1, 0, 0, 0, 0, 0, 0] (eP (.iload 13) 2)),
  (196, eC (.iconst 1) 1 0 1),
  (197, eC (.iconst 2) 1 0 2),
  (198, eP (.iload 6) 2),
  (200, eP (.imul) 1),
  (201, eP (.ishl) 1),
  (202, eB (.if_icmp .ge 154) 356),
  (205, eP (.aload_n 0) 1),
  (206, eP (.iload_n 2) 1),
  (207, eP (.iload 13) 2),
  (209, eP (.iload 6) 2),
  (211, eM (.invokevirtual 274) 217 4 1 7 4 859),
  (214, eP (.istore 14) 2),
  (216, eP (.aload_n 0) 1),
  (217, eC (.sipush 255) 3 0 255),
  (220, eM (.invokevirtual 243) 200 2 1 4 4 674),
  (223, eP (.istore 15) 2),
  (225, eP (.aload_n 0) 1),
  (226, eF (.getfield 237) 4 34 1 678),
  (229, eP (.iload_n 3) 1),
  (230, eP (.iload 14) 2),
  (232, eP (.imul) 1),
  (233, eP (.lshl) 1),
  (234, eP (.lstore 16) 2),
  (236, eP (.iload 7) 2),
  (238, eB (.ifCond .lt 26) 264),
  (241, eP (.lload 9) 2),
  (243, eP (.lload 11) 2),
  (245, eP (.iload_n 3) 1),
  (246, eP (.iload 8) 2),
  (248, eP (.imul) 1),
  (249, eP (.lshl) 1),
  (250, eP (.aload_n 0) 1),
  (251, eF (.getfield 85) 4 33 2 105),
  (254, eP (.iload_n 1) 1),
  (255, eP (.laload) 1),
  (256, eP (.lload 16) 2),
  (258, eM (.invokestatic 277) 216 4 1 19 9 863),
  (261, eB (.ifCond .eq 7) 268),
  (264, eC (.iconst 1) 1 0 1),
  (265, eB (.goto 4) 269),
  (268, eC (.iconst 0) 1 0 0),
  (269, eK [1, 1, 1, 1, 0, 0, 1, 1, 1, 1, 0, 1, 0, 1, 1, 1, 1, 0, 0, 0] (eP (.istore 18) 2)),
  (271, eP (.iload 18) 2),
  (273, eB (.ifCond .ne 30) 303),
  (276, eP (.aload_n 0) 1),
  (277, eF (.getfield 85) 4 33 2 105),
  (280, eP (.iload_n 1) 1),
  (281, eP (.laload) 1),
  (282, eP (.lload 16) 2),
  (284, eP (.lload 9) 2),
  (286, eP (.lload 11) 2),
  (288, eP (.iload_n 3) 1),
  (289, eP (.iload 8) 2),
  (291, eP (.imul) 1),
  (292, eP (.lshl) 1),
  (293, eM (.invokestatic 277) 216 4 1 19 9 863),
  (296, eB (.ifCond .ne 7) 303),
  (299, eC (.iconst 1) 1 0 1),
  (300, eB (.goto 4) 304),
  (303, eC (.iconst 0) 1 0 0),
  (304, eK [1, 1, 1, 1, 0, 0, 1, 1, 1, 1, 0, 1, 0, 1, 1, 1, 0, 0, 1, 0] (eP (.istore 19) 2)),
  (306, eP (.iload 15) 2),
  (308, eB (.ifCond .eq 42) 350),
  (311, eP (.iload 18) 2),
  (313, eB (.ifCond .ne 15) 328),
  (316, eP (.iload 19) 2),
  (318, eB (.ifCond .eq 32) 350),
  (321, eP (.iload 14) 2),
  (323, eP (.iload 8) 2),
  (325, eB (.if_icmp .ge 25) 350),
  (328, eK [1, 1, 1, 1, 0, 0, 1, 0, 0, 0, 0, 0, 0, 1, 1, 0, 0, 0, 0, 0] (eP (.iload 13) 2)),
  (330, eP (.istore 7) 2),
  (332, eP (.iload 14) 2),
  (334, eP (.istore 8) 2),
  (336, eP (.aload_n 0) 1),
  (337, eF (.getfield 85) 4 33 2 105),
  (340, eP (.iload_n 1) 1),
  (341, eP (.laload) 1),
  (342, eP (.lstore 9) 2),
  (344, eP (.aload_n 0) 1),
  (345, eF (.getfield 237) 4 34 1 678),
  (348, eP (.lstore 11) 2),
  (350, eC (.iinc 13 1) 3 0 1),
  (353, eB (.goto (-159)) 194),
  (356, eP (.aload_n 0) 1),
  (357, eP (.iload_n 2) 1),
  (358, eP (.iload 7) 2),
  (360, eP (.iload 6) 2),
  (362, eM (.invokevirtual 274) 217 4 1 7 4 859),
  (365, eP (.pop) 1),
  (366, eC (.iconst 0) 1 0 0),
  (367, eP (.istore 13) 2),
  (369, eC (.iconst 0) 1 0 0),
  (370, eP (.istore 14) 2),
  (372, eK [1, 0, 1, 0, 0, 0, 0, 0, 0, 1, 0, 1, 0, 1, 1, 0, 0, 0, 0, 0] (eP (.iload 14) 2)),
  (374, eC (.bipush 8) 2 0 8),
  (376, eB (.if_icmp .ge 38) 414),
  (379, eP (.iload_n 2) 1),
  (380, eP (.iload 14) 2),
  (382, eM (.invokestatic 209) 147 2 1 2 9 637),
  (385, eB (.ifCond .eq 19) 404),
  (388, eC (.bipush 10) 2 0 10),
  (390, eP (.iload 13) 2),
  (392, eP (.imul) 1),
  (393, eP (.aload_n 0) 1),
  (394, eF (.getfield 55) 4 20 2 95),
  (397, eP (.iload 14) 2),
  (399, eP (.iaload) 1),
  (400, eP (.iadd) 1),
  (401, eB (.goto 5) 406),
  (404, eP (.iload 13) 2),
  (406, eP (.istore 13) 2),
  (408, eC (.iinc 14 1) 3 0 1),
  (411, eB (.goto (-39)) 372),
  (414, eP (.aload_n 0) 1),
  (415, eP (.lload 9) 2),
  (417, eP (.lload 11) 2),
  (419, eP (.iload 13) 2),
  (421, eM (.invokevirtual 257) 149 4 1 12 4 725),
  (424, eR (.ireturn) 0)]
/-- X4_pull -/
def k_219 : List (Nat × En) := [(0, eP (.iload_n 2) 1),
  (1, eM (.invokestatic 132) 163 1 1 1 9 302),
  (4, eB (.ifCond .ne 5) 9),
  (7, eC (.iconst (-1)) 1 0 (-1)),
  (8, eR (.ireturn) 0),
  (9, eP (.aload_n 0) 1),
  (10, eP (.iload_n 1) 1),
  (11, eM (.invokevirtual 187) 180 2 1 2 4 459),
  (14, eP (.istore_n 3) 1),
  (15, eP (.iload_n 3) 1),
  (16, eB (.ifCond .ge 5) 21),
  (19, eP (.iload_n 3) 1),
  (20, eR (.ireturn) 0),
  (21, eP (.aload_n 0) 1),
  (22, eM (.invokevirtual 249) 201 1 1 1 4 666),
  (25, eB (.ifCond .ne 9) 34),
  (28, eP (.aload_n 0) 1),
  (29, eC (.iconst 4) 1 0 4),
  (30, eM (.invokevirtual 106) 145 2 1 2 4 137),
  (33, eR (.ireturn) 0),
  (34, eP (.aload_n 0) 1),
  (35, eP (.iload_n 2) 1),
  (36, eM (.invokevirtual 253) 202 2 2 5 4 721),
  (39, eP (.lstore 4) 2),
  (41, eP (.aload_n 0) 1),
  (42, eF (.getfield 237) 4 34 1 678),
  (45, eP (.lstore 6) 2),
  (47, eP (.aload_n 0) 1),
  (48, eC (.sipush 255) 3 0 255),
  (51, eC (.iconst 1) 1 0 1),
  (52, eP (.iload_n 1) 1),
  (53, eP (.ishl) 1),
  (54, eC (.iconst (-1)) 1 0 (-1)),
  (55, eP (.ixor) 1),
  (56, eP (.iand) 1),
  (57, eM (.invokevirtual 243) 200 2 1 4 4 674),
  (60, eB (.ifCond .ne 9) 69),
  (63, eP (.aload_n 0) 1),
  (64, eC (.iconst 4) 1 0 4),
  (65, eM (.invokevirtual 106) 145 2 1 2 4 137),
  (68, eR (.ireturn) 0),
  (69, eP (.aload_n 0) 1),
  (70, eP (.lload 4) 2),
  (72, eP (.aload_n 0) 1),
  (73, eF (.getfield 237) 4 34 1 678),
  (76, eP (.lmul) 1),
  (77, eP (.aload_n 0) 1),
  (78, eP (.iload_n 2) 1),
  (79, eM (.invokevirtual 253) 202 2 2 5 4 721),
  (82, eP (.lload 6) 2),
  (84, eP (.lmul) 1),
  (85, eP (.lsub) 1),
  (86, eP (.lload 6) 2),
  (88, eP (.aload_n 0) 1),
  (89, eF (.getfield 237) 4 34 1 678),
  (92, eP (.lmul) 1),
  (93, eC (.iconst 1) 1 0 1),
  (94, eM (.invokevirtual 257) 149 4 1 12 4 725),
  (97, eR (.ireturn) 0)]
/-- X4_why -/
def k_220 : List (Nat × En) := [(0, eP (.iload_n 1) 1),
  (1, eM (.invokestatic 132) 163 1 1 1 9 302),
  (4, eB (.ifCond .ne 5) 9),
  (7, eC (.iconst (-1)) 1 0 (-1)),
  (8, eR (.ireturn) 0),
  (9, eP (.aload_n 0) 1),
  (10, eM (.invokevirtual 249) 201 1 1 1 4 666),
  (13, eB (.ifCond .ne 9) 22),
  (16, eP (.aload_n 0) 1),
  (17, eC (.iconst 4) 1 0 4),
  (18, eM (.invokevirtual 106) 145 2 1 2 4 137),
  (21, eR (.ireturn) 0),
  (22, eC (.iconst 0) 1 0 0),
  (23, eP (.istore_n 2) 1),
  (24, eC (.iconst 0) 1 0 0),
  (25, eP (.istore_n 3) 1),
  (26, eK [1, 1, 1, 1, 0] (eP (.iload_n 3) 1)),
  (27, eC (.bipush 8) 2 0 8),
  (29, eB (.if_icmp .ge 28) 57),
  (32, eP (.iload_n 2) 1),
  (33, eP (.aload_n 0) 1),
  (34, eF (.getfield 52) 4 19 2 94),
  (37, eP (.iload_n 3) 1),
  (38, eP (.iaload) 1),
  (39, eB (.ifCond .lt 9) 48),
  (42, eC (.iconst 1) 1 0 1),
  (43, eP (.iload_n 3) 1),
  (44, eP (.ishl) 1),
  (45, eB (.goto 4) 49),
  (48, eC (.iconst 0) 1 0 0),
  (49, eP (.ior) 1),
  (50, eP (.istore_n 2) 1),
  (51, eC (.iinc 3 1) 3 0 1),
  (54, eB (.goto (-28)) 26),
  (57, eC (.iconst 0) 1 0 0),
  (58, eP (.istore_n 3) 1),
  (59, eK [1, 1, 1, 1, 0] (eP (.iload_n 3) 1)),
  (60, eC (.bipush 8) 2 0 8),
  (62, eB (.if_icmp .gt 79) 141),
  (65, eC (.iconst 0) 1 0 0),
  (66, eP (.istore 4) 2),
  (68, eP (.iload 4) 2),
  (70, eC (.sipush 255) 3 0 255),
  (73, eB (.if_icmp .gt 62) 135),
  (76, eP (.iload 4) 2),
  (78, eM (.invokestatic 271) 148 1 1 3 9 856),
  (81, eP (.iload_n 3) 1),
  (82, eB (.if_icmp .ne 47) 129),
  (85, eP (.iload 4) 2),
  (87, eP (.iload_n 2) 1),
  (88, eC (.iconst (-1)) 1 0 (-1)),
  (89, eP (.ixor) 1),
  (90, eP (.iand) 1),
  (91, eB (.ifCond .ne 38) 129),
  (94, eP (.aload_n 0) 1),
  (95, eC (.sipush 255) 3 0 255),
  (98, eP (.iload 4) 2),
  (100, eC (.iconst (-1)) 1 0 (-1)),
  (101, eP (.ixor) 1),
  (102, eP (.iand) 1),
  (103, eM (.invokevirtual 243) 200 2 1 4 4 674),
  (106, eB (.ifCond .eq 20) 126),
  (109, eL (.ldc2_w 281) 3 887 2),
  (112, eP (.aload_n 0) 1),
  (113, eP (.iload_n 1) 1),
  (114, eM (.invokevirtual 253) 202 2 2 5 4 721),
  (117, eP (.lmul) 1),
  (118, eP (.aload_n 0) 1),
  (119, eF (.getfield 237) 4 34 1 678),
  (122, eP (.lcmp) 1),
  (123, eB (.ifCond .gt 6) 129),
  (126, eP (.iload 4) 2),
  (128, eR (.ireturn) 0),
  (129, eC (.iinc 4 1) 3 0 1),
  (132, eB (.goto (-64)) 68),
  (135, eC (.iinc 3 1) 3 0 1),
  (138, eB (.goto (-79)) 59),
  (141, eC (.bipush (-9)) 2 0 (-9)),
  (143, eR (.ireturn) 0)]
/-- X4_otherwise -/
def k_221 : List (Nat × En) := [(0, eP (.iload_n 3) 1),
  (1, eM (.invokestatic 132) 163 1 1 1 9 302),
  (4, eB (.ifCond .ne 5) 9),
  (7, eC (.iconst (-1)) 1 0 (-1)),
  (8, eR (.ireturn) 0),
  (9, eP (.aload_n 0) 1),
  (10, eP (.iload_n 1) 1),
  (11, eP (.iload_n 2) 1),
  (12, eM (.invokevirtual 138) 167 3 1 3 4 298),
  (15, eP (.istore 4) 2),
  (17, eP (.iload 4) 2),
  (19, eB (.ifCond .ge 6) 25),
  (22, eP (.iload 4) 2),
  (24, eR (.ireturn) 0),
  (25, eP (.aload_n 0) 1),
  (26, eF (.getfield 36) 4 11 2 89),
  (29, eP (.iload_n 1) 1),
  (30, eP (.iaload) 1),
  (31, eP (.istore 5) 2),
  (33, eP (.aload_n 0) 1),
  (34, eF (.getfield 36) 4 11 2 89),
  (37, eP (.iload_n 1) 1),
  (38, eP (.iload_n 2) 1),
  (39, eP (.iastore) 1),
  (40, eP (.aload_n 0) 1),
  (41, eP (.iload_n 3) 1),
  (42, eM (.invokevirtual 283) 210 2 1 2 4 900),
  (45, eP (.istore 6) 2),
  (47, eP (.aload_n 0) 1),
  (48, eF (.getfield 36) 4 11 2 89),
  (51, eP (.iload_n 1) 1),
  (52, eP (.iload 5) 2),
  (54, eP (.iastore) 1),
  (55, eP (.iload 6) 2),
  (57, eR (.ireturn) 0)]
/-- X4_askedPairs -/
def k_222 : List (Nat × En) := [(0, eP (.aload_n 0) 1),
  (1, eF (.getfield 17) 4 5 2 83),
  (4, eP (.iload_n 1) 1),
  (5, eP (.iaload) 1),
  (6, eB (.ifCond .ge 9) 15),
  (9, eP (.aload_n 0) 1),
  (10, eC (.iconst 1) 1 0 1),
  (11, eM (.invokevirtual 106) 145 2 1 2 4 137),
  (14, eR (.ireturn) 0),
  (15, eP (.aload_n 0) 1),
  (16, eF (.getfield 17) 4 5 2 83),
  (19, eP (.iload_n 1) 1),
  (20, eP (.iaload) 1),
  (21, eB (.ifCond .eq 14) 35),
  (24, eP (.aload_n 0) 1),
  (25, eF (.getfield 17) 4 5 2 83),
  (28, eP (.iload_n 1) 1),
  (29, eP (.iaload) 1),
  (30, eC (.iconst 2) 1 0 2),
  (31, eP (.irem) 1),
  (32, eB (.ifCond .eq 9) 41),
  (35, eP (.aload_n 0) 1),
  (36, eC (.iconst 5) 1 0 5),
  (37, eM (.invokevirtual 106) 145 2 1 2 4 137),
  (40, eR (.ireturn) 0),
  (41, eC (.iconst 1) 1 0 1),
  (42, eP (.istore_n 2) 1),
  (43, eC (.iconst 0) 1 0 0),
  (44, eP (.istore_n 3) 1),
  (45, eP (.iload_n 3) 1),
  (46, eP (.aload_n 0) 1),
  (47, eF (.getfield 17) 4 5 2 83),
  (50, eP (.iload_n 1) 1),
  (51, eP (.iaload) 1),
  (52, eB (.if_icmp .ge 35) 87),
  (55, eP (.iload_n 2) 1),
  (56, eB (.ifCond .eq 23) 79),
  (59, eP (.aload_n 0) 1),
  (60, eP (.iload_n 1) 1),
  (61, eP (.iload_n 3) 1),
  (62, eM (.invokevirtual 116) 154 3 1 3 4 180),
  (65, eC (.bipush (-99)) 2 0 (-99)),
  (67, eC (.bipush 99) 2 0 99),
  (69, eM (.invokestatic 98) 144 3 1 3 9 134),
  (72, eB (.ifCond .eq 7) 79),
  (75, eC (.iconst 1) 1 0 1),
  (76, eB (.goto 4) 80),
  (79, eC (.iconst 0) 1 0 0),
  (80, eP (.istore_n 2) 1),
  (81, eC (.iinc 3 1) 3 0 1),
  (84, eB (.goto (-39)) 45),
  (87, eP (.iload_n 2) 1),
  (88, eB (.ifCond .eq 7) 95),
  (91, eC (.iconst 0) 1 0 0),
  (92, eB (.goto 8) 100),
  (95, eP (.aload_n 0) 1),
  (96, eC (.iconst 3) 1 0 3),
  (97, eM (.invokevirtual 106) 145 2 1 2 4 137),
  (100, eR (.ireturn) 0)]
/-- X4_bestSum -/
def k_223 : List (Nat × En) := [(0, eL (.lconst 0) 1 0 0),
  (1, eP (.lstore 6) 2),
  (3, eP (.aload_n 0) 1),
  (4, eC (.bipush (-9)) 2 0 (-9)),
  (6, eF (.putfield 286) 4 35 0 925),
  (9, eC (.iconst 0) 1 0 0),
  (10, eP (.istore 8) 2),
  (12, eK [1, 1, 1, 0, 1, 0, 1, 0, 1, 0, 0] (eP (.iload 8) 2)),
  (14, eP (.aload_n 0) 1),
  (15, eF (.getfield 17) 4 5 2 83),
  (18, eP (.iload_n 1) 1),
  (19, eP (.iaload) 1),
  (20, eB (.if_icmp .ge 62) 82),
  (23, eP (.lload_n 2) 1),
  (24, eP (.aload_n 0) 1),
  (25, eP (.iload_n 1) 1),
  (26, eP (.iload 8) 2),
  (28, eM (.invokevirtual 116) 154 3 1 3 4 180),
  (31, eP (.i2l) 1),
  (32, eP (.lmul) 1),
  (33, eP (.lload 4) 2),
  (35, eP (.aload_n 0) 1),
  (36, eP (.iload_n 1) 1),
  (37, eP (.iload 8) 2),
  (39, eC (.iconst 1) 1 0 1),
  (40, eP (.iadd) 1),
  (41, eM (.invokevirtual 116) 154 3 1 3 4 180),
  (44, eP (.i2l) 1),
  (45, eP (.lmul) 1),
  (46, eP (.ladd) 1),
  (47, eP (.lstore 9) 2),
  (49, eP (.aload_n 0) 1),
  (50, eF (.getfield 286) 4 35 0 925),
  (53, eB (.ifCond .lt 11) 64),
  (56, eP (.lload 9) 2),
  (58, eP (.lload 6) 2),
  (60, eP (.lcmp) 1),
  (61, eB (.ifCond .le 15) 76),
  (64, eP (.aload_n 0) 1),
  (65, eP (.iload 8) 2),
  (67, eC (.iconst 2) 1 0 2),
  (68, eP (.idiv) 1),
  (69, eF (.putfield 286) 4 35 0 925),
  (72, eP (.lload 9) 2),
  (74, eP (.lstore 6) 2),
  (76, eC (.iinc 8 2) 3 0 2),
  (79, eB (.goto (-67)) 12),
  (82, eP (.lload 6) 2),
  (84, eR (.lreturn) 1)]
/-- X4_act -/
def k_224 : List (Nat × En) := [(0, eP (.iload_n 1) 1),
  (1, eM (.invokestatic 132) 163 1 1 1 9 302),
  (4, eB (.ifCond .eq 10) 14),
  (7, eP (.iload_n 2) 1),
  (8, eM (.invokestatic 102) 150 1 1 1 9 131),
  (11, eB (.ifCond .ne 5) 16),
  (14, eC (.iconst (-1)) 1 0 (-1)),
  (15, eR (.ireturn) 0),
  (16, eP (.aload_n 0) 1),
  (17, eP (.iload_n 2) 1),
  (18, eM (.invokevirtual 289) 222 2 1 4 4 926),
  (21, eP (.istore_n 3) 1),
  (22, eP (.iload_n 3) 1),
  (23, eB (.ifCond .ge 5) 28),
  (26, eP (.iload_n 3) 1),
  (27, eR (.ireturn) 0),
  (28, eP (.aload_n 0) 1),
  (29, eM (.invokevirtual 249) 201 1 1 1 4 666),
  (32, eB (.ifCond .ne 9) 41),
  (35, eP (.aload_n 0) 1),
  (36, eC (.iconst 4) 1 0 4),
  (37, eM (.invokevirtual 106) 145 2 1 2 4 137),
  (40, eR (.ireturn) 0),
  (41, eP (.aload_n 0) 1),
  (42, eP (.iload_n 1) 1),
  (43, eM (.invokevirtual 253) 202 2 2 5 4 721),
  (46, eP (.lstore 4) 2),
  (48, eP (.aload_n 0) 1),
  (49, eP (.aload_n 0) 1),
  (50, eP (.iload_n 2) 1),
  (51, eP (.lload 4) 2),
  (53, eP (.aload_n 0) 1),
  (54, eF (.getfield 237) 4 34 1 678),
  (57, eP (.lload 4) 2),
  (59, eP (.lsub) 1),
  (60, eM (.invokevirtual 292) 223 4 2 11 4 930),
  (63, eP (.aload_n 0) 1),
  (64, eF (.getfield 237) 4 34 1 678),
  (67, eP (.aload_n 0) 1),
  (68, eF (.getfield 286) 4 35 0 925),
  (71, eM (.invokevirtual 257) 149 4 1 12 4 725),
  (74, eR (.ireturn) 0)]
/-- X4_look -/
def k_225 : List (Nat × En) := [(0, eP (.iload_n 1) 1),
  (1, eM (.invokestatic 132) 163 1 1 1 9 302),
  (4, eB (.ifCond .eq 17) 21),
  (7, eP (.iload_n 2) 1),
  (8, eM (.invokestatic 102) 150 1 1 1 9 131),
  (11, eB (.ifCond .eq 10) 21),
  (14, eP (.iload_n 3) 1),
  (15, eM (.invokestatic 132) 163 1 1 1 9 302),
  (18, eB (.ifCond .ne 5) 23),
  (21, eC (.iconst (-1)) 1 0 (-1)),
  (22, eR (.ireturn) 0),
  (23, eP (.aload_n 0) 1),
  (24, eP (.iload_n 2) 1),
  (25, eM (.invokevirtual 289) 222 2 1 4 4 926),
  (28, eP (.istore 4) 2),
  (30, eP (.iload 4) 2),
  (32, eB (.ifCond .ge 6) 38),
  (35, eP (.iload 4) 2),
  (37, eR (.ireturn) 0),
  (38, eP (.aload_n 0) 1),
  (39, eM (.invokevirtual 249) 201 1 1 1 4 666),
  (42, eB (.ifCond .ne 9) 51),
  (45, eP (.aload_n 0) 1),
  (46, eC (.iconst 4) 1 0 4),
  (47, eM (.invokevirtual 106) 145 2 1 2 4 137),
  (50, eR (.ireturn) 0),
  (51, eP (.aload_n 0) 1),
  (52, eP (.iload_n 1) 1),
  (53, eM (.invokevirtual 253) 202 2 2 5 4 721),
  (56, eP (.lstore 5) 2),
  (58, eP (.aload_n 0) 1),
  (59, eP (.iload_n 1) 1),
  (60, eP (.iload_n 3) 1),
  (61, eM (.invokevirtual 261) 203 3 2 6 4 738),
  (64, eP (.lstore 7) 2),
  (66, eP (.aload_n 0) 1),
  (67, eP (.iload_n 3) 1),
  (68, eM (.invokevirtual 253) 202 2 2 5 4 721),
  (71, eP (.lstore 9) 2),
  (73, eP (.aload_n 0) 1),
  (74, eP (.iload_n 2) 1),
  (75, eP (.lload 7) 2),
  (77, eP (.lload 9) 2),
  (79, eP (.lload 7) 2),
  (81, eP (.lsub) 1),
  (82, eM (.invokevirtual 292) 223 4 2 11 4 930),
  (85, eP (.aload_n 0) 1),
  (86, eP (.iload_n 2) 1),
  (87, eP (.lload 5) 2),
  (89, eP (.lload 7) 2),
  (91, eP (.lsub) 1),
  (92, eP (.aload_n 0) 1),
  (93, eF (.getfield 237) 4 34 1 678),
  (96, eP (.lload 9) 2),
  (98, eP (.lsub) 1),
  (99, eP (.lload 5) 2),
  (101, eP (.lsub) 1),
  (102, eP (.lload 7) 2),
  (104, eP (.ladd) 1),
  (105, eM (.invokevirtual 292) 223 4 2 11 4 930),
  (108, eP (.ladd) 1),
  (109, eP (.aload_n 0) 1),
  (110, eP (.iload_n 2) 1),
  (111, eP (.lload 5) 2),
  (113, eP (.aload_n 0) 1),
  (114, eF (.getfield 237) 4 34 1 678),
  (117, eP (.lload 5) 2),
  (119, eP (.lsub) 1),
  (120, eM (.invokevirtual 292) 223 4 2 11 4 930),
  (123, eP (.lsub) 1),
  (124, eP (.lstore 11) 2),
  (126, eK [1, 0, 0, 0, 0, 0, 0, 0, 0, 0, 0, 1, 0] (eP (.aload_n 0) 1)),
  (127, eP (.lload 11) 2),
  (129, eP (.aload_n 0) 1),
  (130, eF (.getfield 237) 4 34 1 678),
  (133, eC (.iconst 1) 1 0 1),
  (134, eM (.invokevirtual 257) 149 4 1 12 4 725),
  (137, eR (.ireturn) 0)]
/-- X4_wrong -/
def k_226 : List (Nat × En) := [(0, eP (.aload_n 0) 1),
  (1, eM (.invokevirtual 249) 201 1 1 1 4 666),
  (4, eP (.istore_n 1) 1),
  (5, eP (.iload_n 1) 1),
  (6, eB (.ifCond .eq 10) 16),
  (9, eP (.aload_n 0) 1),
  (10, eF (.getfield 234) 4 31 0 664),
  (13, eB (.goto 4) 17),
  (16, eC (.iconst 0) 1 0 0),
  (17, eP (.istore_n 2) 1),
  (18, eC (.bipush (-9)) 2 0 (-9)),
  (20, eP (.istore_n 3) 1),
  (21, eC (.iconst 0) 1 0 0),
  (22, eP (.istore 4) 2),
  (24, eC (.iconst 0) 1 0 0),
  (25, eP (.istore 5) 2),
  (27, eK [1, 1, 1, 1, 1, 1, 0, 0] (eP (.iload 5) 2)),
  (29, eC (.bipush 28) 2 0 28),
  (31, eB (.if_icmp .ge 103) 134),
  (34, eP (.aload_n 0) 1),
  (35, eF (.getfield 36) 4 11 2 89),
  (38, eP (.iload 5) 2),
  (40, eP (.iaload) 1),
  (41, eC (.iconst 1) 1 0 1),
  (42, eC (.iconst 2) 1 0 2),
  (43, eM (.invokestatic 98) 144 3 1 3 9 134),
  (46, eB (.ifCond .eq 82) 128),
  (49, eP (.aload_n 0) 1),
  (50, eF (.getfield 36) 4 11 2 89),
  (53, eP (.iload 5) 2),
  (55, eC (.iconst 3) 1 0 3),
  (56, eP (.aload_n 0) 1),
  (57, eF (.getfield 36) 4 11 2 89),
  (60, eP (.iload 5) 2),
  (62, eP (.iaload) 1),
  (63, eP (.isub) 1),
  (64, eP (.iastore) 1),
  (65, eP (.aload_n 0) 1),
  (66, eM (.invokevirtual 249) 201 1 1 1 4 666),
  (69, eP (.istore 6) 2),
  (71, eP (.iload 6) 2),
  (73, eB (.ifCond .ne 7) 80),
  (76, eC (.iconst 0) 1 0 0),
  (77, eB (.goto 19) 96),
  (80, eP (.iload_n 1) 1),
  (81, eB (.ifCond .eq 12) 93),
  (84, eP (.iload_n 2) 1),
  (85, eP (.aload_n 0) 1),
  (86, eF (.getfield 234) 4 31 0 664),
  (89, eP (.isub) 1),
  (90, eB (.goto 6) 96),
  (93, eC (.sipush 1000) 3 0 1000),
  (96, eK [1, 1, 1, 1, 1, 1, 0, 0] (eP (.istore 7) 2)),
  (98, eP (.aload_n 0) 1),
  (99, eF (.getfield 36) 4 11 2 89),
  (102, eP (.iload 5) 2),
  (104, eC (.iconst 3) 1 0 3),
  (105, eP (.aload_n 0) 1),
  (106, eF (.getfield 36) 4 11 2 89),
  (109, eP (.iload 5) 2),
  (111, eP (.iaload) 1),
  (112, eP (.isub) 1),
  (113, eP (.iastore) 1),
  (114, eP (.iload 7) 2),
  (116, eP (.iload 4) 2),
  (118, eB (.if_icmp .le 10) 128),
  (121, eP (.iload 5) 2),
  (123, eP (.istore_n 3) 1),
  (124, eP (.iload 7) 2),
  (126, eP (.istore 4) 2),
  (128, eC (.iinc 5 1) 3 0 1),
  (131, eB (.goto (-104)) 27),
  (134, eP (.iload_n 3) 1),
  (135, eB (.ifCond .ge 8) 143),
  (138, eC (.bipush (-9)) 2 0 (-9)),
  (140, eB (.goto 10) 150),
  (143, eP (.aload_n 0) 1),
  (144, eP (.iload 4) 2),
  (146, eP (.iload_n 3) 1),
  (147, eM (.invokevirtual 120) 146 3 1 3 4 184),
  (150, eR (.ireturn) 0)]
/-- X4_held -/
def k_227 : List (Nat × En) := [(0, eP (.iload_n 2) 1),
  (1, eC (.iconst 0) 1 0 0),
  (2, eC (.bipush 10) 2 0 10),
  (4, eM (.invokestatic 98) 144 3 1 3 9 134),
  (7, eB (.ifCond .ne 5) 12),
  (10, eC (.iconst (-1)) 1 0 (-1)),
  (11, eR (.ireturn) 0),
  (12, eP (.aload_n 0) 1),
  (13, eP (.iload_n 1) 1),
  (14, eM (.invokevirtual 113) 152 2 1 2 4 176),
  (17, eP (.istore_n 3) 1),
  (18, eP (.iload_n 3) 1),
  (19, eB (.ifCond .ge 5) 24),
  (22, eP (.iload_n 3) 1),
  (23, eR (.ireturn) 0),
  (24, eP (.aload_n 0) 1),
  (25, eF (.getfield 17) 4 5 2 83),
  (28, eP (.iload_n 1) 1),
  (29, eP (.iaload) 1),
  (30, eC (.iconst 2) 1 0 2),
  (31, eP (.irem) 1),
  (32, eB (.ifCond .eq 9) 41),
  (35, eP (.aload_n 0) 1),
  (36, eC (.iconst 5) 1 0 5),
  (37, eM (.invokevirtual 106) 145 2 1 2 4 137),
  (40, eR (.ireturn) 0),
  (41, eC (.iconst 0) 1 0 0),
  (42, eP (.istore 4) 2),
  (44, eC (.iconst 0) 1 0 0),
  (45, eP (.istore 5) 2),
  (47, eC (.iconst 1) 1 0 1),
  (48, eP (.istore 6) 2),
  (50, eC (.iconst 0) 1 0 0),
  (51, eP (.istore 7) 2),
  (53, eK [1, 1, 1, 0, 1, 1, 1, 1] (eP (.iload 7) 2)),
  (55, eP (.aload_n 0) 1),
  (56, eF (.getfield 17) 4 5 2 83),
  (59, eP (.iload_n 1) 1),
  (60, eP (.iaload) 1),
  (61, eB (.if_icmp .ge 109) 170),
  (64, eP (.iload 6) 2),
  (66, eB (.ifCond .eq 40) 106),
  (69, eP (.aload_n 0) 1),
  (70, eP (.iload_n 1) 1),
  (71, eP (.iload 7) 2),
  (73, eM (.invokevirtual 116) 154 3 1 3 4 180),
  (76, eC (.iconst 0) 1 0 0),
  (77, eC (.bipush 10) 2 0 10),
  (79, eM (.invokestatic 98) 144 3 1 3 9 134),
  (82, eB (.ifCond .eq 24) 106),
  (85, eP (.aload_n 0) 1),
  (86, eP (.iload_n 1) 1),
  (87, eP (.iload 7) 2),
  (89, eC (.iconst 1) 1 0 1),
  (90, eP (.iadd) 1),
  (91, eM (.invokevirtual 116) 154 3 1 3 4 180),
  (94, eC (.iconst 0) 1 0 0),
  (95, eC (.iconst 1) 1 0 1),
  (96, eM (.invokestatic 98) 144 3 1 3 9 134),
  (99, eB (.ifCond .eq 7) 106),
  (102, eC (.iconst 1) 1 0 1),
  (103, eB (.goto 4) 107),
  (106, eC (.iconst 0) 1 0 0),
  (107, eK [1, 1, 1, 0, 1, 1, 0, 1] (eP (.istore 6) 2)),
  (109, eP (.iload 4) 2),
  (111, eP (.aload_n 0) 1),
  (112, eP (.iload_n 1) 1),
  (113, eP (.iload 7) 2),
  (115, eM (.invokevirtual 116) 154 3 1 3 4 180),
  (118, eP (.iload_n 2) 1),
  (119, eB (.if_icmp .ne 7) 126),
  (122, eC (.iconst 1) 1 0 1),
  (123, eB (.goto 4) 127),
  (126, eC (.iconst 0) 1 0 0),
  (127, eK [1, 1, 1, 0, 0, 1, 1, 1] (eP (.iadd) 1)),
  (128, eP (.istore 4) 2),
  (130, eP (.iload 5) 2),
  (132, eP (.aload_n 0) 1),
  (133, eP (.iload_n 1) 1),
  (134, eP (.iload 7) 2),
  (136, eM (.invokevirtual 116) 154 3 1 3 4 180),
  (139, eP (.iload_n 2) 1),
  (140, eB (.if_icmp .ne 20) 160),
  (143, eP (.aload_n 0) 1),
  (144, eP (.iload_n 1) 1),
  (145, eP (.iload 7) 2),
  (147, eC (.iconst 1) 1 0 1),
  (148, eP (.iadd) 1),
  (149, eM (.invokevirtual 116) 154 3 1 3 4 180),
  (152, eC (.iconst 1) 1 0 1),
  (153, eB (.if_icmp .ne 7) 160),
  (156, eC (.iconst 1) 1 0 1),
  (157, eB (.goto 4) 161),
  (160, eC (.iconst 0) 1 0 0),
  (161, eP (.iadd) 1),
  (162, eP (.istore 5) 2),
  (164, eC (.iinc 7 2) 3 0 2),
  (167, eB (.goto (-114)) 53),
  (170, eP (.iload 6) 2),
  (172, eB (.ifCond .eq 14) 186),
  (175, eP (.aload_n 0) 1),
  (176, eP (.iload 4) 2),
  (178, eP (.iload 5) 2),
  (180, eM (.invokevirtual 120) 146 3 1 3 4 184),
  (183, eB (.goto 8) 191),
  (186, eP (.aload_n 0) 1),
  (187, eC (.iconst 3) 1 0 3),
  (188, eM (.invokevirtual 106) 145 2 1 2 4 137),
  (191, eR (.ireturn) 0)]
/-- X4_asked -/
def k_228 : List (Nat × En) := [(0, eP (.aload_n 0) 1),
  (1, eF (.getfield 92) 4 2 0 188),
  (4, eR (.ireturn) 0)]
/-- X4_upper -/
def k_229 : List (Nat × En) := [(0, eP (.aload_n 0) 1),
  (1, eF (.getfield 95) 4 3 1 729),
  (4, eR (.lreturn) 1)]
/-- X4_lower -/
def k_230 : List (Nat × En) := [(0, eP (.aload_n 0) 1),
  (1, eF (.getfield 13) 4 4 1 82),
  (4, eR (.lreturn) 1)]
/-- X4_counts -/
def k_231 : List (Nat × En) := [(0, eC (.iconst 0) 1 0 0),
  (1, eP (.istore_n 2) 1),
  (2, eP (.iload_n 1) 1),
  (3, eS (.tableswitch 158 0 5 #[37, 42, 49, 56, 89, 125]) 37 161 [(0, 40), (1, 45), (2, 52), (3, 59), (4, 92), (5, 128)]),
  (40, eP (.aload_n 0) 1),
  (41, eF (.getfield 32) 4 10 0 88),
  (44, eR (.ireturn) 0),
  (45, eP (.aload_n 0) 1),
  (46, eC (.iconst 3) 1 0 3),
  (47, eC (.iconst 3) 1 0 3),
  (48, eM (.invokevirtual 135) 166 3 1 5 4 305),
  (51, eR (.ireturn) 0),
  (52, eP (.aload_n 0) 1),
  (53, eC (.iconst 1) 1 0 1),
  (54, eC (.iconst 2) 1 0 2),
  (55, eM (.invokevirtual 135) 166 3 1 5 4 305),
  (58, eR (.ireturn) 0),
  (59, eC (.iconst 0) 1 0 0),
  (60, eP (.istore_n 3) 1),
  (61, eK [1, 0, 1, 1] (eP (.iload_n 3) 1)),
  (62, eC (.bipush 8) 2 0 8),
  (64, eB (.if_icmp .ge 26) 90),
  (67, eP (.iload_n 2) 1),
  (68, eP (.aload_n 0) 1),
  (69, eF (.getfield 52) 4 19 2 94),
  (72, eP (.iload_n 3) 1),
  (73, eP (.iaload) 1),
  (74, eB (.ifCond .lt 7) 81),
  (77, eC (.iconst 1) 1 0 1),
  (78, eB (.goto 4) 82),
  (81, eC (.iconst 0) 1 0 0),
  (82, eP (.iadd) 1),
  (83, eP (.istore_n 2) 1),
  (84, eC (.iinc 3 1) 3 0 1),
  (87, eB (.goto (-26)) 61),
  (90, eP (.iload_n 2) 1),
  (91, eR (.ireturn) 0),
  (92, eC (.iconst 0) 1 0 0),
  (93, eP (.istore_n 3) 1),
  (94, eK [1, 0, 1, 1] (eP (.iload_n 3) 1)),
  (95, eC (.bipush 8) 2 0 8),
  (97, eB (.if_icmp .ge 29) 126),
  (100, eP (.iload_n 2) 1),
  (101, eP (.aload_n 0) 1),
  (102, eF (.getfield 52) 4 19 2 94),
  (105, eP (.iload_n 3) 1),
  (106, eP (.iaload) 1),
  (107, eM (.invokestatic 225) 182 1 1 1 9 640),
  (110, eB (.ifCond .eq 7) 117),
  (113, eC (.iconst 1) 1 0 1),
  (114, eB (.goto 4) 118),
  (117, eC (.iconst 0) 1 0 0),
  (118, eP (.iadd) 1),
  (119, eP (.istore_n 2) 1),
  (120, eC (.iinc 3 1) 3 0 1),
  (123, eB (.goto (-29)) 94),
  (126, eP (.iload_n 2) 1),
  (127, eR (.ireturn) 0),
  (128, eC (.iconst 0) 1 0 0),
  (129, eP (.istore_n 3) 1),
  (130, eK [1, 0, 1, 1] (eP (.iload_n 3) 1)),
  (131, eC (.bipush 6) 2 0 6),
  (133, eB (.if_icmp .ge 26) 159),
  (136, eP (.iload_n 2) 1),
  (137, eP (.aload_n 0) 1),
  (138, eF (.getfield 17) 4 5 2 83),
  (141, eP (.iload_n 3) 1),
  (142, eP (.iaload) 1),
  (143, eB (.ifCond .lt 7) 150),
  (146, eC (.iconst 1) 1 0 1),
  (147, eB (.goto 4) 151),
  (150, eC (.iconst 0) 1 0 0),
  (151, eP (.iadd) 1),
  (152, eP (.istore_n 2) 1),
  (153, eC (.iinc 3 1) 3 0 1),
  (156, eB (.goto (-26)) 130),
  (159, eP (.iload_n 2) 1),
  (160, eR (.ireturn) 0),
  (161, eC (.iconst 0) 1 0 0),
  (162, eP (.istore_n 3) 1),
  (163, eK [1, 0, 1, 1] (eP (.iload_n 3) 1)),
  (164, eC (.iconst 4) 1 0 4),
  (165, eB (.if_icmp .ge 26) 191),
  (168, eP (.iload_n 2) 1),
  (169, eP (.aload_n 0) 1),
  (170, eF (.getfield 26) 4 8 2 86),
  (173, eP (.iload_n 3) 1),
  (174, eP (.iaload) 1),
  (175, eB (.ifCond .lt 7) 182),
  (178, eC (.iconst 1) 1 0 1),
  (179, eB (.goto 4) 183),
  (182, eC (.iconst 0) 1 0 0),
  (183, eP (.iadd) 1),
  (184, eP (.istore_n 2) 1),
  (185, eC (.iinc 3 1) 3 0 1),
  (188, eB (.goto (-25)) 163),
  (191, eP (.iload_n 2) 1),
  (192, eR (.ireturn) 0)]
/-- X4_count -/
def k_232 : List (Nat × En) := [(0, eP (.iload_n 1) 1),
  (1, eC (.iconst 0) 1 0 0),
  (2, eC (.bipush 6) 2 0 6),
  (4, eM (.invokestatic 98) 144 3 1 3 9 134),
  (7, eB (.ifCond .eq 11) 18),
  (10, eP (.aload_n 0) 1),
  (11, eP (.iload_n 1) 1),
  (12, eM (.invokevirtual 296) 231 2 1 4 4 1010),
  (15, eB (.goto 4) 19),
  (18, eC (.iconst (-1)) 1 0 (-1)),
  (19, eR (.ireturn) 0)]
/-- X4_finding -/
def k_233 : List (Nat × En) := [(0, eP (.aload_n 0) 1),
  (1, eF (.getfield 89) 4 0 0 141),
  (4, eR (.ireturn) 0)]
/-- X4_findings -/
def k_234 : List (Nat × En) := [(0, eP (.iload_n 1) 1),
  (1, eC (.iconst 1) 1 0 1),
  (2, eC (.iconst 5) 1 0 5),
  (3, eM (.invokestatic 98) 144 3 1 3 9 134),
  (6, eB (.ifCond .eq 12) 18),
  (9, eP (.aload_n 0) 1),
  (10, eF (.getfield 7) 4 1 2 81),
  (13, eP (.iload_n 1) 1),
  (14, eP (.iaload) 1),
  (15, eB (.goto 4) 19),
  (18, eC (.iconst (-1)) 1 0 (-1)),
  (19, eR (.ireturn) 0)]
/-- X4_mix -/
def k_235 : List (Nat × En) := [(0, eP (.aload_n 0) 1),
  (1, eL (.ldc2_w 299) 3 1056 31),
  (4, eP (.aload_n 0) 1),
  (5, eF (.getfield 301) 4 36 1 1051),
  (8, eP (.lmul) 1),
  (9, eP (.iload_n 1) 1),
  (10, eP (.i2l) 1),
  (11, eP (.ladd) 1),
  (12, eF (.putfield 301) 4 36 1 1051),
  (15, eR (.return_) 2)]
/-- X4_digest -/
def k_236 : List (Nat × En) := [(0, eP (.aload_n 0) 1),
  (1, eL (.ldc2_w 304) 3 1050 17),
  (4, eF (.putfield 301) 4 36 1 1051),
  (7, eC (.iconst 0) 1 0 0),
  (8, eP (.istore_n 1) 1),
  (9, eK [1, 1, 0] (eP (.iload_n 1) 1)),
  (10, eC (.bipush 6) 2 0 6),
  (12, eB (.if_icmp .gt 18) 30),
  (15, eP (.aload_n 0) 1),
  (16, eP (.aload_n 0) 1),
  (17, eP (.iload_n 1) 1),
  (18, eM (.invokevirtual 296) 231 2 1 4 4 1010),
  (21, eM (.invokevirtual 306) 235 2 0 2 4 1052),
  (24, eC (.iinc 1 1) 3 0 1),
  (27, eB (.goto (-18)) 9),
  (30, eC (.iconst 0) 1 0 0),
  (31, eP (.istore_n 1) 1),
  (32, eK [1, 1, 0] (eP (.iload_n 1) 1)),
  (33, eC (.bipush 28) 2 0 28),
  (35, eB (.if_icmp .ge 19) 54),
  (38, eP (.aload_n 0) 1),
  (39, eP (.aload_n 0) 1),
  (40, eF (.getfield 36) 4 11 2 89),
  (43, eP (.iload_n 1) 1),
  (44, eP (.iaload) 1),
  (45, eM (.invokevirtual 306) 235 2 0 2 4 1052),
  (48, eC (.iinc 1 1) 3 0 1),
  (51, eB (.goto (-19)) 32),
  (54, eC (.iconst 0) 1 0 0),
  (55, eP (.istore_n 1) 1),
  (56, eK [1, 1, 0] (eP (.iload_n 1) 1)),
  (57, eC (.bipush 8) 2 0 8),
  (59, eB (.if_icmp .ge 64) 123),
  (62, eP (.aload_n 0) 1),
  (63, eF (.getfield 52) 4 19 2 94),
  (66, eP (.iload_n 1) 1),
  (67, eP (.iaload) 1),
  (68, eB (.ifCond .ge 11) 79),
  (71, eP (.aload_n 0) 1),
  (72, eC (.iconst (-1)) 1 0 (-1)),
  (73, eM (.invokevirtual 306) 235 2 0 2 4 1052),
  (76, eB (.goto 41) 117),
  (79, eC (.iconst 0) 1 0 0),
  (80, eP (.istore_n 2) 1),
  (81, eP (.iload_n 2) 1),
  (82, eC (.iconst 2) 1 0 2),
  (83, eB (.if_icmp .gt 19) 102),
  (86, eP (.aload_n 0) 1),
  (87, eP (.aload_n 0) 1),
  (88, eP (.iload_n 1) 1),
  (89, eP (.iload_n 2) 1),
  (90, eM (.invokevirtual 193) 188 3 1 3 4 483),
  (93, eM (.invokevirtual 306) 235 2 0 2 4 1052),
  (96, eC (.iinc 2 1) 3 0 1),
  (99, eB (.goto (-18)) 81),
  (102, eP (.aload_n 0) 1),
  (103, eP (.aload_n 0) 1),
  (104, eP (.iload_n 1) 1),
  (105, eP (.aload_n 0) 1),
  (106, eF (.getfield 52) 4 19 2 94),
  (109, eP (.iload_n 1) 1),
  (110, eP (.iaload) 1),
  (111, eM (.invokevirtual 203) 192 3 1 3 4 512),
  (114, eM (.invokevirtual 306) 235 2 0 2 4 1052),
  (117, eC (.iinc 1 1) 3 0 1),
  (120, eB (.goto (-64)) 56),
  (123, eC (.iconst 0) 1 0 0),
  (124, eP (.istore_n 1) 1),
  (125, eK [1, 1, 0] (eP (.iload_n 1) 1)),
  (126, eC (.bipush 6) 2 0 6),
  (128, eB (.if_icmp .ge 60) 188),
  (131, eP (.aload_n 0) 1),
  (132, eP (.aload_n 0) 1),
  (133, eF (.getfield 17) 4 5 2 83),
  (136, eP (.iload_n 1) 1),
  (137, eP (.iaload) 1),
  (138, eB (.ifCond .ge 7) 145),
  (141, eC (.iconst (-1)) 1 0 (-1)),
  (142, eB (.goto 9) 151),
  (145, eP (.aload_n 0) 1),
  (146, eF (.getfield 17) 4 5 2 83),
  (149, eP (.iload_n 1) 1),
  (150, eP (.iaload) 1),
  (151, eM (.invokevirtual 306) 235 2 0 2 4 1052),
  (154, eC (.iconst 0) 1 0 0),
  (155, eP (.istore_n 2) 1),
  (156, eP (.iload_n 2) 1),
  (157, eP (.aload_n 0) 1),
  (158, eF (.getfield 17) 4 5 2 83),
  (161, eP (.iload_n 1) 1),
  (162, eP (.iaload) 1),
  (163, eB (.if_icmp .ge 19) 182),
  (166, eP (.aload_n 0) 1),
  (167, eP (.aload_n 0) 1),
  (168, eP (.iload_n 1) 1),
  (169, eP (.iload_n 2) 1),
  (170, eM (.invokevirtual 116) 154 3 1 3 4 180),
  (173, eM (.invokevirtual 306) 235 2 0 2 4 1052),
  (176, eC (.iinc 2 1) 3 0 1),
  (179, eB (.goto (-23)) 156),
  (182, eC (.iinc 1 1) 3 0 1),
  (185, eB (.goto (-60)) 125),
  (188, eC (.iconst 0) 1 0 0),
  (189, eP (.istore_n 1) 1),
  (190, eK [1, 1, 0] (eP (.iload_n 1) 1)),
  (191, eC (.iconst 4) 1 0 4),
  (192, eB (.if_icmp .ge 65) 257),
  (195, eP (.aload_n 0) 1),
  (196, eP (.aload_n 0) 1),
  (197, eF (.getfield 26) 4 8 2 86),
  (200, eP (.iload_n 1) 1),
  (201, eP (.iaload) 1),
  (202, eB (.ifCond .ge 7) 209),
  (205, eC (.iconst (-1)) 1 0 (-1)),
  (206, eB (.goto 9) 215),
  (209, eP (.aload_n 0) 1),
  (210, eF (.getfield 26) 4 8 2 86),
  (213, eP (.iload_n 1) 1),
  (214, eP (.iaload) 1),
  (215, eM (.invokevirtual 306) 235 2 0 2 4 1052),
  (218, eC (.iconst 0) 1 0 0),
  (219, eP (.istore_n 2) 1),
  (220, eP (.iload_n 2) 1),
  (221, eP (.aload_n 0) 1),
  (222, eF (.getfield 26) 4 8 2 86),
  (225, eP (.iload_n 1) 1),
  (226, eP (.iaload) 1),
  (227, eB (.if_icmp .ge 24) 251),
  (230, eP (.aload_n 0) 1),
  (231, eP (.aload_n 0) 1),
  (232, eF (.getfield 29) 4 9 2 87),
  (235, eC (.bipush 40) 2 0 40),
  (237, eP (.iload_n 1) 1),
  (238, eP (.imul) 1),
  (239, eP (.iload_n 2) 1),
  (240, eP (.iadd) 1),
  (241, eP (.iaload) 1),
  (242, eM (.invokevirtual 306) 235 2 0 2 4 1052),
  (245, eC (.iinc 2 1) 3 0 1),
  (248, eB (.goto (-28)) 220),
  (251, eC (.iinc 1 1) 3 0 1),
  (254, eB (.goto (-64)) 190),
  (257, eP (.aload_n 0) 1),
  (258, eF (.getfield 301) 4 36 1 1051),
  (261, eR (.lreturn) 1)]
def k_237_0 : List (Nat × En) := [(3, eP (.dup) 1),
  (7, eP (.astore_n 1) 1),
  (11, eP (.dup) 1),
  (15, eP (.astore_n 2) 1),
  (16, eC (.iconst 0) 1 0 0),
  (17, eP (.istore_n 3) 1),
  (18, eP (.iload_n 3) 1),
  (19, eP (.aload_n 0) 1),
  (20, eP (.arraylength) 1),
  (21, eC (.bipush 6) 2 0 6),
  (23, eP (.isub) 1),
  (24, eB (.if_icmp .gt 1427) 1451),
  (27, eP (.aload_n 0) 1),
  (28, eP (.iload_n 3) 1),
  (29, eP (.iaload) 1),
  (30, eC (.bipush 63) 2 0 63),
  (32, eP (.iand) 1),
  (33, eS (.tableswitch 1412 0 41 #[183, 216, 259, 292, 315, 378, 401, 434, 477, 500, 533, 556, 589, 642, 665, 698, 731, 764, 777, 800, 833, 846, 869, 892, 925, 958, 991, 1034, 1077, 1110, 1133, 1176, 1209, 1252, 1265, 1298, 1311, 1325, 1339, 1362, 1375, 1398]) 183 1445 [(0, 216), (1, 249), (2, 292), (3, 325), (4, 348), (5, 411), (6, 434), (7, 467), (8, 510), (9, 533), (10, 566), (11, 589), (12, 622), (13, 675), (14, 698), (15, 731), (16, 764), (17, 797), (18, 810), (19, 833), (20, 866), (21, 879), (22, 902), (23, 925), (24, 958), (25, 991), (26, 1024), (27, 1067), (28, 1110), (29, 1143), (30, 1166), (31, 1209), (32, 1242), (33, 1285), (34, 1298), (35, 1331), (36, 1344), (37, 1358), (38, 1372), (39, 1395), (40, 1408), (41, 1431)]),
  (216, eP (.aload_n 1) 1),
  (217, eP (.aload_n 0) 1),
  (218, eP (.iload_n 3) 1),
  (219, eC (.iconst 1) 1 0 1),
  (220, eP (.iadd) 1),
  (221, eP (.iaload) 1),
  (222, eP (.aload_n 0) 1),
  (223, eP (.iload_n 3) 1),
  (224, eC (.iconst 2) 1 0 2),
  (225, eP (.iadd) 1),
  (226, eP (.iaload) 1),
  (227, eM (.invokevirtual 13) 58 3 1 3 3 106),
  (230, eP (.aload_n 2) 1),
  (231, eP (.aload_n 0) 1),
  (232, eP (.iload_n 3) 1),
  (233, eC (.iconst 1) 1 0 1),
  (234, eP (.iadd) 1),
  (235, eP (.iaload) 1),
  (236, eP (.aload_n 0) 1),
  (237, eP (.iload_n 3) 1),
  (238, eC (.iconst 2) 1 0 2),
  (239, eP (.iadd) 1),
  (240, eP (.iaload) 1),
  (241, eM (.invokevirtual 17) 155 3 1 4 4 127),
  (244, eB (.if_icmp .eq 1201) 1445),
  (247, eC (.iconst 0) 1 0 0),
  (248, eR (.ireturn) 3),
  (249, eP (.aload_n 1) 1),
  (250, eP (.aload_n 0) 1),
  (251, eP (.iload_n 3) 1),
  (252, eC (.iconst 1) 1 0 1),
  (253, eP (.iadd) 1)]
def k_237_1 : List (Nat × En) := [(254, eP (.iaload) 1),
  (255, eP (.aload_n 0) 1),
  (256, eP (.iload_n 3) 1),
  (257, eC (.iconst 2) 1 0 2),
  (258, eP (.iadd) 1),
  (259, eP (.iaload) 1),
  (260, eP (.aload_n 0) 1),
  (261, eP (.iload_n 3) 1),
  (262, eC (.iconst 3) 1 0 3),
  (263, eP (.iadd) 1),
  (264, eP (.iaload) 1),
  (265, eM (.invokevirtual 18) 59 4 1 5 3 142),
  (268, eP (.aload_n 2) 1),
  (269, eP (.aload_n 0) 1),
  (270, eP (.iload_n 3) 1),
  (271, eC (.iconst 1) 1 0 1),
  (272, eP (.iadd) 1),
  (273, eP (.iaload) 1),
  (274, eP (.aload_n 0) 1),
  (275, eP (.iload_n 3) 1),
  (276, eC (.iconst 2) 1 0 2),
  (277, eP (.iadd) 1),
  (278, eP (.iaload) 1),
  (279, eP (.aload_n 0) 1),
  (280, eP (.iload_n 3) 1),
  (281, eC (.iconst 3) 1 0 3),
  (282, eP (.iadd) 1),
  (283, eP (.iaload) 1),
  (284, eM (.invokevirtual 22) 157 4 1 5 4 168),
  (287, eB (.if_icmp .eq 1158) 1445),
  (290, eC (.iconst 0) 1 0 0),
  (291, eR (.ireturn) 3),
  (292, eP (.aload_n 1) 1),
  (293, eP (.aload_n 0) 1),
  (294, eP (.iload_n 3) 1),
  (295, eC (.iconst 1) 1 0 1),
  (296, eP (.iadd) 1),
  (297, eP (.iaload) 1),
  (298, eP (.aload_n 0) 1),
  (299, eP (.iload_n 3) 1),
  (300, eC (.iconst 2) 1 0 2),
  (301, eP (.iadd) 1),
  (302, eP (.iaload) 1),
  (303, eM (.invokevirtual 23) 60 3 1 4 3 189),
  (306, eP (.aload_n 2) 1),
  (307, eP (.aload_n 0) 1),
  (308, eP (.iload_n 3) 1),
  (309, eC (.iconst 1) 1 0 1),
  (310, eP (.iadd) 1),
  (311, eP (.iaload) 1)]
def k_237_2 : List (Nat × En) := [(312, eP (.aload_n 0) 1),
  (313, eP (.iload_n 3) 1),
  (314, eC (.iconst 2) 1 0 2),
  (315, eP (.iadd) 1),
  (316, eP (.iaload) 1),
  (317, eM (.invokevirtual 26) 156 3 1 4 4 193),
  (320, eB (.if_icmp .eq 1125) 1445),
  (323, eC (.iconst 0) 1 0 0),
  (324, eR (.ireturn) 3),
  (325, eP (.aload_n 1) 1),
  (326, eP (.aload_n 0) 1),
  (327, eP (.iload_n 3) 1),
  (328, eC (.iconst 1) 1 0 1),
  (329, eP (.iadd) 1),
  (330, eP (.iaload) 1),
  (331, eM (.invokevirtual 27) 61 2 1 2 3 194),
  (334, eP (.aload_n 2) 1),
  (335, eP (.aload_n 0) 1),
  (336, eP (.iload_n 3) 1),
  (337, eC (.iconst 1) 1 0 1),
  (338, eP (.iadd) 1),
  (339, eP (.iaload) 1),
  (340, eM (.invokevirtual 31) 158 2 1 3 4 202),
  (343, eB (.if_icmp .eq 1102) 1445),
  (346, eC (.iconst 0) 1 0 0),
  (347, eR (.ireturn) 3),
  (348, eP (.aload_n 1) 1),
  (349, eP (.aload_n 0) 1),
  (350, eP (.iload_n 3) 1),
  (351, eC (.iconst 1) 1 0 1),
  (352, eP (.iadd) 1),
  (353, eP (.iaload) 1),
  (354, eP (.aload_n 0) 1),
  (355, eP (.iload_n 3) 1),
  (356, eC (.iconst 2) 1 0 2),
  (357, eP (.iadd) 1),
  (358, eP (.iaload) 1),
  (359, eP (.aload_n 0) 1),
  (360, eP (.iload_n 3) 1),
  (361, eC (.iconst 3) 1 0 3),
  (362, eP (.iadd) 1),
  (363, eP (.iaload) 1),
  (364, eP (.aload_n 0) 1),
  (365, eP (.iload_n 3) 1),
  (366, eC (.iconst 4) 1 0 4),
  (367, eP (.iadd) 1),
  (368, eP (.iaload) 1),
  (369, eP (.aload_n 0) 1),
  (370, eP (.iload_n 3) 1),
  (371, eC (.iconst 5) 1 0 5)]
def k_237_3 : List (Nat × En) := [(372, eP (.iadd) 1),
  (373, eP (.iaload) 1),
  (374, eM (.invokevirtual 32) 62 6 1 6 3 206),
  (377, eP (.aload_n 2) 1),
  (378, eP (.aload_n 0) 1),
  (379, eP (.iload_n 3) 1),
  (380, eC (.iconst 1) 1 0 1),
  (381, eP (.iadd) 1),
  (382, eP (.iaload) 1),
  (383, eP (.aload_n 0) 1),
  (384, eP (.iload_n 3) 1),
  (385, eC (.iconst 2) 1 0 2),
  (386, eP (.iadd) 1),
  (387, eP (.iaload) 1),
  (388, eP (.aload_n 0) 1),
  (389, eP (.iload_n 3) 1),
  (390, eC (.iconst 3) 1 0 3),
  (391, eP (.iadd) 1),
  (392, eP (.iaload) 1),
  (393, eP (.aload_n 0) 1),
  (394, eP (.iload_n 3) 1),
  (395, eC (.iconst 4) 1 0 4),
  (396, eP (.iadd) 1),
  (397, eP (.iaload) 1),
  (398, eP (.aload_n 0) 1),
  (399, eP (.iload_n 3) 1),
  (400, eC (.iconst 5) 1 0 5),
  (401, eP (.iadd) 1),
  (402, eP (.iaload) 1),
  (403, eM (.invokevirtual 36) 159 6 1 7 4 218),
  (406, eB (.if_icmp .eq 1039) 1445),
  (409, eC (.iconst 0) 1 0 0),
  (410, eR (.ireturn) 3),
  (411, eP (.aload_n 1) 1),
  (412, eP (.aload_n 0) 1),
  (413, eP (.iload_n 3) 1),
  (414, eC (.iconst 1) 1 0 1),
  (415, eP (.iadd) 1),
  (416, eP (.iaload) 1),
  (417, eM (.invokevirtual 37) 63 2 1 3 3 222),
  (420, eP (.aload_n 2) 1),
  (421, eP (.aload_n 0) 1),
  (422, eP (.iload_n 3) 1),
  (423, eC (.iconst 1) 1 0 1),
  (424, eP (.iadd) 1),
  (425, eP (.iaload) 1),
  (426, eM (.invokevirtual 40) 160 2 1 6 4 235),
  (429, eB (.if_icmp .eq 1016) 1445),
  (432, eC (.iconst 0) 1 0 0),
  (433, eR (.ireturn) 3)]
def k_237_4 : List (Nat × En) := [(434, eP (.aload_n 1) 1),
  (435, eP (.aload_n 0) 1),
  (436, eP (.iload_n 3) 1),
  (437, eC (.iconst 1) 1 0 1),
  (438, eP (.iadd) 1),
  (439, eP (.iaload) 1),
  (440, eP (.aload_n 0) 1),
  (441, eP (.iload_n 3) 1),
  (442, eC (.iconst 2) 1 0 2),
  (443, eP (.iadd) 1),
  (444, eP (.iaload) 1),
  (445, eM (.invokevirtual 41) 64 3 1 3 3 239),
  (448, eP (.aload_n 2) 1),
  (449, eP (.aload_n 0) 1),
  (450, eP (.iload_n 3) 1),
  (451, eC (.iconst 1) 1 0 1),
  (452, eP (.iadd) 1),
  (453, eP (.iaload) 1),
  (454, eP (.aload_n 0) 1),
  (455, eP (.iload_n 3) 1),
  (456, eC (.iconst 2) 1 0 2),
  (457, eP (.iadd) 1),
  (458, eP (.iaload) 1),
  (459, eM (.invokevirtual 44) 161 3 1 4 4 243),
  (462, eB (.if_icmp .eq 983) 1445),
  (465, eC (.iconst 0) 1 0 0),
  (466, eR (.ireturn) 3),
  (467, eP (.aload_n 1) 1),
  (468, eP (.aload_n 0) 1),
  (469, eP (.iload_n 3) 1),
  (470, eC (.iconst 1) 1 0 1),
  (471, eP (.iadd) 1),
  (472, eP (.iaload) 1),
  (473, eP (.aload_n 0) 1),
  (474, eP (.iload_n 3) 1),
  (475, eC (.iconst 2) 1 0 2),
  (476, eP (.iadd) 1),
  (477, eP (.iaload) 1),
  (478, eP (.aload_n 0) 1),
  (479, eP (.iload_n 3) 1),
  (480, eC (.iconst 3) 1 0 3),
  (481, eP (.iadd) 1),
  (482, eP (.iaload) 1),
  (483, eM (.invokevirtual 45) 65 4 1 6 3 250),
  (486, eP (.aload_n 2) 1),
  (487, eP (.aload_n 0) 1),
  (488, eP (.iload_n 3) 1),
  (489, eC (.iconst 1) 1 0 1),
  (490, eP (.iadd) 1),
  (491, eP (.iaload) 1)]
def k_237_5 : List (Nat × En) := [(492, eP (.aload_n 0) 1),
  (493, eP (.iload_n 3) 1),
  (494, eC (.iconst 2) 1 0 2),
  (495, eP (.iadd) 1),
  (496, eP (.iaload) 1),
  (497, eP (.aload_n 0) 1),
  (498, eP (.iload_n 3) 1),
  (499, eC (.iconst 3) 1 0 3),
  (500, eP (.iadd) 1),
  (501, eP (.iaload) 1),
  (502, eM (.invokevirtual 48) 162 4 1 6 4 254),
  (505, eB (.if_icmp .eq 940) 1445),
  (508, eC (.iconst 0) 1 0 0),
  (509, eR (.ireturn) 3),
  (510, eP (.aload_n 1) 1),
  (511, eP (.aload_n 0) 1),
  (512, eP (.iload_n 3) 1),
  (513, eC (.iconst 1) 1 0 1),
  (514, eP (.iadd) 1),
  (515, eP (.iaload) 1),
  (516, eM (.invokevirtual 49) 66 2 1 3 3 262),
  (519, eP (.aload_n 2) 1),
  (520, eP (.aload_n 0) 1),
  (521, eP (.iload_n 3) 1),
  (522, eC (.iconst 1) 1 0 1),
  (523, eP (.iadd) 1),
  (524, eP (.iaload) 1),
  (525, eM (.invokevirtual 52) 165 2 1 3 4 269),
  (528, eB (.if_icmp .eq 917) 1445),
  (531, eC (.iconst 0) 1 0 0),
  (532, eR (.ireturn) 3),
  (533, eP (.aload_n 1) 1),
  (534, eP (.aload_n 0) 1),
  (535, eP (.iload_n 3) 1),
  (536, eC (.iconst 1) 1 0 1),
  (537, eP (.iadd) 1),
  (538, eP (.iaload) 1),
  (539, eP (.aload_n 0) 1),
  (540, eP (.iload_n 3) 1),
  (541, eC (.iconst 2) 1 0 2),
  (542, eP (.iadd) 1),
  (543, eP (.iaload) 1),
  (544, eM (.invokevirtual 53) 67 3 1 4 3 276),
  (547, eP (.aload_n 2) 1),
  (548, eP (.aload_n 0) 1),
  (549, eP (.iload_n 3) 1),
  (550, eC (.iconst 1) 1 0 1),
  (551, eP (.iadd) 1),
  (552, eP (.iaload) 1),
  (553, eP (.aload_n 0) 1)]
def k_237_6 : List (Nat × En) := [(554, eP (.iload_n 3) 1),
  (555, eC (.iconst 2) 1 0 2),
  (556, eP (.iadd) 1),
  (557, eP (.iaload) 1),
  (558, eM (.invokevirtual 56) 168 3 1 5 4 294),
  (561, eB (.if_icmp .eq 884) 1445),
  (564, eC (.iconst 0) 1 0 0),
  (565, eR (.ireturn) 3),
  (566, eP (.aload_n 1) 1),
  (567, eP (.aload_n 0) 1),
  (568, eP (.iload_n 3) 1),
  (569, eC (.iconst 1) 1 0 1),
  (570, eP (.iadd) 1),
  (571, eP (.iaload) 1),
  (572, eM (.invokevirtual 57) 68 2 1 2 3 309),
  (575, eP (.aload_n 2) 1),
  (576, eP (.aload_n 0) 1),
  (577, eP (.iload_n 3) 1),
  (578, eC (.iconst 1) 1 0 1),
  (579, eP (.iadd) 1),
  (580, eP (.iaload) 1),
  (581, eM (.invokevirtual 60) 169 2 1 2 4 313),
  (584, eB (.if_icmp .eq 861) 1445),
  (587, eC (.iconst 0) 1 0 0),
  (588, eR (.ireturn) 3),
  (589, eP (.aload_n 1) 1),
  (590, eP (.aload_n 0) 1),
  (591, eP (.iload_n 3) 1),
  (592, eC (.iconst 1) 1 0 1),
  (593, eP (.iadd) 1),
  (594, eP (.iaload) 1),
  (595, eP (.aload_n 0) 1),
  (596, eP (.iload_n 3) 1),
  (597, eC (.iconst 2) 1 0 2),
  (598, eP (.iadd) 1),
  (599, eP (.iaload) 1),
  (600, eM (.invokevirtual 61) 69 3 1 3 3 317),
  (603, eP (.aload_n 2) 1),
  (604, eP (.aload_n 0) 1),
  (605, eP (.iload_n 3) 1),
  (606, eC (.iconst 1) 1 0 1),
  (607, eP (.iadd) 1),
  (608, eP (.iaload) 1),
  (609, eP (.aload_n 0) 1),
  (610, eP (.iload_n 3) 1),
  (611, eC (.iconst 2) 1 0 2),
  (612, eP (.iadd) 1),
  (613, eP (.iaload) 1),
  (614, eM (.invokevirtual 64) 178 3 1 4 4 370),
  (617, eB (.if_icmp .eq 828) 1445)]
def k_237_7 : List (Nat × En) := [(620, eC (.iconst 0) 1 0 0),
  (621, eR (.ireturn) 3),
  (622, eP (.aload_n 1) 1),
  (623, eP (.aload_n 0) 1),
  (624, eP (.iload_n 3) 1),
  (625, eC (.iconst 1) 1 0 1),
  (626, eP (.iadd) 1),
  (627, eP (.iaload) 1),
  (628, eP (.aload_n 0) 1),
  (629, eP (.iload_n 3) 1),
  (630, eC (.iconst 2) 1 0 2),
  (631, eP (.iadd) 1),
  (632, eP (.iaload) 1),
  (633, eP (.aload_n 0) 1),
  (634, eP (.iload_n 3) 1),
  (635, eC (.iconst 3) 1 0 3),
  (636, eP (.iadd) 1),
  (637, eP (.iaload) 1),
  (638, eP (.aload_n 0) 1),
  (639, eP (.iload_n 3) 1),
  (640, eC (.iconst 4) 1 0 4),
  (641, eP (.iadd) 1),
  (642, eP (.iaload) 1),
  (643, eM (.invokevirtual 65) 70 5 1 6 3 408),
  (646, eP (.aload_n 2) 1),
  (647, eP (.aload_n 0) 1),
  (648, eP (.iload_n 3) 1),
  (649, eC (.iconst 1) 1 0 1),
  (650, eP (.iadd) 1),
  (651, eP (.iaload) 1),
  (652, eP (.aload_n 0) 1),
  (653, eP (.iload_n 3) 1),
  (654, eC (.iconst 2) 1 0 2),
  (655, eP (.iadd) 1),
  (656, eP (.iaload) 1),
  (657, eP (.aload_n 0) 1),
  (658, eP (.iload_n 3) 1),
  (659, eC (.iconst 3) 1 0 3),
  (660, eP (.iadd) 1),
  (661, eP (.iaload) 1),
  (662, eP (.aload_n 0) 1),
  (663, eP (.iload_n 3) 1),
  (664, eC (.iconst 4) 1 0 4),
  (665, eP (.iadd) 1),
  (666, eP (.iaload) 1),
  (667, eM (.invokevirtual 69) 183 5 1 6 4 433),
  (670, eB (.if_icmp .eq 775) 1445),
  (673, eC (.iconst 0) 1 0 0),
  (674, eR (.ireturn) 3),
  (675, eP (.aload_n 1) 1)]
def k_237_8 : List (Nat × En) := [(676, eP (.aload_n 0) 1),
  (677, eP (.iload_n 3) 1),
  (678, eC (.iconst 1) 1 0 1),
  (679, eP (.iadd) 1),
  (680, eP (.iaload) 1),
  (681, eM (.invokevirtual 70) 71 2 1 2 3 451),
  (684, eP (.aload_n 2) 1),
  (685, eP (.aload_n 0) 1),
  (686, eP (.iload_n 3) 1),
  (687, eC (.iconst 1) 1 0 1),
  (688, eP (.iadd) 1),
  (689, eP (.iaload) 1),
  (690, eM (.invokevirtual 73) 184 2 1 3 4 455),
  (693, eB (.if_icmp .eq 752) 1445),
  (696, eC (.iconst 0) 1 0 0),
  (697, eR (.ireturn) 3),
  (698, eP (.aload_n 1) 1),
  (699, eP (.aload_n 0) 1),
  (700, eP (.iload_n 3) 1),
  (701, eC (.iconst 1) 1 0 1),
  (702, eP (.iadd) 1),
  (703, eP (.iaload) 1),
  (704, eP (.aload_n 0) 1),
  (705, eP (.iload_n 3) 1),
  (706, eC (.iconst 2) 1 0 2),
  (707, eP (.iadd) 1),
  (708, eP (.iaload) 1),
  (709, eM (.invokevirtual 74) 72 3 1 4 3 463),
  (712, eP (.aload_n 2) 1),
  (713, eP (.aload_n 0) 1),
  (714, eP (.iload_n 3) 1),
  (715, eC (.iconst 1) 1 0 1),
  (716, eP (.iadd) 1),
  (717, eP (.iaload) 1),
  (718, eP (.aload_n 0) 1),
  (719, eP (.iload_n 3) 1),
  (720, eC (.iconst 2) 1 0 2),
  (721, eP (.iadd) 1),
  (722, eP (.iaload) 1),
  (723, eM (.invokevirtual 77) 187 3 1 5 4 467),
  (726, eB (.if_icmp .eq 719) 1445),
  (729, eC (.iconst 0) 1 0 0),
  (730, eR (.ireturn) 3),
  (731, eP (.aload_n 1) 1),
  (732, eP (.aload_n 0) 1),
  (733, eP (.iload_n 3) 1),
  (734, eC (.iconst 1) 1 0 1),
  (735, eP (.iadd) 1),
  (736, eP (.iaload) 1),
  (737, eP (.aload_n 0) 1)]
def k_237_9 : List (Nat × En) := [(738, eP (.iload_n 3) 1),
  (739, eC (.iconst 2) 1 0 2),
  (740, eP (.iadd) 1),
  (741, eP (.iaload) 1),
  (742, eM (.invokevirtual 78) 73 3 1 3 3 471),
  (745, eP (.aload_n 2) 1),
  (746, eP (.aload_n 0) 1),
  (747, eP (.iload_n 3) 1),
  (748, eC (.iconst 1) 1 0 1),
  (749, eP (.iadd) 1),
  (750, eP (.iaload) 1),
  (751, eP (.aload_n 0) 1),
  (752, eP (.iload_n 3) 1),
  (753, eC (.iconst 2) 1 0 2),
  (754, eP (.iadd) 1),
  (755, eP (.iaload) 1),
  (756, eM (.invokevirtual 81) 189 3 1 4 4 479),
  (759, eB (.if_icmp .eq 686) 1445),
  (762, eC (.iconst 0) 1 0 0),
  (763, eR (.ireturn) 3),
  (764, eP (.aload_n 1) 1),
  (765, eP (.aload_n 0) 1),
  (766, eP (.iload_n 3) 1),
  (767, eC (.iconst 1) 1 0 1),
  (768, eP (.iadd) 1),
  (769, eP (.iaload) 1),
  (770, eP (.aload_n 0) 1),
  (771, eP (.iload_n 3) 1),
  (772, eC (.iconst 2) 1 0 2),
  (773, eP (.iadd) 1),
  (774, eP (.iaload) 1),
  (775, eM (.invokevirtual 82) 74 3 1 3 3 487),
  (778, eP (.aload_n 2) 1),
  (779, eP (.aload_n 0) 1),
  (780, eP (.iload_n 3) 1),
  (781, eC (.iconst 1) 1 0 1),
  (782, eP (.iadd) 1),
  (783, eP (.iaload) 1),
  (784, eP (.aload_n 0) 1),
  (785, eP (.iload_n 3) 1),
  (786, eC (.iconst 2) 1 0 2),
  (787, eP (.iadd) 1),
  (788, eP (.iaload) 1),
  (789, eM (.invokevirtual 85) 193 3 1 5 4 508),
  (792, eB (.if_icmp .eq 653) 1445),
  (795, eC (.iconst 0) 1 0 0),
  (796, eR (.ireturn) 3),
  (797, eP (.aload_n 1) 1),
  (798, eM (.invokevirtual 86) 75 1 1 1 3 523),
  (801, eP (.aload_n 2) 1)]
def k_237_10 : List (Nat × En) := [(802, eM (.invokevirtual 90) 204 1 1 1 4 527),
  (805, eB (.if_icmp .eq 640) 1445),
  (808, eC (.iconst 0) 1 0 0),
  (809, eR (.ireturn) 3),
  (810, eP (.aload_n 1) 1),
  (811, eP (.aload_n 0) 1),
  (812, eP (.iload_n 3) 1),
  (813, eC (.iconst 1) 1 0 1),
  (814, eP (.iadd) 1),
  (815, eP (.iaload) 1),
  (816, eM (.invokevirtual 91) 76 2 1 2 3 536),
  (819, eP (.aload_n 2) 1),
  (820, eP (.aload_n 0) 1),
  (821, eP (.iload_n 3) 1),
  (822, eC (.iconst 1) 1 0 1),
  (823, eP (.iadd) 1),
  (824, eP (.iaload) 1),
  (825, eM (.invokevirtual 94) 206 2 1 6 4 617),
  (828, eB (.if_icmp .eq 617) 1445),
  (831, eC (.iconst 0) 1 0 0),
  (832, eR (.ireturn) 3),
  (833, eP (.aload_n 1) 1),
  (834, eP (.aload_n 0) 1),
  (835, eP (.iload_n 3) 1),
  (836, eC (.iconst 1) 1 0 1),
  (837, eP (.iadd) 1),
  (838, eP (.iaload) 1),
  (839, eP (.aload_n 0) 1),
  (840, eP (.iload_n 3) 1),
  (841, eC (.iconst 2) 1 0 2),
  (842, eP (.iadd) 1),
  (843, eP (.iaload) 1),
  (844, eM (.invokevirtual 95) 77 3 1 3 3 643),
  (847, eP (.aload_n 2) 1),
  (848, eP (.aload_n 0) 1),
  (849, eP (.iload_n 3) 1),
  (850, eC (.iconst 1) 1 0 1),
  (851, eP (.iadd) 1),
  (852, eP (.iaload) 1),
  (853, eP (.aload_n 0) 1),
  (854, eP (.iload_n 3) 1),
  (855, eC (.iconst 2) 1 0 2),
  (856, eP (.iadd) 1),
  (857, eP (.iaload) 1),
  (858, eM (.invokevirtual 98) 207 3 1 3 4 648),
  (861, eB (.if_icmp .eq 584) 1445),
  (864, eC (.iconst 0) 1 0 0),
  (865, eR (.ireturn) 3),
  (866, eP (.aload_n 1) 1),
  (867, eM (.invokevirtual 99) 78 1 1 1 3 652)]
def k_237_11 : List (Nat × En) := [(870, eP (.aload_n 2) 1),
  (871, eM (.invokevirtual 102) 208 1 1 1 4 660),
  (874, eB (.if_icmp .eq 571) 1445),
  (877, eC (.iconst 0) 1 0 0),
  (878, eR (.ireturn) 3),
  (879, eP (.aload_n 1) 1),
  (880, eP (.aload_n 0) 1),
  (881, eP (.iload_n 3) 1),
  (882, eC (.iconst 1) 1 0 1),
  (883, eP (.iadd) 1),
  (884, eP (.iaload) 1),
  (885, eM (.invokevirtual 103) 79 2 1 2 3 683),
  (888, eP (.aload_n 2) 1),
  (889, eP (.aload_n 0) 1),
  (890, eP (.iload_n 3) 1),
  (891, eC (.iconst 1) 1 0 1),
  (892, eP (.iadd) 1),
  (893, eP (.iaload) 1),
  (894, eM (.invokevirtual 106) 209 2 1 5 4 691),
  (897, eB (.if_icmp .eq 548) 1445),
  (900, eC (.iconst 0) 1 0 0),
  (901, eR (.ireturn) 3),
  (902, eP (.aload_n 1) 1),
  (903, eP (.aload_n 0) 1),
  (904, eP (.iload_n 3) 1),
  (905, eC (.iconst 1) 1 0 1),
  (906, eP (.iadd) 1),
  (907, eP (.iaload) 1),
  (908, eM (.invokevirtual 107) 80 2 1 2 3 695),
  (911, eP (.aload_n 2) 1),
  (912, eP (.aload_n 0) 1),
  (913, eP (.iload_n 3) 1),
  (914, eC (.iconst 1) 1 0 1),
  (915, eP (.iadd) 1),
  (916, eP (.iaload) 1),
  (917, eM (.invokevirtual 110) 210 2 1 2 4 717),
  (920, eB (.if_icmp .eq 525) 1445),
  (923, eC (.iconst 0) 1 0 0),
  (924, eR (.ireturn) 3),
  (925, eP (.aload_n 1) 1),
  (926, eP (.aload_n 0) 1),
  (927, eP (.iload_n 3) 1),
  (928, eC (.iconst 1) 1 0 1),
  (929, eP (.iadd) 1),
  (930, eP (.iaload) 1),
  (931, eP (.aload_n 0) 1),
  (932, eP (.iload_n 3) 1),
  (933, eC (.iconst 2) 1 0 2),
  (934, eP (.iadd) 1),
  (935, eP (.iaload) 1)]
def k_237_12 : List (Nat × En) := [(936, eM (.invokevirtual 111) 81 3 1 3 3 730),
  (939, eP (.aload_n 2) 1),
  (940, eP (.aload_n 0) 1),
  (941, eP (.iload_n 3) 1),
  (942, eC (.iconst 1) 1 0 1),
  (943, eP (.iadd) 1),
  (944, eP (.iaload) 1),
  (945, eP (.aload_n 0) 1),
  (946, eP (.iload_n 3) 1),
  (947, eC (.iconst 2) 1 0 2),
  (948, eP (.iadd) 1),
  (949, eP (.iaload) 1),
  (950, eM (.invokevirtual 114) 211 3 1 3 4 734),
  (953, eB (.if_icmp .eq 492) 1445),
  (956, eC (.iconst 0) 1 0 0),
  (957, eR (.ireturn) 3),
  (958, eP (.aload_n 1) 1),
  (959, eP (.aload_n 0) 1),
  (960, eP (.iload_n 3) 1),
  (961, eC (.iconst 1) 1 0 1),
  (962, eP (.iadd) 1),
  (963, eP (.iaload) 1),
  (964, eP (.aload_n 0) 1),
  (965, eP (.iload_n 3) 1),
  (966, eC (.iconst 2) 1 0 2),
  (967, eP (.iadd) 1),
  (968, eP (.iaload) 1),
  (969, eM (.invokevirtual 115) 82 3 1 3 3 742),
  (972, eP (.aload_n 2) 1),
  (973, eP (.aload_n 0) 1),
  (974, eP (.iload_n 3) 1),
  (975, eC (.iconst 1) 1 0 1),
  (976, eP (.iadd) 1),
  (977, eP (.iaload) 1),
  (978, eP (.aload_n 0) 1),
  (979, eP (.iload_n 3) 1),
  (980, eC (.iconst 2) 1 0 2),
  (981, eP (.iadd) 1),
  (982, eP (.iaload) 1),
  (983, eM (.invokevirtual 118) 212 3 1 4 4 746),
  (986, eB (.if_icmp .eq 459) 1445),
  (989, eC (.iconst 0) 1 0 0),
  (990, eR (.ireturn) 3),
  (991, eP (.aload_n 1) 1),
  (992, eP (.aload_n 0) 1),
  (993, eP (.iload_n 3) 1),
  (994, eC (.iconst 1) 1 0 1),
  (995, eP (.iadd) 1),
  (996, eP (.iaload) 1),
  (997, eP (.aload_n 0) 1)]
def k_237_13 : List (Nat × En) := [(998, eP (.iload_n 3) 1),
  (999, eC (.iconst 2) 1 0 2),
  (1000, eP (.iadd) 1),
  (1001, eP (.iaload) 1),
  (1002, eM (.invokevirtual 119) 83 3 1 4 3 750),
  (1005, eP (.aload_n 2) 1),
  (1006, eP (.aload_n 0) 1),
  (1007, eP (.iload_n 3) 1),
  (1008, eC (.iconst 1) 1 0 1),
  (1009, eP (.iadd) 1),
  (1010, eP (.iaload) 1),
  (1011, eP (.aload_n 0) 1),
  (1012, eP (.iload_n 3) 1),
  (1013, eC (.iconst 2) 1 0 2),
  (1014, eP (.iadd) 1),
  (1015, eP (.iaload) 1),
  (1016, eM (.invokevirtual 122) 214 3 1 6 4 764),
  (1019, eB (.if_icmp .eq 426) 1445),
  (1022, eC (.iconst 0) 1 0 0),
  (1023, eR (.ireturn) 3),
  (1024, eP (.aload_n 1) 1),
  (1025, eP (.aload_n 0) 1),
  (1026, eP (.iload_n 3) 1),
  (1027, eC (.iconst 1) 1 0 1),
  (1028, eP (.iadd) 1),
  (1029, eP (.iaload) 1),
  (1030, eP (.aload_n 0) 1),
  (1031, eP (.iload_n 3) 1),
  (1032, eC (.iconst 2) 1 0 2),
  (1033, eP (.iadd) 1),
  (1034, eP (.iaload) 1),
  (1035, eP (.aload_n 0) 1),
  (1036, eP (.iload_n 3) 1),
  (1037, eC (.iconst 3) 1 0 3),
  (1038, eP (.iadd) 1),
  (1039, eP (.iaload) 1),
  (1040, eM (.invokevirtual 123) 84 4 1 11 3 771),
  (1043, eP (.aload_n 2) 1),
  (1044, eP (.aload_n 0) 1),
  (1045, eP (.iload_n 3) 1),
  (1046, eC (.iconst 1) 1 0 1),
  (1047, eP (.iadd) 1),
  (1048, eP (.iaload) 1),
  (1049, eP (.aload_n 0) 1),
  (1050, eP (.iload_n 3) 1),
  (1051, eC (.iconst 2) 1 0 2),
  (1052, eP (.iadd) 1),
  (1053, eP (.iaload) 1),
  (1054, eP (.aload_n 0) 1),
  (1055, eP (.iload_n 3) 1)]
def k_237_14 : List (Nat × En) := [(1056, eC (.iconst 3) 1 0 3),
  (1057, eP (.iadd) 1),
  (1058, eP (.iaload) 1),
  (1059, eM (.invokevirtual 126) 215 4 1 14 4 791),
  (1062, eB (.if_icmp .eq 383) 1445),
  (1065, eC (.iconst 0) 1 0 0),
  (1066, eR (.ireturn) 3),
  (1067, eP (.aload_n 1) 1),
  (1068, eP (.aload_n 0) 1),
  (1069, eP (.iload_n 3) 1),
  (1070, eC (.iconst 1) 1 0 1),
  (1071, eP (.iadd) 1),
  (1072, eP (.iaload) 1),
  (1073, eP (.aload_n 0) 1),
  (1074, eP (.iload_n 3) 1),
  (1075, eC (.iconst 2) 1 0 2),
  (1076, eP (.iadd) 1),
  (1077, eP (.iaload) 1),
  (1078, eP (.aload_n 0) 1),
  (1079, eP (.iload_n 3) 1),
  (1080, eC (.iconst 3) 1 0 3),
  (1081, eP (.iadd) 1),
  (1082, eP (.iaload) 1),
  (1083, eM (.invokevirtual 127) 85 4 1 6 3 797),
  (1086, eP (.aload_n 2) 1),
  (1087, eP (.aload_n 0) 1),
  (1088, eP (.iload_n 3) 1),
  (1089, eC (.iconst 1) 1 0 1),
  (1090, eP (.iadd) 1),
  (1091, eP (.iaload) 1),
  (1092, eP (.aload_n 0) 1),
  (1093, eP (.iload_n 3) 1),
  (1094, eC (.iconst 2) 1 0 2),
  (1095, eP (.iadd) 1),
  (1096, eP (.iaload) 1),
  (1097, eP (.aload_n 0) 1),
  (1098, eP (.iload_n 3) 1),
  (1099, eC (.iconst 3) 1 0 3),
  (1100, eP (.iadd) 1),
  (1101, eP (.iaload) 1),
  (1102, eM (.invokevirtual 130) 218 4 1 20 4 852),
  (1105, eB (.if_icmp .eq 340) 1445),
  (1108, eC (.iconst 0) 1 0 0),
  (1109, eR (.ireturn) 3),
  (1110, eP (.aload_n 1) 1),
  (1111, eP (.aload_n 0) 1),
  (1112, eP (.iload_n 3) 1),
  (1113, eC (.iconst 1) 1 0 1),
  (1114, eP (.iadd) 1),
  (1115, eP (.iaload) 1)]
def k_237_15 : List (Nat × En) := [(1116, eP (.aload_n 0) 1),
  (1117, eP (.iload_n 3) 1),
  (1118, eC (.iconst 2) 1 0 2),
  (1119, eP (.iadd) 1),
  (1120, eP (.iaload) 1),
  (1121, eM (.invokevirtual 131) 86 3 1 11 3 866),
  (1124, eP (.aload_n 2) 1),
  (1125, eP (.aload_n 0) 1),
  (1126, eP (.iload_n 3) 1),
  (1127, eC (.iconst 1) 1 0 1),
  (1128, eP (.iadd) 1),
  (1129, eP (.iaload) 1),
  (1130, eP (.aload_n 0) 1),
  (1131, eP (.iload_n 3) 1),
  (1132, eC (.iconst 2) 1 0 2),
  (1133, eP (.iadd) 1),
  (1134, eP (.iaload) 1),
  (1135, eM (.invokevirtual 134) 219 3 1 8 4 870),
  (1138, eB (.if_icmp .eq 307) 1445),
  (1141, eC (.iconst 0) 1 0 0),
  (1142, eR (.ireturn) 3),
  (1143, eP (.aload_n 1) 1),
  (1144, eP (.aload_n 0) 1),
  (1145, eP (.iload_n 3) 1),
  (1146, eC (.iconst 1) 1 0 1),
  (1147, eP (.iadd) 1),
  (1148, eP (.iaload) 1),
  (1149, eM (.invokevirtual 135) 87 2 1 4 3 874),
  (1152, eP (.aload_n 2) 1),
  (1153, eP (.aload_n 0) 1),
  (1154, eP (.iload_n 3) 1),
  (1155, eC (.iconst 1) 1 0 1),
  (1156, eP (.iadd) 1),
  (1157, eP (.iaload) 1),
  (1158, eM (.invokevirtual 138) 220 2 1 5 4 883),
  (1161, eB (.if_icmp .eq 284) 1445),
  (1164, eC (.iconst 0) 1 0 0),
  (1165, eR (.ireturn) 3),
  (1166, eP (.aload_n 1) 1),
  (1167, eP (.aload_n 0) 1),
  (1168, eP (.iload_n 3) 1),
  (1169, eC (.iconst 1) 1 0 1),
  (1170, eP (.iadd) 1),
  (1171, eP (.iaload) 1),
  (1172, eP (.aload_n 0) 1),
  (1173, eP (.iload_n 3) 1),
  (1174, eC (.iconst 2) 1 0 2),
  (1175, eP (.iadd) 1),
  (1176, eP (.iaload) 1),
  (1177, eP (.aload_n 0) 1)]
def k_237_16 : List (Nat × En) := [(1178, eP (.iload_n 3) 1),
  (1179, eC (.iconst 3) 1 0 3),
  (1180, eP (.iadd) 1),
  (1181, eP (.iaload) 1),
  (1182, eM (.invokevirtual 139) 88 4 1 4 3 888),
  (1185, eP (.aload_n 2) 1),
  (1186, eP (.aload_n 0) 1),
  (1187, eP (.iload_n 3) 1),
  (1188, eC (.iconst 1) 1 0 1),
  (1189, eP (.iadd) 1),
  (1190, eP (.iaload) 1),
  (1191, eP (.aload_n 0) 1),
  (1192, eP (.iload_n 3) 1),
  (1193, eC (.iconst 2) 1 0 2),
  (1194, eP (.iadd) 1),
  (1195, eP (.iaload) 1),
  (1196, eP (.aload_n 0) 1),
  (1197, eP (.iload_n 3) 1),
  (1198, eC (.iconst 3) 1 0 3),
  (1199, eP (.iadd) 1),
  (1200, eP (.iaload) 1),
  (1201, eM (.invokevirtual 142) 221 4 1 7 4 896),
  (1204, eB (.if_icmp .eq 241) 1445),
  (1207, eC (.iconst 0) 1 0 0),
  (1208, eR (.ireturn) 3),
  (1209, eP (.aload_n 1) 1),
  (1210, eP (.aload_n 0) 1),
  (1211, eP (.iload_n 3) 1),
  (1212, eC (.iconst 1) 1 0 1),
  (1213, eP (.iadd) 1),
  (1214, eP (.iaload) 1),
  (1215, eP (.aload_n 0) 1),
  (1216, eP (.iload_n 3) 1),
  (1217, eC (.iconst 2) 1 0 2),
  (1218, eP (.iadd) 1),
  (1219, eP (.iaload) 1),
  (1220, eM (.invokevirtual 143) 89 3 1 9 3 901),
  (1223, eP (.aload_n 2) 1),
  (1224, eP (.aload_n 0) 1),
  (1225, eP (.iload_n 3) 1),
  (1226, eC (.iconst 1) 1 0 1),
  (1227, eP (.iadd) 1),
  (1228, eP (.iaload) 1),
  (1229, eP (.aload_n 0) 1),
  (1230, eP (.iload_n 3) 1),
  (1231, eC (.iconst 2) 1 0 2),
  (1232, eP (.iadd) 1),
  (1233, eP (.iaload) 1),
  (1234, eM (.invokevirtual 146) 224 3 1 6 4 921),
  (1237, eB (.if_icmp .eq 208) 1445)]
def k_237_17 : List (Nat × En) := [(1240, eC (.iconst 0) 1 0 0),
  (1241, eR (.ireturn) 3),
  (1242, eP (.aload_n 1) 1),
  (1243, eP (.aload_n 0) 1),
  (1244, eP (.iload_n 3) 1),
  (1245, eC (.iconst 1) 1 0 1),
  (1246, eP (.iadd) 1),
  (1247, eP (.iaload) 1),
  (1248, eP (.aload_n 0) 1),
  (1249, eP (.iload_n 3) 1),
  (1250, eC (.iconst 2) 1 0 2),
  (1251, eP (.iadd) 1),
  (1252, eP (.iaload) 1),
  (1253, eP (.aload_n 0) 1),
  (1254, eP (.iload_n 3) 1),
  (1255, eC (.iconst 3) 1 0 3),
  (1256, eP (.iadd) 1),
  (1257, eP (.iaload) 1),
  (1258, eM (.invokevirtual 147) 90 4 1 15 3 934),
  (1261, eP (.aload_n 2) 1),
  (1262, eP (.aload_n 0) 1),
  (1263, eP (.iload_n 3) 1),
  (1264, eC (.iconst 1) 1 0 1),
  (1265, eP (.iadd) 1),
  (1266, eP (.iaload) 1),
  (1267, eP (.aload_n 0) 1),
  (1268, eP (.iload_n 3) 1),
  (1269, eC (.iconst 2) 1 0 2),
  (1270, eP (.iadd) 1),
  (1271, eP (.iaload) 1),
  (1272, eP (.aload_n 0) 1),
  (1273, eP (.iload_n 3) 1),
  (1274, eC (.iconst 3) 1 0 3),
  (1275, eP (.iadd) 1),
  (1276, eP (.iaload) 1),
  (1277, eM (.invokevirtual 150) 225 4 1 13 4 942),
  (1280, eB (.if_icmp .eq 165) 1445),
  (1283, eC (.iconst 0) 1 0 0),
  (1284, eR (.ireturn) 3),
  (1285, eP (.aload_n 1) 1),
  (1286, eM (.invokevirtual 151) 91 1 1 6 3 946),
  (1289, eP (.aload_n 2) 1),
  (1290, eM (.invokevirtual 154) 226 1 1 8 4 954),
  (1293, eB (.if_icmp .eq 152) 1445),
  (1296, eC (.iconst 0) 1 0 0),
  (1297, eR (.ireturn) 3),
  (1298, eP (.aload_n 1) 1),
  (1299, eP (.aload_n 0) 1),
  (1300, eP (.iload_n 3) 1),
  (1301, eC (.iconst 1) 1 0 1)]
def k_237_18 : List (Nat × En) := [(1302, eP (.iadd) 1),
  (1303, eP (.iaload) 1),
  (1304, eP (.aload_n 0) 1),
  (1305, eP (.iload_n 3) 1),
  (1306, eC (.iconst 2) 1 0 2),
  (1307, eP (.iadd) 1),
  (1308, eP (.iaload) 1),
  (1309, eM (.invokevirtual 155) 92 3 1 7 3 958),
  (1312, eP (.aload_n 2) 1),
  (1313, eP (.aload_n 0) 1),
  (1314, eP (.iload_n 3) 1),
  (1315, eC (.iconst 1) 1 0 1),
  (1316, eP (.iadd) 1),
  (1317, eP (.iaload) 1),
  (1318, eP (.aload_n 0) 1),
  (1319, eP (.iload_n 3) 1),
  (1320, eC (.iconst 2) 1 0 2),
  (1321, eP (.iadd) 1),
  (1322, eP (.iaload) 1),
  (1323, eM (.invokevirtual 158) 227 3 1 8 4 966),
  (1326, eB (.if_icmp .eq 119) 1445),
  (1329, eC (.iconst 0) 1 0 0),
  (1330, eR (.ireturn) 3),
  (1331, eP (.aload_n 1) 1),
  (1332, eM (.invokevirtual 159) 93 1 1 1 3 970),
  (1335, eP (.aload_n 2) 1),
  (1336, eM (.invokevirtual 162) 228 1 1 1 4 974),
  (1339, eB (.if_icmp .eq 106) 1445),
  (1342, eC (.iconst 0) 1 0 0),
  (1343, eR (.ireturn) 3),
  (1344, eP (.aload_n 1) 1),
  (1345, eM (.invokevirtual 163) 94 1 2 1 3 978),
  (1348, eP (.aload_n 2) 1),
  (1349, eM (.invokevirtual 167) 229 1 2 1 4 982),
  (1352, eP (.lcmp) 1),
  (1353, eB (.ifCond .eq 92) 1445),
  (1356, eC (.iconst 0) 1 0 0),
  (1357, eR (.ireturn) 3),
  (1358, eP (.aload_n 1) 1),
  (1359, eM (.invokevirtual 168) 95 1 2 1 3 986),
  (1362, eP (.aload_n 2) 1),
  (1363, eM (.invokevirtual 171) 230 1 2 1 4 990),
  (1366, eP (.lcmp) 1),
  (1367, eB (.ifCond .eq 78) 1445),
  (1370, eC (.iconst 0) 1 0 0),
  (1371, eR (.ireturn) 3),
  (1372, eP (.aload_n 1) 1),
  (1373, eP (.aload_n 0) 1),
  (1374, eP (.iload_n 3) 1),
  (1375, eC (.iconst 1) 1 0 1)]
def k_237_19 : List (Nat × En) := [(1376, eP (.iadd) 1),
  (1377, eP (.iaload) 1),
  (1378, eM (.invokevirtual 172) 96 2 1 2 3 994),
  (1381, eP (.aload_n 2) 1),
  (1382, eP (.aload_n 0) 1),
  (1383, eP (.iload_n 3) 1),
  (1384, eC (.iconst 1) 1 0 1),
  (1385, eP (.iadd) 1),
  (1386, eP (.iaload) 1),
  (1387, eM (.invokevirtual 175) 232 2 1 2 4 1006),
  (1390, eB (.if_icmp .eq 55) 1445),
  (1393, eC (.iconst 0) 1 0 0),
  (1394, eR (.ireturn) 3),
  (1395, eP (.aload_n 1) 1),
  (1396, eM (.invokevirtual 176) 97 1 1 1 3 1014),
  (1399, eP (.aload_n 2) 1),
  (1400, eM (.invokevirtual 179) 233 1 1 1 4 1018),
  (1403, eB (.if_icmp .eq 42) 1445),
  (1406, eC (.iconst 0) 1 0 0),
  (1407, eR (.ireturn) 3),
  (1408, eP (.aload_n 1) 1),
  (1409, eP (.aload_n 0) 1),
  (1410, eP (.iload_n 3) 1),
  (1411, eC (.iconst 1) 1 0 1),
  (1412, eP (.iadd) 1),
  (1413, eP (.iaload) 1),
  (1414, eM (.invokevirtual 180) 98 2 1 2 3 1022),
  (1417, eP (.aload_n 2) 1),
  (1418, eP (.aload_n 0) 1),
  (1419, eP (.iload_n 3) 1),
  (1420, eC (.iconst 1) 1 0 1),
  (1421, eP (.iadd) 1),
  (1422, eP (.iaload) 1),
  (1423, eM (.invokevirtual 183) 234 2 1 2 4 1026),
  (1426, eB (.if_icmp .eq 19) 1445),
  (1429, eC (.iconst 0) 1 0 0),
  (1430, eR (.ireturn) 3),
  (1431, eP (.aload_n 1) 1),
  (1432, eM (.invokevirtual 184) 99 1 2 4 3 1030),
  (1435, eP (.aload_n 2) 1),
  (1436, eM (.invokevirtual 187) 236 1 2 3 4 1046),
  (1439, eP (.lcmp) 1),
  (1440, eB (.ifCond .eq 5) 1445),
  (1443, eC (.iconst 0) 1 0 0),
  (1444, eR (.ireturn) 3),
  (1445, eC (.iinc 3 6) 3 0 6),
  (1448, eB (.goto (-1430)) 18),
  (1451, eC (.iconst 1) 1 0 1),
  (1452, eR (.ireturn) 3)]
/-- L_law -/
def k_237 : List (Nat × En) := k_237_0 ++ (k_237_1 ++ (k_237_2 ++ (k_237_3 ++ (k_237_4 ++ (k_237_5 ++ (k_237_6 ++ (k_237_7 ++ (k_237_8 ++ (k_237_9 ++ (k_237_10 ++ (k_237_11 ++ (k_237_12 ++ (k_237_13 ++ (k_237_14 ++ (k_237_15 ++ (k_237_16 ++ (k_237_17 ++ (k_237_18 ++ (k_237_19)))))))))))))))))))
def kAll : List (List (List (Nat × En))) := [[k_0, k_1, k_2, k_3, k_4, k_5, k_6, k_7, k_8, k_9, k_10, k_11, k_12, k_13, k_14, k_15],
  [k_16, k_17, k_18, k_19, k_20, k_21, k_22, k_23, k_24, k_25, k_26, k_27, k_28, k_29, k_30, k_31],
  [k_32, k_33, k_34, k_35, k_36, k_37, k_38, k_39, k_40, k_41, k_42, k_43, k_44, k_45, k_46, k_47],
  [k_48, k_49, k_50, k_51, k_52, k_53, k_54, k_55, k_56, k_57, k_58, k_59, k_60, k_61, k_62, k_63],
  [k_64, k_65, k_66, k_67, k_68, k_69, k_70, k_71, k_72, k_73, k_74, k_75, k_76, k_77, k_78, k_79],
  [k_80, k_81, k_82, k_83, k_84, k_85, k_86, k_87, k_88, k_89, k_90, k_91, k_92, k_93, k_94, k_95],
  [k_96, k_97, k_98, k_99, k_100, k_101, k_102, k_103, k_104, k_105, k_106, k_107, k_108, k_109, k_110, k_111],
  [k_112, k_113, k_114, k_115, k_116, k_117, k_118, k_119, k_120, k_121, k_122, k_123, k_124, k_125, k_126, k_127],
  [k_128, k_129, k_130, k_131, k_132, k_133, k_134, k_135, k_136, k_137, k_138, k_139, k_140, k_141, k_142, k_143],
  [k_144, k_145, k_146, k_147, k_148, k_149, k_150, k_151, k_152, k_153, k_154, k_155, k_156, k_157, k_158, k_159],
  [k_160, k_161, k_162, k_163, k_164, k_165, k_166, k_167, k_168, k_169, k_170, k_171, k_172, k_173, k_174, k_175],
  [k_176, k_177, k_178, k_179, k_180, k_181, k_182, k_183, k_184, k_185, k_186, k_187, k_188, k_189, k_190, k_191],
  [k_192, k_193, k_194, k_195, k_196, k_197, k_198, k_199, k_200, k_201, k_202, k_203, k_204, k_205, k_206, k_207],
  [k_208, k_209, k_210, k_211, k_212, k_213, k_214, k_215, k_216, k_217, k_218, k_219, k_220, k_221, k_222, k_223],
  [k_224, k_225, k_226, k_227, k_228, k_229, k_230, k_231, k_232, k_233, k_234, k_235, k_236, k_237]]
end
section
def lkp (l : List (Nat × En)) (pc : Nat) : Option En := match l with
  | [] => none
  | (p, e) :: r => bif Nat.beq p pc then some e else lkp r pc
def mtab (i : Nat) : List (Nat × En) := (kAll.getD (i / 16) []).getD (i % 16) []
def enK (en : En) : List Nat := en.2.2.2.2.2.2.2.2.2.2.2
def body (nx cal : RF) (i pc : Nat) (ls : LO) (st : List AV) (s : SS) : RE := match lkp (mtab i) pc with
  | none => none
  | some en => match enK en with
    | [] => opx nx cal i pc en ls st s
    | k :: r => frc (kil (k :: r) ls) (fun l => opx nx cal i pc en l st s)
def run : Nat → RF
  | 0 => fun _ _ _ _ _ => none
  | n + 1 => fun i pc ls st s => body (run n) (run n) i pc ls st s
theorem frc_eq (k : LO → RE) : ∀ ls : LO, frc ls k = k ls
  | [] => rfl
  | a :: r => frc_eq (fun q => k (a :: q)) r
/-! monotone and continuous, helper by helper -/
theorem frc_c {ls : LO} {F : LO → RE} {f : Nat → LO → RE} {v : Option AV × SS} (hF : ∀ a v, F a = some v → ∃ n, f n a = some v) (h : frc ls F = some v) : ∃ n, frc ls (f n) = some v := by
  rw [frc_eq] at h
  obtain ⟨n, hn⟩ := hF _ _ h
  exact ⟨n, by rw [frc_eq]; exact hn⟩
theorem ldx_c {ls : LO} {k t : Nat} {F : AV → RE} {f : Nat → AV → RE} {v : Option AV × SS} (hF : ∀ a v, F a = some v → ∃ n, f n a = some v) (h : ldx ls k t F = some v) : ∃ n, ldx ls k t (f n) = some v := by
  unfold ldx at h ⊢
  split at h
  · cases hb : Nat.beq t 0 <;> rw [hb] at h <;> simp only [cond_true, cond_false] at h ⊢
    · cases h
    · exact hF _ _ h
  · cases hb : Nat.beq t 1 <;> rw [hb] at h <;> simp only [cond_true, cond_false] at h ⊢
    · cases h
    · exact hF _ _ h
  · cases hb : Nat.beq t 2 <;> rw [hb] at h <;> simp only [cond_true, cond_false] at h ⊢
    · cases h
    · exact hF _ _ h
  · cases h
theorem op1i_c {st : List AV} {F : Int32 → List AV → RE} {f : Nat → Int32 → List AV → RE} {v : Option AV × SS} (hF : ∀ x r v, F x r = some v → ∃ n, f n x r = some v) (h : op1i st F = some v) : ∃ n, op1i st (f n) = some v := by
  unfold op1i at h ⊢
  split at h
  · exact hF _ _ _ h
  · cases h
theorem op2i_c {st : List AV} {F : Int32 → Int32 → List AV → RE} {f : Nat → Int32 → Int32 → List AV → RE} {v : Option AV × SS} (hF : ∀ x y r v, F x y r = some v → ∃ n, f n x y r = some v) (h : op2i st F = some v) : ∃ n, op2i st (f n) = some v := by
  unfold op2i at h ⊢
  split at h
  · exact hF _ _ _ _ h
  · cases h
theorem op1l_c {st : List AV} {F : Int64 → List AV → RE} {f : Nat → Int64 → List AV → RE} {v : Option AV × SS} (hF : ∀ x r v, F x r = some v → ∃ n, f n x r = some v) (h : op1l st F = some v) : ∃ n, op1l st (f n) = some v := by
  unfold op1l at h ⊢
  split at h
  · exact hF _ _ _ h
  · cases h
theorem op2l_c {st : List AV} {F : Int64 → Int64 → List AV → RE} {f : Nat → Int64 → Int64 → List AV → RE} {v : Option AV × SS} (hF : ∀ x y r v, F x y r = some v → ∃ n, f n x y r = some v) (h : op2l st F = some v) : ∃ n, op2l st (f n) = some v := by
  unfold op2l at h ⊢
  split at h
  · exact hF _ _ _ _ h
  · cases h
theorem opli_c {st : List AV} {F : Int64 → Int32 → List AV → RE} {f : Nat → Int64 → Int32 → List AV → RE} {v : Option AV × SS} (hF : ∀ x y r v, F x y r = some v → ∃ n, f n x y r = some v) (h : opli st F = some v) : ∃ n, opli st (f n) = some v := by
  unfold opli at h ⊢
  split at h
  · exact hF _ _ _ _ h
  · cases h
theorem op1r_c {st : List AV} {F : Nat → Nat → List AV → RE} {f : Nat → Nat → Nat → List AV → RE} {v : Option AV × SS} (hF : ∀ x y r v, F x y r = some v → ∃ n, f n x y r = some v) (h : op1r st F = some v) : ∃ n, op1r st (f n) = some v := by
  unfold op1r at h ⊢
  split at h
  · exact hF _ _ _ _ h
  · cases h
theorem opix_c {st : List AV} {F : Int32 → Nat → Nat → List AV → RE} {f : Nat → Int32 → Nat → Nat → List AV → RE} {v : Option AV × SS} (hF : ∀ x k j r v, F x k j r = some v → ∃ n, f n x k j r = some v) (h : opix st F = some v) : ∃ n, opix st (f n) = some v := by
  unfold opix at h ⊢
  split at h
  · exact hF _ _ _ _ _ h
  · cases h
theorem swl_c {F : Nat → RE} {f : Nat → Nat → RE} {d : Nat} {x : Int32} {v : Option AV × SS} (hF : ∀ t v, F t = some v → ∃ n, f n t = some v) : ∀ (l : List (Int32 × Nat)), swl F d x l = some v → ∃ n, swl (f n) d x l = some v
  | [], h => hF _ _ h
  | (w, t) :: r, h => by
    unfold swl at h ⊢
    by_cases q : x = w
    · rw [if_pos q] at h
      simp only [if_pos q]
      exact hF _ _ h
    · rw [if_neg q] at h
      simp only [if_neg q]
      exact swl_c hF r h
theorem getx_c {s : SS} {d ci k kd j : Nat} {F : AV → RE} {f : Nat → AV → RE} {v : Option AV × SS} (hF : ∀ a v, F a = some v → ∃ n, f n a = some v) (h : getx s d ci k kd j F = some v) : ∃ n, getx s d ci k kd j (f n) = some v := by
  unfold getx at h ⊢
  cases hb : Nat.beq (kcl kd) ci <;> rw [hb] at h <;> simp only [cond_true, cond_false] at h ⊢
  · cases h
  · split at h <;> exact hF _ _ h
theorem putx_c {s : SS} {d ci k : Nat} {st : List AV} {F : List AV → SS → RE} {f : Nat → List AV → SS → RE} {v : Option AV × SS} (hF : ∀ r s v, F r s = some v → ∃ n, f n r s = some v) (h : putx s d ci k st F = some v) : ∃ n, putx s d ci k st (f n) = some v := by
  unfold putx at h ⊢
  split at h
  · rename_i x kd j r
    cases hb : Nat.beq (kcl kd) ci <;> rw [hb] at h <;> simp only [cond_true, cond_false] at h ⊢
    · cases h
    · split at h
      · exact hF _ _ _ h
      · cases hz : isZ x <;> rw [hz] at h <;> simp only [cond_true, cond_false] at h ⊢
        · cases h
        · exact hF _ _ _ h
      · cases h
  · rename_i x kd j r
    cases hb : (Nat.beq (kcl kd) ci && Nat.beq d 1) <;> rw [hb] at h <;> simp only [cond_true, cond_false] at h ⊢
    · cases h
    · exact hF _ _ _ h
  · rename_i kv jv kd j r
    cases hb : (Nat.beq (kcl kd) ci && (Nat.beq kd 0 && (Nat.beq k 6 && (Nat.beq kv 13 && Nat.beq d 2)))) <;> rw [hb] at h <;> simp only [cond_true, cond_false] at h ⊢
    · cases h
    · exact hF _ _ _ h
  · cases h
theorem ixc {c : Bool} {F : RE} {f : Nat → RE} {v : Option AV × SS} (hF : F = some v → ∃ n, f n = some v) (h : (if c = true then F else none) = some v) : ∃ n, (if c = true then f n else none) = some v := by
  cases c
  · cases h
  · exact hF h
theorem bfc {c : Bool} {F : RE} {f : Nat → RE} {v : Option AV × SS} (hF : F = some v → ∃ n, f n = some v) (h : (bif c then F else none) = some v) : ∃ n, (bif c then f n else none) = some v := by
  cases c
  · cases h
  · exact hF h
theorem bf2 {c : Bool} {F G : RE} {f g : Nat → RE} {v : Option AV × SS} (hF : F = some v → ∃ n, f n = some v) (hG : G = some v → ∃ n, g n = some v) (h : (bif c then F else G) = some v) : ∃ n, (bif c then f n else g n) = some v := by
  cases c
  · exact hG h
  · exact hF h
theorem if2 {c : Prop} [Decidable c] {F G : RE} {f g : Nat → RE} {v : Option AV × SS} (hF : F = some v → ∃ n, f n = some v) (hG : G = some v → ∃ n, g n = some v) (h : (if c then F else G) = some v) : ∃ n, (if c then f n else g n) = some v := by
  by_cases q : c
  · simp only [if_pos q] at h ⊢
    exact hF h
  · simp only [if_neg q] at h ⊢
    exact hG h
theorem nnc {f : Nat → RE} {v : Option AV × SS} (h : (none : RE) = some v) : ∃ n, f n = some v := by cases h
theorem aldx_c {s : SS} {t : Nat} {x : Int32} {kd j : Nat} {F : AV → RE} {f : Nat → AV → RE} {v : Option AV × SS} (hF : ∀ a v, F a = some v → ∃ n, f n a = some v) (h : aldx s t x kd j F = some v) : ∃ n, aldx s t x kd j (f n) = some v := by
  unfold aldx at h ⊢
  split at h
  · exact bf2 (ixc (hF _ _)) (bfc (ixc (hF _ _))) h
  · exact bfc (ixc (hF _ _)) h
  · exact bfc (ixc (hF _ _)) h
  · exact bf2 (ixc (hF _ _)) (bfc (ixc (hF _ _))) h
theorem astx_c {s : SS} {t : Nat} {st : List AV} {F : List AV → SS → RE} {f : Nat → List AV → SS → RE} {v : Option AV × SS} (hF : ∀ r s v, F r s = some v → ∃ n, f n r s = some v) (h : astx s t st F = some v) : ∃ n, astx s t st (f n) = some v := by
  unfold astx at h ⊢
  split at h
  · split at h
    · exact bfc (ixc (hF _ _ _)) h
    · exact bfc (ixc (hF _ _ _)) h
    · cases h
  · exact bfc (ixc (hF _ _ _)) h
  · exact bfc (ixc (hF _ _ _)) h
  · cases h
theorem alnx_c {s : SS} {kd : Nat} {F : Int32 → RE} {f : Nat → Int32 → RE} {v : Option AV × SS} (hF : ∀ a v, F a = some v → ∃ n, f n a = some v) (h : alnx s kd F = some v) : ∃ n, alnx s kd (f n) = some v := by
  unfold alnx at h ⊢
  exact bf2 (hF _ _) (bfc (hF _ _)) h
theorem dupx_c {st : List AV} {F : List AV → RE} {f : Nat → List AV → RE} {v : Option AV × SS} (hF : ∀ a v, F a = some v → ∃ n, f n a = some v) (h : dupx st F = some v) : ∃ n, dupx st (f n) = some v := by
  unfold dupx at h ⊢
  split at h
  · exact hF _ _ h
  · exact hF _ _ h
  · cases h
theorem popx_c {st : List AV} {F : List AV → RE} {f : Nat → List AV → RE} {v : Option AV × SS} (hF : ∀ a v, F a = some v → ∃ n, f n a = some v) (h : popx st F = some v) : ∃ n, popx st (f n) = some v := by
  unfold popx at h ⊢
  split at h
  · exact hF _ _ h
  · exact hF _ _ h
  · cases h
theorem dup2x_c {st : List AV} {F : List AV → RE} {f : Nat → List AV → RE} {v : Option AV × SS} (hF : ∀ a v, F a = some v → ∃ n, f n a = some v) (h : dup2x st F = some v) : ∃ n, dup2x st (f n) = some v := by
  unfold dup2x at h ⊢
  split at h
  · exact hF _ _ h
  · exact hF _ _ h
  · exact hF _ _ h
  · cases h
theorem copyx_c {st : List AV} {s : SS} {F : List AV → SS → RE} {f : Nat → List AV → SS → RE} {v : Option AV × SS} (hF : ∀ r s v, F r s = some v → ∃ n, f n r s = some v) (h : copyx st s F = some v) : ∃ n, copyx st s (f n) = some v := by
  unfold copyx at h ⊢
  split at h
  · exact bfc (if2 (hF _ _ _) nnc) h
  · cases h
def Mo (f : Nat → RF) : Prop := ∀ n m i pc ls st s v, n ≤ m → f n i pc ls st s = some v → f m i pc ls st s = some v
theorem cV_inv {r : RE} {k : SS → RE} {v : Option AV × SS} (h : cV r k = some v) : ∃ s, r = some (none, s) ∧ k s = some v := by
  unfold cV at h
  split at h
  · exact ⟨_, rfl, h⟩
  · cases h
theorem cI_inv {r : RE} {k : Int32 → SS → RE} {v : Option AV × SS} (h : cI r k = some v) : ∃ x s, r = some (some (.inl x), s) ∧ k x s = some v := by
  unfold cI at h
  split at h
  · exact ⟨_, _, rfl, h⟩
  · cases h
theorem cL_inv {r : RE} {k : Int64 → SS → RE} {v : Option AV × SS} (h : cL r k = some v) : ∃ x s, r = some (some (.inr (.inl x)), s) ∧ k x s = some v := by
  unfold cL at h
  split at h
  · exact ⟨_, _, rfl, h⟩
  · cases h
theorem callx_c {C : RF} {c : Nat → RF} {a nb rc mx : Nat} {as rest : List AV} {s : SS} {F : List AV → SS → RE} {f : Nat → List AV → SS → RE} {v : Option AV × SS} (hC : ∀ i pc ls st s v, C i pc ls st s = some v → ∃ n, c n i pc ls st s = some v) (mc : Mo c) (hF : ∀ r s v, F r s = some v → ∃ n, f n r s = some v) (mf : ∀ n m r s v, n ≤ m → f n r s = some v → f m r s = some v) (h : callx C a nb rc mx as rest s F = some v) : ∃ n, callx (c n) a nb rc mx as rest s (f n) = some v := by
  unfold callx at h ⊢
  refine bfc (fun h => ?_) h
  split at h
  · obtain ⟨s1, h1, h2⟩ := cV_inv h
    obtain ⟨n1, g1⟩ := hC _ _ _ _ _ _ h1
    obtain ⟨n2, g2⟩ := hF _ _ _ h2
    refine ⟨max n1 n2, ?_⟩
    show cV (c (max n1 n2) _ _ _ _ _) _ = _
    rw [mc _ _ _ _ _ _ _ _ (Nat.le_max_left n1 n2) g1]
    exact mf _ _ _ _ _ (Nat.le_max_right n1 n2) g2
  · obtain ⟨x, s1, h1, h2⟩ := cI_inv h
    obtain ⟨n1, g1⟩ := hC _ _ _ _ _ _ h1
    obtain ⟨n2, g2⟩ := hF _ _ _ h2
    refine ⟨max n1 n2, ?_⟩
    show cI (c (max n1 n2) _ _ _ _ _) _ = _
    rw [mc _ _ _ _ _ _ _ _ (Nat.le_max_left n1 n2) g1]
    exact mf _ _ _ _ _ (Nat.le_max_right n1 n2) g2
  · obtain ⟨x, s1, h1, h2⟩ := cL_inv h
    obtain ⟨n1, g1⟩ := hC _ _ _ _ _ _ h1
    obtain ⟨n2, g2⟩ := hF _ _ _ h2
    refine ⟨max n1 n2, ?_⟩
    show cL (c (max n1 n2) _ _ _ _ _) _ = _
    rw [mc _ _ _ _ _ _ _ _ (Nat.le_max_left n1 n2) g1]
    exact mf _ _ _ _ _ (Nat.le_max_right n1 n2) g2
set_option maxHeartbeats 2000000 in
theorem opx_c {N C : RF} {f c : Nat → RF} (hf : ∀ i pc ls st s v, N i pc ls st s = some v → ∃ n, f n i pc ls st s = some v) (hc : ∀ i pc ls st s v, C i pc ls st s = some v → ∃ n, c n i pc ls st s = some v) (mf : Mo f) (mc : Mo c) {i pc : Nat} {en : En} {ls : LO} {st : List AV} {s : SS} {v : Option AV × SS} (h : opx N C i pc en ls st s = some v) : ∃ n, opx (f n) (c n) i pc en ls st s = some v := by
  obtain ⟨ins, len, a, b, d, e, g, pos, cv, lv, sw, ks⟩ := en
  cases ins with
  | iconst => exact hf _ _ _ _ _ _ h
  | bipush => exact hf _ _ _ _ _ _ h
  | sipush => exact hf _ _ _ _ _ _ h
  | ldc => exact hf _ _ _ _ _ _ h
  | ldc_w => exact hf _ _ _ _ _ _ h
  | lconst => exact hf _ _ _ _ _ _ h
  | ldc2_w => exact hf _ _ _ _ _ _ h
  | iload k => exact ldx_c (ls := ls) (k := k) (t := 0) (F := fun w => N i (pc + len) ls (w :: st) s) (f := fun n w => f n i (pc + len) ls (w :: st) s) (fun _ _ h => hf _ _ _ _ _ _ h) h
  | iload_n k => exact ldx_c (ls := ls) (k := k.val) (t := 0) (F := fun w => N i (pc + len) ls (w :: st) s) (f := fun n w => f n i (pc + len) ls (w :: st) s) (fun _ _ h => hf _ _ _ _ _ _ h) h
  | lload k => exact ldx_c (ls := ls) (k := k) (t := 1) (F := fun w => N i (pc + len) ls (w :: st) s) (f := fun n w => f n i (pc + len) ls (w :: st) s) (fun _ _ h => hf _ _ _ _ _ _ h) h
  | lload_n k => exact ldx_c (ls := ls) (k := k.val) (t := 1) (F := fun w => N i (pc + len) ls (w :: st) s) (f := fun n w => f n i (pc + len) ls (w :: st) s) (fun _ _ h => hf _ _ _ _ _ _ h) h
  | aload k => exact ldx_c (ls := ls) (k := k) (t := 2) (F := fun w => N i (pc + len) ls (w :: st) s) (f := fun n w => f n i (pc + len) ls (w :: st) s) (fun _ _ h => hf _ _ _ _ _ _ h) h
  | aload_n k => exact ldx_c (ls := ls) (k := k.val) (t := 2) (F := fun w => N i (pc + len) ls (w :: st) s) (f := fun n w => f n i (pc + len) ls (w :: st) s) (fun _ _ h => hf _ _ _ _ _ _ h) h
  | istore => exact op1i_c (fun _ _ _ h => frc_c (fun _ _ h => hf _ _ _ _ _ _ h) h) h
  | istore_n => exact op1i_c (fun _ _ _ h => frc_c (fun _ _ h => hf _ _ _ _ _ _ h) h) h
  | lstore => exact op1l_c (fun _ _ _ h => frc_c (fun _ _ h => hf _ _ _ _ _ _ h) h) h
  | lstore_n => exact op1l_c (fun _ _ _ h => frc_c (fun _ _ h => hf _ _ _ _ _ _ h) h) h
  | astore => exact op1r_c (fun _ _ _ _ h => frc_c (fun _ _ h => hf _ _ _ _ _ _ h) h) h
  | astore_n => exact op1r_c (fun _ _ _ _ h => frc_c (fun _ _ h => hf _ _ _ _ _ _ h) h) h
  | iinc k _ =>
    refine ldx_c (ls := ls) (k := k) (t := 0) (F := fun v => match v with
      | .inl x => frc (st1 ls k (.inl (x + cv))) (fun l => N i (pc + len) l st s)
      | _ => none) (f := fun n v => match v with
      | .inl x => frc (st1 ls k (.inl (x + cv))) (fun l => f n i (pc + len) l st s)
      | _ => none) (fun w v h => ?_) h
    match w, h with
    | .inl x, h => exact frc_c (fun _ _ h => hf _ _ _ _ _ _ h) h
    | .inr (.inl x), h => cases h
    | .inr (.inr x), h => cases h
  | iadd => exact op2i_c (fun _ _ _ _ h => hf _ _ _ _ _ _ h) h
  | isub => exact op2i_c (fun _ _ _ _ h => hf _ _ _ _ _ _ h) h
  | imul => exact op2i_c (fun _ _ _ _ h => hf _ _ _ _ _ _ h) h
  | iand => exact op2i_c (fun _ _ _ _ h => hf _ _ _ _ _ _ h) h
  | ior => exact op2i_c (fun _ _ _ _ h => hf _ _ _ _ _ _ h) h
  | ixor => exact op2i_c (fun _ _ _ _ h => hf _ _ _ _ _ _ h) h
  | idiv => exact op2i_c (fun _ _ _ _ h => if2 nnc (hf _ _ _ _ _ _) h) h
  | irem => exact op2i_c (fun _ _ _ _ h => if2 nnc (hf _ _ _ _ _ _) h) h
  | ineg => exact op1i_c (fun _ _ _ h => hf _ _ _ _ _ _ h) h
  | ishl => exact op2i_c (fun _ _ _ _ h => hf _ _ _ _ _ _ h) h
  | ishr => exact op2i_c (fun _ _ _ _ h => hf _ _ _ _ _ _ h) h
  | iushr => exact op2i_c (fun _ _ _ _ h => hf _ _ _ _ _ _ h) h
  | ladd => exact op2l_c (fun _ _ _ _ h => hf _ _ _ _ _ _ h) h
  | lsub => exact op2l_c (fun _ _ _ _ h => hf _ _ _ _ _ _ h) h
  | lmul => exact op2l_c (fun _ _ _ _ h => hf _ _ _ _ _ _ h) h
  | land => exact op2l_c (fun _ _ _ _ h => hf _ _ _ _ _ _ h) h
  | lor => exact op2l_c (fun _ _ _ _ h => hf _ _ _ _ _ _ h) h
  | ldiv => exact op2l_c (fun _ _ _ _ h => if2 nnc (hf _ _ _ _ _ _) h) h
  | lrem => exact op2l_c (fun _ _ _ _ h => if2 nnc (hf _ _ _ _ _ _) h) h
  | lneg => exact op1l_c (fun _ _ _ h => hf _ _ _ _ _ _ h) h
  | lcmp => exact op2l_c (fun _ _ _ _ h => hf _ _ _ _ _ _ h) h
  | lshl => exact opli_c (fun _ _ _ _ h => hf _ _ _ _ _ _ h) h
  | lshr => exact opli_c (fun _ _ _ _ h => hf _ _ _ _ _ _ h) h
  | lushr => exact opli_c (fun _ _ _ _ h => hf _ _ _ _ _ _ h) h
  | i2l => exact op1i_c (fun _ _ _ h => hf _ _ _ _ _ _ h) h
  | l2i => exact op1l_c (fun _ _ _ h => hf _ _ _ _ _ _ h) h
  | i2b => exact op1i_c (fun _ _ _ h => hf _ _ _ _ _ _ h) h
  | dup => exact dupx_c (st := st) (F := fun r => N i (pc + len) ls r s) (f := fun n r => f n i (pc + len) ls r s) (fun _ _ h => hf _ _ _ _ _ _ h) h
  | dup2 => exact dup2x_c (st := st) (F := fun r => N i (pc + len) ls r s) (f := fun n r => f n i (pc + len) ls r s) (fun _ _ h => hf _ _ _ _ _ _ h) h
  | pop => exact popx_c (st := st) (F := fun r => N i (pc + len) ls r s) (f := fun n r => f n i (pc + len) ls r s) (fun _ _ h => hf _ _ _ _ _ _ h) h
  | goto => exact hf _ _ _ _ _ _ h
  | ifCond q _ => cases q <;> exact op1i_c (fun _ _ _ h => if2 (hf _ _ _ _ _ _) (hf _ _ _ _ _ _) h) h
  | if_icmp q _ => cases q <;> exact op2i_c (fun _ _ _ _ h => if2 (hf _ _ _ _ _ _) (hf _ _ _ _ _ _) h) h
  | tableswitch => exact op1i_c (fun _ _ _ h => swl_c (fun _ _ h => hf _ _ _ _ _ _ h) _ h) h
  | lookupswitch => exact op1i_c (fun _ _ _ h => swl_c (fun _ _ h => hf _ _ _ _ _ _ h) _ h) h
  | getfield => exact op1r_c (fun _ _ _ _ h => getx_c (fun _ _ h => hf _ _ _ _ _ _ h) h) h
  | putfield => exact putx_c (fun _ _ _ h => hf _ _ _ _ _ _ h) h
  | iaload => exact opix_c (fun _ _ _ _ _ h => aldx_c (fun _ _ h => hf _ _ _ _ _ _ h) h) h
  | laload => exact opix_c (fun _ _ _ _ _ h => aldx_c (fun _ _ h => hf _ _ _ _ _ _ h) h) h
  | baload => exact opix_c (fun _ _ _ _ _ h => aldx_c (fun _ _ h => hf _ _ _ _ _ _ h) h) h
  | aaload => exact opix_c (fun _ _ _ _ _ h => aldx_c (fun _ _ h => hf _ _ _ _ _ _ h) h) h
  | iastore => exact astx_c (s := s) (t := 1) (st := st) (F := fun r s1 => N i (pc + len) ls r s1) (f := fun n r s1 => f n i (pc + len) ls r s1) (fun _ _ _ h => hf _ _ _ _ _ _ h) h
  | lastore => exact astx_c (s := s) (t := 2) (st := st) (F := fun r s1 => N i (pc + len) ls r s1) (f := fun n r s1 => f n i (pc + len) ls r s1) (fun _ _ _ h => hf _ _ _ _ _ _ h) h
  | bastore => exact astx_c (s := s) (t := 3) (st := st) (F := fun r s1 => N i (pc + len) ls r s1) (f := fun n r s1 => f n i (pc + len) ls r s1) (fun _ _ _ h => hf _ _ _ _ _ _ h) h
  | aastore => exact astx_c (s := s) (t := 4) (st := st) (F := fun r s1 => N i (pc + len) ls r s1) (f := fun n r s1 => f n i (pc + len) ls r s1) (fun _ _ _ h => hf _ _ _ _ _ _ h) h
  | arraylength => exact op1r_c (fun _ _ _ _ h => alnx_c (fun _ _ h => hf _ _ _ _ _ _ h) h) h
  | invokestatic => exact bf2 (copyx_c (fun _ _ _ h => hf _ _ _ _ _ _ h)) (bf2 (op1i_c (fun _ _ _ h => bfc (hf _ _ _ _ _ _) h)) (bf2 (op1l_c (fun _ _ _ h => bfc (hf _ _ _ _ _ _) h)) (bf2 (op2i_c (fun _ _ _ _ h => bfc (hf _ _ _ _ _ _) h)) (callx_c hc mc (fun _ _ _ h => hf _ _ _ _ _ _ h) (fun _ _ _ _ _ hn h => mf _ _ _ _ _ _ _ _ hn h))))) h
  | invokevirtual => exact bfc (callx_c hc mc (fun _ _ _ h => hf _ _ _ _ _ _ h) (fun _ _ _ _ _ hn h => mf _ _ _ _ _ _ _ _ hn h)) h
  | ireturn => exact ⟨0, h⟩
  | lreturn => exact ⟨0, h⟩
  | return_ => exact ⟨0, h⟩
  | _ => cases h
theorem body_c {N C : RF} {f c : Nat → RF} (hf : ∀ i pc ls st s v, N i pc ls st s = some v → ∃ n, f n i pc ls st s = some v) (hc : ∀ i pc ls st s v, C i pc ls st s = some v → ∃ n, c n i pc ls st s = some v) (mf : Mo f) (mc : Mo c) {i pc : Nat} {ls : LO} {st : List AV} {s : SS} {v : Option AV × SS} (h : body N C i pc ls st s = some v) : ∃ n, body (f n) (c n) i pc ls st s = some v := by
  unfold body at h ⊢
  split at h
  · cases h
  · split at h
    · exact opx_c hf hc mf mc h
    · exact frc_c (fun _ _ h => opx_c hf hc mf mc h) h
theorem Mo_k (f : RF) : Mo (fun _ => f) := fun _ _ _ _ _ _ _ _ _ h => h
theorem body_mono {N C N' C' : RF} (hf : ∀ i pc ls st s v, N i pc ls st s = some v → N' i pc ls st s = some v) (hc : ∀ i pc ls st s v, C i pc ls st s = some v → C' i pc ls st s = some v) {i pc : Nat} {ls : LO} {st : List AV} {s : SS} {v : Option AV × SS} (h : body N C i pc ls st s = some v) : body N' C' i pc ls st s = some v :=
  (body_c (f := fun _ => N') (c := fun _ => C') (fun i pc ls st s v h => ⟨0, hf i pc ls st s v h⟩) (fun i pc ls st s v h => ⟨0, hc i pc ls st s v h⟩) (Mo_k _) (Mo_k _) h).choose_spec
theorem run_s : ∀ n i pc ls st s v, run n i pc ls st s = some v → run (n + 1) i pc ls st s = some v
  | 0, _, _, _, _, _, _, h => by cases h
  | n + 1, _, _, _, _, _, _, h => body_mono (run_s n) (run_s n) h
theorem run_mo : Mo run := by
  intro n m i pc ls st s v hnm h
  induction m with
  | zero => rw [Nat.le_zero.mp hnm] at h; exact h
  | succ m ih =>
    by_cases q : n = m + 1
    · subst q; exact h
    · exact run_s _ _ _ _ _ _ _ (ih (by omega))
noncomputable def ev : RF := fun i pc ls st s => Classical.epsilon (fun o : RE => (∃ n v, run n i pc ls st s = some v ∧ o = some v) ∨ ((∀ n, run n i pc ls st s = none) ∧ o = none))
theorem ev_sp (i pc : Nat) (ls : LO) (st : List AV) (s : SS) : (∃ n v, run n i pc ls st s = some v ∧ ev i pc ls st s = some v) ∨ ((∀ n, run n i pc ls st s = none) ∧ ev i pc ls st s = none) := by
  apply Classical.epsilon_spec (p := fun o : RE => (∃ n v, run n i pc ls st s = some v ∧ o = some v) ∨ ((∀ n, run n i pc ls st s = none) ∧ o = none))
  by_cases h : ∃ n v, run n i pc ls st s = some v
  · obtain ⟨n, v, h⟩ := h
    exact ⟨some v, Or.inl ⟨n, v, h, rfl⟩⟩
  · refine ⟨none, Or.inr ⟨fun n => ?_, rfl⟩⟩
    cases hr : run n i pc ls st s with
    | none => rfl
    | some v => exact absurd ⟨n, v, hr⟩ h
theorem ev_of {n i pc : Nat} {ls : LO} {st : List AV} {s : SS} {v : Option AV × SS} (h : run n i pc ls st s = some v) : ev i pc ls st s = some v := by
  rcases ev_sp i pc ls st s with ⟨m, w, h1, h2⟩ | ⟨h1, -⟩
  · have a := run_mo _ _ _ _ _ _ _ _ (Nat.le_max_left n m) h
    have b := run_mo _ _ _ _ _ _ _ _ (Nat.le_max_right n m) h1
    rw [a] at b
    rw [h2, b]
  · rw [h1 n] at h
    cases h
theorem ev_run {i pc : Nat} {ls : LO} {st : List AV} {s : SS} {v : Option AV × SS} (h : ev i pc ls st s = some v) : ∃ n, run n i pc ls st s = some v := by
  rcases ev_sp i pc ls st s with ⟨m, w, h1, h2⟩ | ⟨-, h2⟩
  · rw [h2] at h
    exact ⟨m, by rw [h1, h]⟩
  · rw [h2] at h
    cases h
theorem ev_fix (i pc : Nat) (ls : LO) (st : List AV) (s : SS) : ev i pc ls st s = body ev ev i pc ls st s := by
  cases h : ev i pc ls st s with
  | some v =>
    obtain ⟨n, hn⟩ := ev_run h
    cases n with
    | zero => cases hn
    | succ n => exact (body_mono (fun _ _ _ _ _ _ h => ev_of h) (fun _ _ _ _ _ _ h => ev_of h) hn).symm
  | none =>
    cases hb : body ev ev i pc ls st s with
    | none => rfl
    | some v =>
      obtain ⟨n, hn⟩ := body_c (fun _ _ _ _ _ _ h => ev_run h) (fun _ _ _ _ _ _ h => ev_run h) run_mo run_mo hb
      have : ev i pc ls st s = some v := ev_of (n := n + 1) hn
      rw [h] at this
      cases this
theorem kil_len : ∀ (ks : List Nat) (ls : LO), (kil ks ls).length = ls.length
  | [], ls => by
    unfold kil
    rfl
  | _ :: _, [] => rfl
  | k :: m, a :: r => by
    show (_ :: kil m r).length = _
    rw [List.length_cons, kil_len m r, List.length_cons]
theorem kil_at {v : AV} : ∀ (ks : List Nat) (ls : LO) (q : Nat), (kil ks ls)[q]? = some (some v) → ls[q]? = some (some v)
  | [], ls, q, h => by
    unfold kil at h
    exact h
  | _ :: _, [], q, h => h
  | k :: m, a :: r, q, h => by
    cases q with
    | zero =>
      cases k with
      | zero => cases h
      | succ k => exact h
    | succ q => exact kil_at m r q h
theorem kil_kil : ∀ (ks : List Nat) (ls : LO), kil ks (kil ks ls) = kil ks ls
  | [], ls => by
    unfold kil
    rfl
  | _ :: _, [] => rfl
  | k :: m, a :: r => by
    show _ :: kil m (kil m r) = _ :: kil m r
    rw [kil_kil m r]
    congr 1
    cases k with
    | zero => rfl
    | succ k => rfl
def kilA (i pc : Nat) (ls : LO) : LO := match lkp (mtab i) pc with
  | none => ls
  | some en => kil (enK en) ls
theorem ev_kil (i pc : Nat) (ls : LO) (st : List AV) (s : SS) : ev i pc (kilA i pc ls) st s = ev i pc ls st s := by
  rw [ev_fix, ev_fix i pc ls]
  unfold body kilA
  cases lkp (mtab i) pc with
  | none => rfl
  | some en =>
    cases h : enK en with
    | nil => simp only [h]; unfold kil; rfl
    | cons k r => simp only [h, frc_eq, kil_kil]
/-- many steps at once, up to the stops -/
noncomputable def goS (stops : List Nat) : Nat → RF
  | 0 => ev
  | n + 1 => fun i pc ls st s => bif stops.contains pc then ev i pc (kilA i pc ls) st s else body (goS stops n) ev i pc ls st s
theorem goS_ev (stops : List Nat) : ∀ n, goS stops n = ev
  | 0 => rfl
  | n + 1 => by
    funext i pc ls st s
    unfold goS
    rw [goS_ev stops n]
    cases stops.contains pc
    · exact (ev_fix i pc ls st s).symm
    · exact ev_kil i pc ls st s
theorem ev_go (stops : List Nat) (n i pc : Nat) (ls : LO) (st : List AV) (s : SS) : ev i pc ls st s = body (goS stops n) ev i pc ls st s := by
  rw [goS_ev]
  exact ev_fix i pc ls st s
end
section
def mYs : List MethodName := [yJ6_compare_7cf53, yJ6_bitCount_0f7a4, yJ13_compare_74951, Lib.Math.abs.name, Lib.MathLoose.abs_long.x, Lib.Math.max.name, Lib.Math.min.name, yJ7_fill_d0a16, yJ7_fill_53178, yX1_isNumber, yX1_has, yX1_sizeOf, yX1_hasPlaces, yX1_make, yX1_remove, yX1_placeOf, yX1_change, yX1_move, yX1_sumOf, yX1_countThere, yX1_digestOn, yX0_read, yX0_stateAfter, yX0_afterHead, yX0_afterFigure, yX0_afterPartStart, yX0_afterLetter, yX0_afterFirst, yX0_afterLast, yX0_afterPart, yX0_isVariable, yX0_isOverNames, yX0_has, yX0_caseCount, yX0_choices, yX0_countDenied, yX0_sayingOf, yX0_sayingsOf, yX0_isBrokenBy, yX2_gather, yX2_listTruths, yX2_splitBy, yX2_addBreaks, yX2_addBreaksOverNames, yX2_addCase, yX2_weigh, yX2_shareOut, yX2_softCost, yX2_hardBreaks, yX2_breaksOf, yX2_isEmpty, yX2_isBarred, yX2_isSo, yX2_countWithin, yX2_sharePowerOf, yX2_shareOf, yX2_sharesOf, yX2_worldAbove, yX3_row, yX3_lay, yX3_at, yX3_tear, yX3_copy, yX3_mean, yX3_text, yX3_put, yX3_names, yX3_tell, yX3_how, yX3_fault, yX3_law, yX3_drop, yX3_weight, yX3_told, yX3_mark, yX3_worlds, yX3_cost, yX3_broken, yX3_likeliest, yX3_near, yX3_odds, yX3_both, yX3_given, yX3_alike, yX3_draw, yX3_learn, yX3_pull, yX3_why, yX3_otherwise, yX3_act, yX3_look, yX3_wrong, yX3_held, yX3_asked, yX3_upper, yX3_lower, yX3_count, yX3_finding, yX3_findings, yX3_digest, yX3_found, yX3_makeOn, yX3_refusalOfPlace, yX3_tellShare, yX3_tellFraction, yX3_commonDivisor, yX3_isSaying, yX3_isTelling, yX3_isName, yX3_isOfNames, yX3_withNamesChanged, yX3_changedName, yX3_wouldSeekTooMany, yX3_countTold, yX3_isLaw, yX3_isKind, yX3_isWeight, yX3_isHard, yX3_isSoft, yX3_isOfKind, yX3_markOf, yX3_toldOf, yX3_countLaws, yX3_digestOfLaw, yX3_areThere, yX3_isWorld, yX3_survey, yX3_surveyTold, yX3_fallOfCost, yX3_isUnlikelyWithout, yX3_nextNumber, yX3_fifteenBits, yX3_findingOfLearned, yX3_bestCode, yX3_compareParts, yX3_setWeights, yX3_sumOf, yX3_figuresOf, yX3_surveyForActs, yX3_findingOfWorths, yX3_findingOfHeld, yX3_worthOf, yX3_bestAct, yX3_greatestWorth, yX4_in, yX4_meets, yX4_ask, yX4_has, yX4_bits, yX4_share, yX4_isRow, yX4_isText, yX4_askedRow, yX4_askedText, yX4_rowAt, yX4_row, yX4_at, yX4_lay, yX4_tear, yX4_copy, yX4_mean, yX4_text, yX4_put, yX4_isSaying, yX4_lastName, yX4_names, yX4_toldMany, yX4_askedTell, yX4_tell, yX4_how, yX4_here, yX4_skips, yX4_readsByte, yX4_readsName, yX4_readsPart, yX4_readsHead, yX4_reads, yX4_isKind, yX4_fault, yX4_isLaw, yX4_askedLaw, yX4_isSoft, yX4_isHard, yX4_law, yX4_drop, yX4_hasName, yX4_cases, yX4_weight, yX4_lawTells, yX4_told, yX4_notMany, yX4_sayingOf, yX4_markOf, yX4_mark, yX4_setBits, yX4_isSo, yX4_holds, yX4_breaks, yX4_setTable, yX4_costBy, yX4_setShares, yX4_setAll, yX4_shareOf, yX4_shareOfBoth, yX4_worlds, yX4_isWorld, yX4_cost, yX4_broken, yX4_likeliest, yX4_near, yX4_odds, yX4_both, yX4_given, yX4_change, yX4_alike, yX4_draw, yX4_isLess, yX4_layWeights, yX4_learn, yX4_pull, yX4_why, yX4_otherwise, yX4_askedPairs, yX4_bestSum, yX4_act, yX4_look, yX4_wrong, yX4_held, yX4_asked, yX4_upper, yX4_lower, yX4_counts, yX4_count, yX4_finding, yX4_findings, yX4_mix, yX4_digest, yL_law]
def mCs : List ByteArray := [cJ6_compare_7cf53, cJ6_bitCount_0f7a4, cJ13_compare_74951, Lib.Math.abs.code, Lib.MathLoose.abs_long.code, Lib.Math.max.code, Lib.Math.min.code, cJ7_fill_d0a16, cJ7_fill_53178, cX1_isNumber, cX1_has, cX1_sizeOf, cX1_hasPlaces, cX1_make, cX1_remove, cX1_placeOf, cX1_change, cX1_move, cX1_sumOf, cX1_countThere, cX1_digestOn, cX0_read, cX0_stateAfter, cX0_afterHead, cX0_afterFigure, cX0_afterPartStart, cX0_afterLetter, cX0_afterFirst, cX0_afterLast, cX0_afterPart, cX0_isVariable, cX0_isOverNames, cX0_has, cX0_caseCount, cX0_choices, cX0_countDenied, cX0_sayingOf, cX0_sayingsOf, cX0_isBrokenBy, cX2_gather, cX2_listTruths, cX2_splitBy, cX2_addBreaks, cX2_addBreaksOverNames, cX2_addCase, cX2_weigh, cX2_shareOut, cX2_softCost, cX2_hardBreaks, cX2_breaksOf, cX2_isEmpty, cX2_isBarred, cX2_isSo, cX2_countWithin, cX2_sharePowerOf, cX2_shareOf, cX2_sharesOf, cX2_worldAbove, cX3_row, cX3_lay, cX3_at, cX3_tear, cX3_copy, cX3_mean, cX3_text, cX3_put, cX3_names, cX3_tell, cX3_how, cX3_fault, cX3_law, cX3_drop, cX3_weight, cX3_told, cX3_mark, cX3_worlds, cX3_cost, cX3_broken, cX3_likeliest, cX3_near, cX3_odds, cX3_both, cX3_given, cX3_alike, cX3_draw, cX3_learn, cX3_pull, cX3_why, cX3_otherwise, cX3_act, cX3_look, cX3_wrong, cX3_held, cX3_asked, cX3_upper, cX3_lower, cX3_count, cX3_finding, cX3_findings, cX3_digest, cX3_found, cX3_makeOn, cX3_refusalOfPlace, cX3_tellShare, cX3_tellFraction, cX3_commonDivisor, cX3_isSaying, cX3_isTelling, cX3_isName, cX3_isOfNames, cX3_withNamesChanged, cX3_changedName, cX3_wouldSeekTooMany, cX3_countTold, cX3_isLaw, cX3_isKind, cX3_isWeight, cX3_isHard, cX3_isSoft, cX3_isOfKind, cX3_markOf, cX3_toldOf, cX3_countLaws, cX3_digestOfLaw, cX3_areThere, cX3_isWorld, cX3_survey, cX3_surveyTold, cX3_fallOfCost, cX3_isUnlikelyWithout, cX3_nextNumber, cX3_fifteenBits, cX3_findingOfLearned, cX3_bestCode, cX3_compareParts, cX3_setWeights, cX3_sumOf, cX3_figuresOf, cX3_surveyForActs, cX3_findingOfWorths, cX3_findingOfHeld, cX3_worthOf, cX3_bestAct, cX3_greatestWorth, cX4_in, cX4_meets, cX4_ask, cX4_has, cX4_bits, cX4_share, cX4_isRow, cX4_isText, cX4_askedRow, cX4_askedText, cX4_rowAt, cX4_row, cX4_at, cX4_lay, cX4_tear, cX4_copy, cX4_mean, cX4_text, cX4_put, cX4_isSaying, cX4_lastName, cX4_names, cX4_toldMany, cX4_askedTell, cX4_tell, cX4_how, cX4_here, cX4_skips, cX4_readsByte, cX4_readsName, cX4_readsPart, cX4_readsHead, cX4_reads, cX4_isKind, cX4_fault, cX4_isLaw, cX4_askedLaw, cX4_isSoft, cX4_isHard, cX4_law, cX4_drop, cX4_hasName, cX4_cases, cX4_weight, cX4_lawTells, cX4_told, cX4_notMany, cX4_sayingOf, cX4_markOf, cX4_mark, cX4_setBits, cX4_isSo, cX4_holds, cX4_breaks, cX4_setTable, cX4_costBy, cX4_setShares, cX4_setAll, cX4_shareOf, cX4_shareOfBoth, cX4_worlds, cX4_isWorld, cX4_cost, cX4_broken, cX4_likeliest, cX4_near, cX4_odds, cX4_both, cX4_given, cX4_change, cX4_alike, cX4_draw, cX4_isLess, cX4_layWeights, cX4_learn, cX4_pull, cX4_why, cX4_otherwise, cX4_askedPairs, cX4_bestSum, cX4_act, cX4_look, cX4_wrong, cX4_held, cX4_asked, cX4_upper, cX4_lower, cX4_counts, cX4_count, cX4_finding, cX4_findings, cX4_mix, cX4_digest, code]
def mXs : List Nat := [2, 1, 4, 1, 2, 2, 2, 5, 4, 2, 2, 2, 4, 4, 2, 3, 4, 6, 5, 3, 7, 7, 3, 2, 2, 2, 2, 2, 2, 3, 2, 1, 3, 2, 3, 3, 5, 6, 6, 5, 3, 3, 6, 5, 7, 7, 3, 4, 5, 3, 1, 2, 3, 4, 3, 2, 5, 6, 3, 5, 4, 2, 6, 3, 3, 6, 3, 4, 2, 3, 6, 2, 4, 3, 3, 1, 2, 3, 1, 2, 2, 3, 3, 4, 11, 6, 11, 4, 4, 9, 15, 6, 7, 1, 1, 1, 2, 1, 2, 4, 2, 5, 4, 5, 7, 11, 1, 1, 2, 3, 6, 3, 3, 5, 1, 1, 1, 1, 1, 2, 2, 3, 4, 7, 3, 2, 2, 4, 2, 3, 1, 1, 3, 12, 7, 5, 1, 1, 3, 4, 4, 7, 8, 6, 3, 2, 3, 2, 3, 12, 1, 1, 2, 2, 3, 4, 4, 5, 3, 7, 6, 4, 6, 1, 3, 3, 5, 3, 5, 2, 2, 2, 4, 3, 5, 3, 5, 1, 4, 1, 2, 1, 1, 6, 3, 5, 2, 5, 3, 4, 4, 3, 3, 5, 3, 3, 7, 10, 3, 6, 4, 1, 5, 6, 1, 2, 6, 3, 1, 5, 2, 3, 4, 3, 6, 14, 19, 7, 20, 8, 5, 7, 4, 11, 6, 13, 8, 8, 1, 1, 1, 4, 2, 1, 2, 2, 3, 4]
def mRs : List (Option FieldType) := [some .int, some .int, some .int, some .int, some .long, some .int, some .int, none, none, some .boolean, some .boolean, some .int, some .boolean, none, none, some .int, none, none, some .long, some .int, some .long, some .int, some .int, some .int, some .int, some .int, some .int, some .int, some .int, some .int, some .boolean, some .boolean, some .boolean, some .int, some .int, some .int, some .int, some .int, some .boolean, none, none, none, none, none, none, none, none, some .int, some .int, some .int, some .boolean, some .boolean, some .boolean, some .int, some .int, some .long, some .long, some .int, some .int, some .int, some .int, some .int, some .int, some .int, some .int, some .int, some .int, some .int, some .int, some .int, some .int, some .int, some .int, some .int, some .int, some .int, some .int, some .int, some .int, some .int, some .int, some .int, some .int, some .int, some .int, some .int, some .int, some .int, some .int, some .int, some .int, some .int, some .int, some .int, some .long, some .long, some .int, some .int, some .int, some .long, some .int, some .int, some .int, some .int, none, some .long, some .boolean, some .boolean, some .boolean, some .boolean, some .int, some .int, some .boolean, some .int, some .boolean, some .boolean, some .boolean, some .boolean, some .boolean, some .boolean, some .int, some .int, some .int, some .long, some .boolean, some .boolean, none, none, some .int, some .boolean, some .int, some .int, some .int, some .int, some .int, none, some .int, some .int, some .int, some .int, some .int, some .long, some .int, some .long, some .boolean, some .int, some .int, some .boolean, some .int, some .int, some .boolean, some .boolean, some .int, some .int, some .int, some .int, some .int, some .int, some .int, some .int, some .int, some .int, some .int, some .boolean, some .int, some .int, some .int, some .int, some .int, some .int, some .int, none, some .boolean, some .int, some .boolean, some .boolean, some .int, some .boolean, some .int, some .boolean, some .int, some .boolean, some .boolean, some .int, some .int, some .boolean, some .int, some .int, some .int, some .int, some .int, some .int, some .int, some .int, none, some .boolean, some .boolean, some .int, none, some .int, some .boolean, some .boolean, some .long, some .long, some .int, some .boolean, some .int, some .int, some .int, some .int, some .int, some .int, some .int, some .int, some .int, some .int, some .boolean, some .int, some .int, some .int, some .int, some .int, some .int, some .long, some .int, some .int, some .int, some .int, some .int, some .long, some .long, some .int, some .int, some .int, some .int, none, some .long, some .boolean]
def mOs : List String := [RJ6, RJ6, RJ13, RJ9, RJ9, RJ9, RJ9, RJ7, RJ7, RX1, RX1, RX1, RX1, RX1, RX1, RX1, RX1, RX1, RX1, RX1, RX1, RX0, RX0, RX0, RX0, RX0, RX0, RX0, RX0, RX0, RX0, RX0, RX0, RX0, RX0, RX0, RX0, RX0, RX0, RX2, RX2, RX2, RX2, RX2, RX2, RX2, RX2, RX2, RX2, RX2, RX2, RX2, RX2, RX2, RX2, RX2, RX2, RX2, RX3, RX3, RX3, RX3, RX3, RX3, RX3, RX3, RX3, RX3, RX3, RX3, RX3, RX3, RX3, RX3, RX3, RX3, RX3, RX3, RX3, RX3, RX3, RX3, RX3, RX3, RX3, RX3, RX3, RX3, RX3, RX3, RX3, RX3, RX3, RX3, RX3, RX3, RX3, RX3, RX3, RX3, RX3, RX3, RX3, RX3, RX3, RX3, RX3, RX3, RX3, RX3, RX3, RX3, RX3, RX3, RX3, RX3, RX3, RX3, RX3, RX3, RX3, RX3, RX3, RX3, RX3, RX3, RX3, RX3, RX3, RX3, RX3, RX3, RX3, RX3, RX3, RX3, RX3, RX3, RX3, RX3, RX3, RX3, RX3, RX3, RX4, RX4, RX4, RX4, RX4, RX4, RX4, RX4, RX4, RX4, RX4, RX4, RX4, RX4, RX4, RX4, RX4, RX4, RX4, RX4, RX4, RX4, RX4, RX4, RX4, RX4, RX4, RX4, RX4, RX4, RX4, RX4, RX4, RX4, RX4, RX4, RX4, RX4, RX4, RX4, RX4, RX4, RX4, RX4, RX4, RX4, RX4, RX4, RX4, RX4, RX4, RX4, RX4, RX4, RX4, RX4, RX4, RX4, RX4, RX4, RX4, RX4, RX4, RX4, RX4, RX4, RX4, RX4, RX4, RX4, RX4, RX4, RX4, RX4, RX4, RX4, RX4, RX4, RX4, RX4, RX4, RX4, RX4, RX4, RX4, RX4, RX4, RX4, RX4, RX4, RX4, RX4, RX4, RL]
def mFs : List Nat := [0, 0, 0, 0, 0, 0, 0, 0, 0, 0, 1, 2, 2, 1, 1, 3, 3, 3, 3, 0, 0, 4, 3, 2, 0, 1, 0, 2, 2, 1, 1, 0, 0, 2, 1, 0, 0, 1, 1, 4, 1, 0, 3, 2, 0, 3, 2, 1, 1, 0, 0, 0, 0, 1, 1, 0, 0, 0, 3, 4, 4, 2, 4, 4, 3, 4, 1, 2, 1, 5, 5, 1, 1, 4, 2, 1, 6, 6, 6, 6, 6, 6, 6, 2, 6, 7, 6, 7, 7, 7, 7, 7, 5, 0, 0, 0, 2, 0, 0, 5, 0, 2, 3, 2, 1, 0, 0, 0, 0, 0, 1, 0, 1, 0, 0, 0, 0, 0, 0, 1, 1, 3, 1, 4, 0, 1, 5, 6, 0, 6, 0, 0, 1, 6, 1, 0, 0, 0, 6, 4, 4, 4, 5, 6, 0, 0, 0, 0, 0, 0, 1, 1, 2, 2, 0, 2, 3, 4, 3, 2, 3, 2, 3, 1, 0, 1, 1, 2, 3, 2, 0, 1, 1, 2, 3, 2, 4, 1, 5, 1, 2, 0, 0, 5, 3, 0, 1, 3, 2, 3, 0, 0, 1, 3, 0, 1, 2, 3, 4, 1, 2, 5, 2, 2, 1, 1, 4, 4, 6, 6, 6, 6, 6, 0, 1, 6, 0, 1, 6, 6, 6, 7, 1, 1, 6, 6, 6, 3, 0, 0, 0, 2, 3, 0, 1, 0, 3, 8]
def mLs : List Nat := [0, 0, 0, 0, 0, 0, 0, 0, 0, 0, 21, 42, 42, 23, 21, 65, 65, 65, 63, 0, 0, 87, 63, 42, 0, 21, 0, 41, 41, 20, 20, 0, 0, 44, 22, 0, 0, 24, 24, 98, 22, 0, 73, 49, 0, 65, 43, 22, 22, 0, 0, 0, 0, 21, 21, 0, 0, 0, 70, 88, 88, 42, 90, 87, 70, 88, 22, 46, 20, 113, 113, 21, 21, 87, 45, 24, 143, 143, 143, 143, 143, 143, 143, 47, 143, 174, 143, 165, 166, 165, 165, 166, 110, 0, 0, 0, 43, 0, 0, 113, 0, 46, 65, 56, 30, 0, 0, 0, 0, 0, 22, 0, 24, 0, 0, 0, 0, 0, 0, 20, 24, 65, 20, 87, 0, 24, 122, 143, 0, 143, 0, 0, 22, 143, 23, 0, 0, 0, 143, 87, 87, 87, 113, 140, 0, 0, 0, 0, 0, 0, 22, 22, 42, 42, 0, 42, 63, 86, 63, 42, 63, 42, 63, 22, 0, 22, 22, 46, 68, 42, 0, 21, 21, 44, 66, 44, 90, 22, 114, 22, 42, 0, 0, 114, 63, 0, 24, 63, 45, 67, 0, 0, 23, 63, 0, 21, 43, 69, 98, 21, 46, 120, 43, 43, 22, 22, 98, 98, 140, 140, 140, 140, 140, 0, 22, 140, 0, 21, 140, 140, 140, 161, 22, 22, 140, 140, 140, 63, 0, 0, 0, 46, 69, 0, 22, 0, 69, 199]
def mPs : List (Nat × Nat × Nat × Nat) := [(840, 803, 839, 9999), (804, 803, 802, 9999), (844, 843, 842, 9999), (834, 41, 833, 9999), (713, 41, 712, 9999), (42, 41, 40, 9999), (837, 41, 836, 9999), (562, 48, 561, 9999), (49, 48, 47, 9999), (117, 14, 115, 116), (153, 14, 151, 152), (229, 14, 227, 228), (157, 14, 155, 156), (125, 14, 123, 124), (201, 14, 199, 200), (162, 14, 160, 161), (167, 14, 165, 166), (213, 14, 211, 212), (233, 14, 231, 232), (1005, 14, 1003, 1004), (1044, 14, 1042, 1043), (327, 27, 325, 326), (333, 27, 331, 332), (337, 27, 335, 336), (349, 27, 347, 348), (341, 27, 339, 340), (345, 27, 343, 344), (353, 27, 351, 352), (365, 27, 363, 364), (369, 27, 367, 368), (357, 27, 355, 356), (361, 27, 359, 360), (432, 27, 430, 431), (424, 27, 422, 423), (428, 27, 426, 427), (503, 27, 501, 502), (507, 27, 505, 506), (581, 27, 579, 580), (575, 27, 573, 574), (551, 23, 549, 550), (555, 23, 553, 554), (559, 23, 557, 558), (566, 23, 564, 565), (571, 23, 569, 570), (585, 23, 583, 584), (589, 23, 587, 588), (603, 23, 601, 602), (595, 23, 593, 594), (615, 23, 613, 614), (599, 23, 597, 598), (659, 23, 657, 658), (611, 23, 609, 610), (790, 23, 788, 789), (690, 23, 688, 689), (607, 23, 605, 606), (848, 23, 846, 847), (702, 23, 700, 701), (786, 23, 784, 785), (109, 2, 107, 108), (145, 2, 143, 144), (192, 2, 190, 191), (197, 2, 195, 196), (209, 2, 207, 208), (225, 2, 223, 224), (242, 2, 240, 241), (253, 2, 251, 252), (265, 2, 263, 264), (279, 2, 277, 278), (312, 2, 310, 311), (320, 2, 318, 319), (411, 2, 409, 410), (454, 2, 452, 453), (466, 2, 464, 465), (474, 2, 472, 473), (490, 2, 488, 489), (526, 2, 524, 525), (539, 2, 537, 538), (646, 2, 644, 645), (655, 2, 653, 654), (686, 2, 684, 685), (698, 2, 696, 697), (733, 2, 731, 732), (745, 2, 743, 744), (753, 2, 751, 752), (774, 2, 772, 773), (800, 2, 798, 799), (869, 2, 867, 868), (877, 2, 875, 876), (891, 2, 889, 890), (904, 2, 902, 903), (937, 2, 935, 936), (949, 2, 947, 948), (961, 2, 959, 960), (973, 2, 971, 972), (981, 2, 979, 980), (989, 2, 987, 988), (997, 2, 995, 996), (1017, 2, 1015, 1016), (1025, 2, 1023, 1024), (1033, 2, 1031, 1032), (121, 2, 119, 120), (113, 2, 111, 112), (149, 2, 147, 148), (706, 2, 704, 705), (710, 2, 708, 709), (716, 2, 715, 9999), (282, 2, 281, 9999), (285, 2, 284, 9999), (757, 2, 755, 756), (268, 2, 267, 9999), (760, 2, 759, 9999), (763, 2, 762, 9999), (289, 2, 287, 288), (293, 2, 291, 292), (414, 2, 413, 9999), (323, 2, 322, 9999), (420, 2, 419, 9999), (496, 2, 495, 9999), (417, 2, 416, 9999), (493, 2, 492, 9999), (499, 2, 498, 9999), (478, 2, 476, 477), (1001, 2, 999, 1000), (1040, 2, 1038, 1039), (815, 2, 813, 814), (543, 2, 541, 542), (547, 2, 545, 546), (895, 2, 893, 894), (952, 2, 951, 9999), (881, 2, 879, 880), (778, 2, 777, 9999), (782, 2, 781, 9999), (811, 2, 809, 810), (820, 2, 818, 819), (831, 2, 830, 9999), (824, 2, 822, 823), (828, 2, 827, 9999), (851, 2, 850, 9999), (908, 2, 906, 907), (912, 2, 910, 911), (965, 2, 963, 964), (920, 2, 918, 919), (916, 2, 914, 915), (941, 2, 939, 940), (136, 5, 135, 9999), (140, 5, 138, 139), (187, 5, 185, 186), (639, 5, 638, 9999), (858, 5, 857, 9999), (728, 5, 726, 727), (133, 5, 132, 9999), (249, 5, 248, 9999), (179, 5, 177, 178), (261, 5, 259, 260), (183, 5, 181, 182), (130, 5, 128, 129), (175, 5, 173, 174), (171, 5, 169, 170), (205, 5, 203, 204), (221, 5, 219, 220), (238, 5, 236, 237), (246, 5, 244, 245), (257, 5, 255, 256), (304, 5, 303, 9999), (275, 5, 274, 9999), (272, 5, 270, 271), (308, 5, 306, 307), (301, 5, 299, 300), (297, 5, 295, 296), (316, 5, 314, 315), (390, 5, 388, 389), (386, 5, 384, 385), (399, 5, 397, 398), (407, 5, 405, 406), (403, 5, 401, 402), (394, 5, 392, 393), (380, 5, 378, 379), (376, 5, 375, 9999), (373, 5, 371, 372), (439, 5, 438, 9999), (462, 5, 460, 461), (442, 5, 441, 9999), (642, 5, 641, 9999), (436, 5, 434, 435), (458, 5, 456, 457), (450, 5, 448, 449), (446, 5, 444, 445), (470, 5, 468, 469), (486, 5, 484, 485), (482, 5, 480, 481), (519, 5, 517, 518), (522, 5, 521, 9999), (515, 5, 513, 514), (511, 5, 509, 510), (535, 5, 533, 534), (636, 5, 634, 635), (632, 5, 630, 631), (628, 5, 626, 627), (673, 5, 671, 672), (682, 5, 680, 681), (677, 5, 675, 676), (669, 5, 667, 668), (724, 5, 722, 723), (741, 5, 739, 740), (530, 5, 528, 529), (624, 5, 622, 623), (620, 5, 618, 619), (651, 5, 649, 650), (663, 5, 661, 662), (694, 5, 692, 693), (720, 5, 718, 719), (737, 5, 735, 736), (749, 5, 747, 748), (770, 5, 769, 9999), (767, 5, 765, 766), (794, 5, 792, 793), (865, 5, 864, 9999), (862, 5, 860, 861), (855, 5, 853, 854), (873, 5, 871, 872), (886, 5, 884, 885), (899, 5, 897, 898), (929, 5, 927, 928), (933, 5, 931, 932), (924, 5, 922, 923), (945, 5, 943, 944), (957, 5, 955, 956), (969, 5, 967, 968), (977, 5, 975, 976), (985, 5, 983, 984), (993, 5, 991, 992), (1013, 5, 1011, 1012), (1009, 5, 1007, 1008), (1021, 5, 1019, 1020), (1029, 5, 1027, 1028), (1055, 5, 1053, 1054), (1049, 5, 1047, 1048), (0, 0, 0, 9999)]
def mNs : List Nat := [2, 1, 2, 1, 1, 2, 2, 2, 2, 1, 1, 1, 3, 3, 1, 2, 3, 5, 1, 0, 1, 3, 2, 1, 1, 1, 1, 1, 1, 1, 1, 0, 1, 1, 2, 0, 3, 3, 2, 3, 1, 1, 3, 3, 3, 2, 0, 1, 2, 2, 0, 1, 2, 1, 1, 1, 1, 1, 2, 3, 2, 1, 5, 1, 2, 3, 1, 2, 1, 2, 4, 1, 2, 2, 2, 0, 1, 2, 0, 1, 1, 2, 2, 2, 3, 3, 2, 1, 3, 2, 3, 0, 2, 0, 0, 0, 1, 0, 1, 0, 1, 4, 3, 2, 2, 2, 1, 1, 1, 2, 3, 3, 2, 2, 1, 1, 1, 1, 1, 2, 2, 2, 1, 2, 1, 1, 1, 2, 2, 2, 1, 1, 1, 3, 4, 2, 1, 1, 1, 1, 1, 4, 3, 3, 3, 1, 2, 2, 1, 3, 1, 1, 1, 1, 2, 2, 2, 3, 1, 5, 1, 2, 3, 1, 1, 1, 2, 2, 2, 1, 1, 1, 2, 2, 2, 2, 2, 1, 2, 1, 1, 1, 1, 4, 1, 2, 1, 2, 2, 2, 1, 3, 2, 2, 0, 2, 4, 2, 0, 2, 1, 0, 1, 2, 0, 1, 1, 2, 0, 1, 1, 2, 2, 3, 2, 3, 4, 3, 3, 2, 1, 3, 1, 3, 2, 3, 0, 2, 0, 0, 0, 1, 1, 0, 1, 1, 0, 1]
def mY (i : Nat) : MethodName := mYs.getD i yL_law
def mC (i : Nat) : ByteArray := mCs.getD i code
def mX (i : Nat) : Nat := mXs.getD i 0
def mR (i : Nat) : Option FieldType := mRs.getD i none
def mO (i : Nat) : String := mOs.getD i RL
def mF (i : Nat) : Nat := mFs.getD i 0
def mL (i : Nat) : Nat := mLs.getD i 0
def mP (i : Nat) : Nat × Nat × Nat × Nat := mPs.getD i (0, 0, 0, 0)
def mN (i : Nat) : Nat := mNs.getD i 0
def nestW : List Cond := [Cond.fieldLinkNest RX3 189 "WeightedLaws$Worlds" "best" "I" "WeightedLaws", Cond.fieldLinkNest RX3 186 "WeightedLaws$Worlds" "leastCost" "I" "WeightedLaws", Cond.fieldLinkNest RX3 198 "WeightedLaws$Worlds" "allShares" "J" "WeightedLaws", Cond.fieldLinkNest RX2 55 "WeightedLaws$Law" "there" "Z" "WeightedLaws", Cond.fieldLinkNest RX3 140 "WeightedLaws$Law" "there" "Z" "WeightedLaws", Cond.fieldLinkNest RX2 61 "WeightedLaws$Law" "kind" "I" "WeightedLaws", Cond.fieldLinkNest RX3 149 "WeightedLaws$Law" "kind" "I" "WeightedLaws", Cond.fieldLinkNest RX2 99 "WeightedLaws$Law" "weight" "I" "WeightedLaws", Cond.fieldLinkNest RX3 143 "WeightedLaws$Law" "weight" "I" "WeightedLaws", Cond.fieldLinkNest RX3 329 "WeightedLaws$Law" "least" "I" "WeightedLaws", Cond.fieldLinkNest RX3 335 "WeightedLaws$Law" "parts" "I" "WeightedLaws", Cond.methodLinkNest RX3 33 yX2_init "WeightedLaws", Cond.methodLinkNest RX3 41 yX0_init "WeightedLaws", Cond.methodLinkNest RX2 95 yX3_isSoft "WeightedLaws", Cond.methodLinkNest RX2 102 yX3_isHard "WeightedLaws"]
end
section
/-! WHAT THE SMALL MACHINE'S STATES ARE ON THE HEAP -/
def fldT (ci k : Nat) : Nat := ([[3, 0, 0, 0, 0, 2, 2, 2, 2], [2, 2], [0, 0, 2, 2, 2, 2, 2, 0, 0, 1], [2, 2, 2, 2, 2, 2, 2, 0, 3, 0, 1, 1, 0], [0, 2, 0, 1, 1, 2, 2, 2, 2, 2, 0, 2, 0, 0, 0, 2, 2, 2, 2, 2, 2, 2, 2, 2, 2, 2, 2, 2, 0, 2, 0, 0, 2, 2, 1, 0, 1]].getD ci []).getD k 0
def TT (ci : Nat) : u_T := match ci with
  | 0 => TX0
  | 1 => TX1
  | 2 => TX2
  | 3 => TX3
  | _ => TX4
def RR (ci : Nat) : String := match ci with
  | 0 => RX0
  | 1 => RX1
  | 2 => RX2
  | 3 => RX3
  | _ => RX4
def NF (ci : Nat) : Nat := match ci with
  | 0 => 9
  | 1 => 2
  | 2 => 10
  | 3 => 13
  | _ => 37
def tyT (ci : Nat) : Nat → FieldType := match ci with
  | 0 => tyX0
  | 1 => tyX1
  | 2 => tyX2
  | 3 => tyX3
  | _ => tyX4
theorem clT {ci : Nat} (h : ci < 5) : vwCl[ci]? = some (RR ci, TT ci, NF ci) := by
  rcases (show ci = 0 ∨ ci = 1 ∨ ci = 2 ∨ ci = 3 ∨ ci = 4 by omega) with rfl | rfl | rfl | rfl | rfl <;> rfl
theorem inT {ci : Nat} (h : ci < 5) : ∀ w ∈ u_ws (RR ci) (TT ci) (NF ci), w ∈ wsL_law := by
  rcases (show ci = 0 ∨ ci = 1 ∨ ci = 2 ∨ ci = 3 ∨ ci = 4 by omega) with rfl | rfl | rfl | rfl | rfl
  · exact inlX0
  · exact inlX1
  · exact inlX2
  · exact inlX3
  · exact inlX4
theorem nmT {ci : Nat} (h : ci < 5) : ∀ a, a < NF ci → ∀ b, b < NF ci → a ≠ b → (TT ci a).2.1 ≠ (TT ci b).2.1 := by
  rcases (show ci = 0 ∨ ci = 1 ∨ ci = 2 ∨ ci = 3 ∨ ci = 4 by omega) with rfl | rfl | rfl | rfl | rfl
  · exact nmX0
  · exact nmX1
  · exact nmX2
  · exact nmX3
  · exact nmX4
theorem tyT_ok {ci : Nat} (h : ci < 5) : ∀ k, k < NF ci → parseFieldDescriptor (TT ci k).2.2.1 = some (tyT ci k) := by
  rcases (show ci = 0 ∨ ci = 1 ∨ ci = 2 ∨ ci = 3 ∨ ci = 4 by omega) with rfl | rfl | rfl | rfl | rfl
  · exact tyX0_ok
  · exact tyX1_ok
  · exact tyX2_ok
  · exact tyX3_ok
  · exact tyX4_ok
def rv (ad : Nat × Nat → Nat) (v : AV) : Value := match v with
  | .inl x => .int x
  | .inr (.inl x) => .long x
  | .inr (.inr a) => .ref (ad a)
def okv (v : AV) : Prop := match v with
  | .inr (.inr (kd, j)) => j < kct kd
  | _ => True
def okS (st : List AV) : Prop := ∀ v ∈ st, okv v
def fvv (s : SS) (kd j k : Nat) : AV := match fldT (kcl kd) k with
  | 1 => .inr (.inl (s.2.1 kd j k))
  | 2 => .inr (.inr (rfa s kd j k))
  | _ => .inl (s.1 kd j k)
abbrev Cls : Type := ClassId × ClassId × ClassId × ClassId × ClassId
def cellE (ad : Nat × Nat → Nat) (C : Cls) (s : SS) (a : Nat × Nat) : va_E := match kar a.1 with
  | 0 => .inr (kcl a.1, (List.range (NF (kcl a.1))).map (fun k => rv ad (fvv s a.1 a.2 k)))
  | 1 => .inl (C.1, kln a.1, .inl (s.1 a.1 a.2))
  | 2 => .inl (C.2.1, kln a.1, .inr (.inl (s.2.1 a.1 a.2)))
  | 3 => .inl (C.2.2.1, kln a.1, .inl (s.1 a.1 a.2))
  | 4 => .inl (C.2.2.2.1, kln a.1, .inr (.inr (.inr (.inr (fun i => if i < kln a.1 then some (ad (a.1 + 4, i)) else none)))))
  | _ => .inl (C.2.2.2.2, kln a.1, .inr (.inr (.inr (.inr (fun i => if i < kln a.1 then some (ad (13, s.2.2 i)) else none)))))
def dom : List (Nat × Nat) := (List.range 60).flatMap (fun k => (List.range (kct k)).map (fun j => (k, j)))
def wsG (ad : Nat × Nat → Nat) (C : Cls) (s : SS) : va_W := dom.map (fun a => (ad a, cellE ad C s a))
def tyG (C : Cls) : List (ClassId × FieldType) := [(C.1, .int), (C.2.1, .long), (C.2.2.1, .boolean), (C.2.2.2.1, .array .int), (C.2.2.2.2, .object RX0)]
def okR (xs : Nat → Int32) (L : Nat) (s : SS) : Prop := (∀ i, i ≤ 8 → s.2.2 i < 9) ∧ (∀ c, s.1 60 0 c = xs c) ∧ s.1 60 1 0 = Int32.ofNat L ∧ (s.1 60 1 0).toNatClampNeg = L
def Hp (ad : Nat × Nat → Nat) (C : Cls) (D : va_G) (xs : Nat → Int32) (L : Nat) (s : SS) (H : Heap) : Prop := va_P D vwCl (wsG ad C s) H ∧ okR xs L s
def AdK (ad : Nat × Nat → Nat) : Prop := (∀ a b, a ∈ dom → b ∈ dom → ad a = ad b → a = b) ∧ ∀ a, a ∈ dom → ad a ≠ ad (60, 0)
def A0 (ad : Nat × Nat → Nat) (q : Nat) : Prop := ∃ a, a ∈ dom ∧ q = ad a
def NN (U : State) : Prop := ∀ w ∈ nestW, va_Nw w U
theorem mem_dom {a : Nat × Nat} : a ∈ dom ↔ a.1 < 60 ∧ a.2 < kct a.1 := by
  obtain ⟨k, j⟩ := a
  simp only [dom, List.mem_flatMap, List.mem_range, List.mem_map, Prod.mk.injEq]
  constructor
  · rintro ⟨k', h1, j', h2, rfl, rfl⟩
    exact ⟨h1, h2⟩
  · rintro ⟨h1, h2⟩
    exact ⟨k, h1, j, h2, rfl, rfl⟩
theorem dom_nd : dom.Nodup := by decide +kernel
theorem dom_one {i j : Nat} {a : Nat × Nat} (h1 : dom[i]? = some a) (h2 : dom[j]? = some a) : i = j := by
  obtain ⟨l1, e1⟩ := List.getElem?_eq_some_iff.mp h1
  obtain ⟨l2, e2⟩ := List.getElem?_eq_some_iff.mp h2
  have hp := List.pairwise_iff_getElem.mp dom_nd
  rcases Nat.lt_trichotomy i j with h | h | h
  · exact absurd (e1.trans e2.symm) (hp i j l1 l2 h)
  · exact h
  · exact absurd (e2.trans e1.symm) (hp j i l2 l1 h)
theorem wsG_at (ad : Nat × Nat → Nat) (C : Cls) (s : SS) {a : Nat × Nat} (h : a ∈ dom) : ∃ q : Nat, dom[q]? = some a ∧ (wsG ad C s)[q]? = some (ad a, cellE ad C s a) := by
  obtain ⟨q, hq⟩ := List.getElem?_of_mem h
  exact ⟨q, hq, by rw [wsG, List.getElem?_map, hq]; rfl⟩
theorem wsG_set {ad : Nat × Nat → Nat} {C : Cls} {s s' : SS} {a : Nat × Nat} {q : Nat} (hq : dom[q]? = some a) {e : va_E} (he : cellE ad C s' a = e) (ho : ∀ b, b ∈ dom → b ≠ a → cellE ad C s' b = cellE ad C s b) : (wsG ad C s).set q (ad a, e) = wsG ad C s' := by
  have hl : q < dom.length := (List.getElem?_eq_some_iff.mp hq).1
  apply List.ext_getElem?
  intro k
  rw [List.getElem?_set]
  by_cases hk : q = k
  · subst hk
    rw [if_pos rfl, if_pos (by rw [wsG, List.length_map]; exact hl), wsG, List.getElem?_map, hq, ← he]
    rfl
  · rw [if_neg hk, wsG, wsG, List.getElem?_map, List.getElem?_map]
    cases hb : dom[k]? with
    | none => rfl
    | some b =>
      have hne : b ≠ a := fun e => hk (dom_one hq (by rw [hb, e]))
      show some (ad b, cellE ad C s b) = some (ad b, cellE ad C s' b)
      rw [ho b (List.mem_of_getElem? hb) hne]
theorem wsG_D {ad : Nat × Nat → Nat} {C : Cls} {s : SS} {A : Nat → Prop} (h : AdK ad) (hA : ∀ a, a ∈ dom → A (ad a)) : va_D A (wsG ad C s) := by
  have key : ∀ (k : Nat) (q : Nat × va_E), (wsG ad C s)[k]? = some q → ∃ a, dom[k]? = some a ∧ q.1 = ad a := by
    intro k q hk
    rw [wsG, List.getElem?_map] at hk
    cases hb : dom[k]? with
    | none => rw [hb] at hk; cases hk
    | some b => rw [hb] at hk; cases hk; exact ⟨b, rfl, rfl⟩
  refine ⟨fun i j x y hi hj hxy => ?_, fun k q hk => ?_⟩
  · obtain ⟨a, h1, h2⟩ := key i x hi
    obtain ⟨b, h3, h4⟩ := key j y hj
    have e := h.1 a b (List.mem_of_getElem? h1) (List.mem_of_getElem? h3) (by rw [← h2, ← h4, hxy])
    subst e
    exact dom_one h1 h3
  · obtain ⟨a, h1, h2⟩ := key k q hk
    rw [h2]
    exact hA a (List.mem_of_getElem? h1)
/-! what changes a cell -/
theorem fvv_wI {s : SS} {kd j i : Nat} {v : Int32} {kd' j' k : Nat} (h : ¬ (kd' = kd ∧ j' = j ∧ k = i)) : fvv (wI s kd j i v) kd' j' k = fvv s kd' j' k := by
  unfold fvv
  split
  · rfl
  · rfl
  · show Sum.inl (if kd' = kd ∧ j' = j ∧ k = i then v else s.1 kd' j' k) = _
    rw [if_neg h]
theorem fvv_wL {s : SS} {kd j i : Nat} {v : Int64} {kd' j' k : Nat} (h : ¬ (kd' = kd ∧ j' = j ∧ k = i)) : fvv (wL s kd j i v) kd' j' k = fvv s kd' j' k := by
  unfold fvv
  split
  · show Sum.inr (Sum.inl (if kd' = kd ∧ j' = j ∧ k = i then v else s.2.1 kd' j' k)) = _
    rw [if_neg h]
  · rfl
  · rfl
theorem cellE_wI {ad : Nat × Nat → Nat} {C : Cls} {s : SS} {kd j i : Nat} {v : Int32} {b : Nat × Nat} (h : b ≠ (kd, j)) : cellE ad C (wI s kd j i v) b = cellE ad C s b := by
  obtain ⟨kb, jb⟩ := b
  have h' : ∀ c, ¬ (kb = kd ∧ jb = j ∧ c = i) := fun c q => h (by rw [q.1, q.2.1])
  have e1 : (wI s kd j i v).1 kb jb = s.1 kb jb := by
    funext c
    show (if kb = kd ∧ jb = j ∧ c = i then v else s.1 kb jb c) = _
    rw [if_neg (h' c)]
  have e2 : (fun k => rv ad (fvv (wI s kd j i v) kb jb k)) = fun k => rv ad (fvv s kb jb k) := by
    funext k
    rw [fvv_wI (h' k)]
  unfold cellE
  simp only [e1, e2]
  rfl
theorem cellE_wL {ad : Nat × Nat → Nat} {C : Cls} {s : SS} {kd j i : Nat} {v : Int64} {b : Nat × Nat} (h : b ≠ (kd, j)) : cellE ad C (wL s kd j i v) b = cellE ad C s b := by
  obtain ⟨kb, jb⟩ := b
  have h' : ∀ c, ¬ (kb = kd ∧ jb = j ∧ c = i) := fun c q => h (by rw [q.1, q.2.1])
  have e1 : (wL s kd j i v).2.1 kb jb = s.2.1 kb jb := by
    funext c
    show (if kb = kd ∧ jb = j ∧ c = i then v else s.2.1 kb jb c) = _
    rw [if_neg (h' c)]
  have e2 : (fun k => rv ad (fvv (wL s kd j i v) kb jb k)) = fun k => rv ad (fvv s kb jb k) := by
    funext k
    rw [fvv_wL (h' k)]
  unfold cellE
  simp only [e1, e2]
  rfl
theorem cellE_wA {ad : Nat × Nat → Nat} {C : Cls} {s : SS} {kd j : Nat} {f : Nat → Int32} {b : Nat × Nat} (h : b ≠ (kd, j)) : cellE ad C (wA s kd j f) b = cellE ad C s b := by
  obtain ⟨kb, jb⟩ := b
  have h' : ¬ (kb = kd ∧ jb = j) := fun q => h (by rw [q.1, q.2])
  have e1 : (wA s kd j f).1 kb jb = s.1 kb jb := by
    funext c
    show (if kb = kd ∧ jb = j then f c else s.1 kb jb c) = _
    rw [if_neg h']
  have e2 : (fun k => rv ad (fvv (wA s kd j f) kb jb k)) = fun k => rv ad (fvv s kb jb k) := by
    funext k
    unfold fvv
    split
    · rfl
    · rfl
    · rw [e1]
  unfold cellE
  simp only [e1, e2]
  rfl
theorem rfa_wR {s : SS} {i v kd j k : Nat} (h : ¬ (kd = 0 ∧ k = 6 ∧ i = 8)) : rfa (wR s i v) kd j k = rfa s kd j k := by
  unfold rfa
  cases h1 : Nat.beq kd 0 with
  | false => rfl
  | true =>
    cases h2 : Nat.beq k 6 with
    | false => rfl
    | true =>
      show (13, (if 8 = i then v else s.2.2 8)) = (13, s.2.2 8)
      rw [if_neg (fun e => h ⟨Nat.eq_of_beq_eq_true h1, Nat.eq_of_beq_eq_true h2, e.symm⟩)]
theorem cellE_wR {ad : Nat × Nat → Nat} {C : Cls} {s : SS} {i v : Nat} {b : Nat × Nat} (h0 : i = 8 → b.1 ≠ 0) (h1 : i < 8 → kar b.1 ≠ 5) (hb : b ∈ dom) : cellE ad C (wR s i v) b = cellE ad C s b := by
  obtain ⟨kb, jb⟩ := b
  have hk : kar kb < 6 := by
    have hd := (mem_dom.mp hb).1
    have : ∀ k, k < 60 → kar k < 6 := by decide +kernel
    exact this kb hd
  have h5 : kar kb = 5 → kln kb = 8 := by
    have hd := (mem_dom.mp hb).1
    have : ∀ k, k < 60 → kar k = 5 → kln k = 8 := by decide +kernel
    exact this kb hd
  have e2 : (fun k => rv ad (fvv (wR s i v) kb jb k)) = fun k => rv ad (fvv s kb jb k) := by
    funext k
    unfold fvv
    split
    · rfl
    · rw [rfa_wR (fun q => h0 q.2.2 q.1)]
    · rfl
  unfold cellE
  simp only [e2]
  split
  · rfl
  · rfl
  · rfl
  · rfl
  · rfl
  · rename_i x1 x2 x3 x4 x5
    have hk5 : kar kb = 5 := by
      have a1 : kar kb ≠ 0 := x1
      have a2 : kar kb ≠ 1 := x2
      have a3 : kar kb ≠ 2 := x3
      have a4 : kar kb ≠ 3 := x4
      have a5 : kar kb ≠ 4 := x5
      omega
    have hn : ¬ i < 8 := fun q => h1 q hk5
    have e3 : (fun c => if c < kln kb then some (ad (13, (wR s i v).2.2 c)) else none) = fun c => if c < kln kb then some (ad (13, s.2.2 c)) else none := by
      funext c
      rw [h5 hk5]
      by_cases q : c < 8
      · rw [if_pos q, if_pos q]
        show some (ad (13, if c = i then v else s.2.2 c)) = _
        rw [if_neg (by omega)]
      · rw [if_neg q, if_neg q]
    rw [e3]
theorem range_map_set {α : Type} (f : Nat → α) (n k : Nat) (v : α) : ((List.range n).map f).set k v = (List.range n).map (fun i => if i = k then v else f i) := by
  apply List.ext_getElem?
  intro i
  rw [List.getElem?_set, List.getElem?_map, List.getElem?_map, List.length_map, List.length_range]
  by_cases hk : k = i
  · subst hk
    rw [if_pos rfl]
    by_cases h : k < n
    · rw [if_pos h, List.getElem?_range h]
      simp
    · rw [if_neg h, List.getElem?_eq_none (by rw [List.length_range]; omega)]
      rfl
  · rw [if_neg hk]
    by_cases h : i < n
    · rw [List.getElem?_range h]
      have : ¬ i = k := fun e => hk e.symm
      simp [this]
    · rw [List.getElem?_eq_none (by rw [List.length_range]; omega)]
      rfl
theorem range_map_at {α : Type} (f : Nat → α) {n k : Nat} (h : k < n) : ((List.range n).map f)[k]? = some (f k) := by
  rw [List.getElem?_map, List.getElem?_range h]
  rfl
/-! the slots of a frame -/
def LRep (ad : Nat × Nat → Nat) (ls : Array Slot) (n : Nat) (lo : LO) : Prop := ls.size = n ∧ lv_wf ls ∧ lo.length = n ∧ ∀ (k : Nat) (v : AV), lo[k]? = some (some v) → ls[k]? = some (.val (rv ad v)) ∧ okv v
def toLF (ad : Nat × Nat → Nat) (lo : LO) (k : Nat) : Option (Nat × Value) := match lo[k]? with
  | some (some v) => some (k, rv ad v)
  | _ => none
def toL (ad : Nat × Nat → Nat) (lo : LO) : List (Nat × Value) := (List.range lo.length).filterMap (toLF ad lo)
theorem toL_mem {ad : Nat × Nat → Nat} {lo : LO} {k : Nat} {v : AV} (h : lo[k]? = some (some v)) : (k, rv ad v) ∈ toL ad lo := by
  refine List.mem_filterMap.mpr ⟨k, List.mem_range.mpr (List.getElem?_eq_some_iff.mp h).1, ?_⟩
  unfold toLF
  rw [h]
theorem LRep_has {ad : Nat × Nat → Nat} {ls : Array Slot} {n : Nat} {lo : LO} (h : LRep ad ls n lo) : lv_has ls n (toL ad lo) := by
  refine ⟨h.1, h.2.1, fun q hq => ?_⟩
  obtain ⟨k, -, hk⟩ := List.mem_filterMap.mp hq
  unfold toLF at hk
  split at hk
  · rename_i v hv
    cases hk
    exact (h.2.2.2 k v hv).1
  · cases hk
theorem LRep_load {ad : Nat × Nat → Nat} {ls : Array Slot} {n : Nat} {lo : LO} (h : LRep ad ls n lo) {k : Nat} {v : AV} (hv : lo.getD k none = some v) : ls[k]? = some (.val (rv ad v)) ∧ okv v := by
  refine h.2.2.2 k v ?_
  rw [List.getD_eq_getElem?_getD] at hv
  cases hk : lo[k]? with
  | none => rw [hk] at hv; cases hv
  | some w => rw [hk] at hv; rw [show w = some v from hv]
theorem clr_len (lo : LO) (k : Nat) : (clr lo k).length = lo.length := by
  cases k with
  | zero => rfl
  | succ i =>
    show (bif isLg (lo.getD i none) then lo.set i none else lo).length = lo.length
    cases isLg (lo.getD i none)
    · rfl
    · exact List.length_set
theorem clr_at {lo : LO} {k q : Nat} {v : AV} (h : (clr lo k)[q]? = some (some v)) : lo[q]? = some (some v) ∧ ¬ (q + 1 = k ∧ cat v = 2) := by
  cases k with
  | zero => exact ⟨h, fun e => by omega⟩
  | succ i =>
    have h : (bif isLg (lo.getD i none) then lo.set i none else lo)[q]? = some (some v) := h
    cases hb : isLg (lo.getD i none) with
    | false =>
      rw [hb] at h
      refine ⟨h, fun e => ?_⟩
      have hi : q = i := by omega
      subst hi
      have h' : lo[q]? = some (some v) := h
      rw [List.getD_eq_getElem?_getD, h'] at hb
      obtain ⟨-, hc⟩ := e
      match v, hc, hb with
      | .inl x, hc, _ => cases hc
      | .inr (.inl x), _, hb => cases hb
      | .inr (.inr x), hc, _ => cases hc
    | true =>
      rw [hb] at h
      have h' : (lo.set i none)[q]? = some (some v) := h
      rw [List.getElem?_set] at h'
      by_cases hq : i = q
      · rw [if_pos hq] at h'
        split at h' <;> cases h'
      · rw [if_neg hq] at h'
        exact ⟨h', fun e => hq (by omega)⟩
theorem rv_cat (ad : Nat × Nat → Nat) (v : AV) : (rv ad v).category = cat v := by
  match v with
  | .inl x => rfl
  | .inr (.inl x) => rfl
  | .inr (.inr x) => rfl
theorem LRep_st1 {ad : Nat × Nat → Nat} {ls ls' : Array Slot} {n k : Nat} {lo : LO} {v : AV} (h : LRep ad ls n lo) (ho : okv v) (h' : lv_has ls' n ((k, rv ad v) :: (toL ad lo).filter (fun q => !(q.1 == k) && !(q.1 + 1 == k && q.2.category == 2)))) : LRep ad ls' n (st1 lo k v) := by
  refine ⟨h'.1, h'.2.1, by rw [st1, List.length_set, clr_len]; exact h.2.2.1, fun q w hq => ?_⟩
  unfold st1 at hq
  rw [List.getElem?_set] at hq
  by_cases e : k = q
  · subst e
    rw [if_pos rfl] at hq
    split at hq
    · cases hq
      exact ⟨h'.2.2 (k, rv ad v) List.mem_cons_self, ho⟩
    · cases hq
  · rw [if_neg e] at hq
    obtain ⟨h1, h2⟩ := clr_at hq
    refine ⟨h'.2.2 (q, rv ad w) (List.mem_cons_of_mem _ (List.mem_filter.mpr ⟨toL_mem h1, ?_⟩)), (h.2.2.2 q w h1).2⟩
    have e' : ¬ q = k := fun z => e z.symm
    simp only [rv_cat, Bool.and_eq_true, Bool.not_eq_true', beq_eq_false_iff_ne, ne_eq, Bool.and_eq_false_iff]
    refine ⟨e', ?_⟩
    by_cases z : q + 1 = k
    · exact Or.inr (fun y => h2 ⟨z, y⟩)
    · exact Or.inl z
theorem LRep_st2 {ad : Nat × Nat → Nat} {ls ls' : Array Slot} {n k : Nat} {lo : LO} {v : AV} (h : LRep ad ls n lo) (ho : okv v) (h' : lv_has ls' n ((k, rv ad v) :: (toL ad lo).filter (fun q => !(q.1 == k) && (!(q.1 == k + 1) && !(q.1 + 1 == k && q.2.category == 2))))) : LRep ad ls' n (st2 lo k v) := by
  refine ⟨h'.1, h'.2.1, by rw [st2, List.length_set, List.length_set, clr_len]; exact h.2.2.1, fun q w hq => ?_⟩
  unfold st2 at hq
  rw [List.getElem?_set] at hq
  by_cases e0 : k + 1 = q
  · rw [if_pos e0] at hq
    split at hq <;> cases hq
  · rw [if_neg e0, List.getElem?_set] at hq
    by_cases e : k = q
    · subst e
      rw [if_pos rfl] at hq
      split at hq
      · cases hq
        exact ⟨h'.2.2 (k, rv ad v) List.mem_cons_self, ho⟩
      · cases hq
    · rw [if_neg e] at hq
      obtain ⟨h1, h2⟩ := clr_at hq
      refine ⟨h'.2.2 (q, rv ad w) (List.mem_cons_of_mem _ (List.mem_filter.mpr ⟨toL_mem h1, ?_⟩)), (h.2.2.2 q w h1).2⟩
      have e' : ¬ q = k := fun z => e z.symm
      have e0' : ¬ q = k + 1 := fun z => e0 z.symm
      simp only [rv_cat, Bool.and_eq_true, Bool.not_eq_true', beq_eq_false_iff_ne, ne_eq, Bool.and_eq_false_iff]
      refine ⟨e', e0', ?_⟩
      by_cases z : q + 1 = k
      · exact Or.inr (fun y => h2 ⟨z, y⟩)
      · exact Or.inl z
theorem LRep_kil {ad : Nat × Nat → Nat} {ls : Array Slot} {n : Nat} {lo : LO} (h : LRep ad ls n lo) (ks : List Nat) : LRep ad ls n (kil ks lo) := ⟨h.1, h.2.1, (kil_len ks lo).trans h.2.2.1, fun k v hk => h.2.2.2 k v (kil_at ks lo k hk)⟩
theorem okS_cons {v : AV} {st : List AV} : okS (v :: st) ↔ okv v ∧ okS st := by
  unfold okS
  exact List.forall_mem_cons
/-! the slots with which a method begins -/
theorem entA_args (ad : Nat × Nat → Nat) : ∀ (as : List AV) (i : Nat) (k : Nat) (v : AV), (entA as)[k]? = some (some v) → (i + k, rv ad v) ∈ lv_args i (as.map (rv ad)) ∧ v ∈ as
  | [], i, k, v, h => by simp [entA] at h
  | .inl x :: r, i, k, v, h => by
    cases k with
    | zero =>
      have h' : some (some (Sum.inl x)) = some (some v) := h
      cases h'
      exact ⟨List.mem_cons_self, List.mem_cons_self⟩
    | succ k =>
      obtain ⟨h1, h2⟩ := entA_args ad r (i + 1) k v h
      refine ⟨List.mem_cons_of_mem _ ?_, List.mem_cons_of_mem _ h2⟩
      rw [show i + (k + 1) = i + 1 + k by omega]
      exact h1
  | .inr (.inl x) :: r, i, k, v, h => by
    match k, h with
    | 0, h =>
      have h' : some (some (Sum.inr (Sum.inl x))) = some (some v) := h
      cases h'
      exact ⟨List.mem_cons_self, List.mem_cons_self⟩
    | 1, h =>
      have h' : some (none : Option AV) = some (some v) := h
      cases h'
    | k + 2, h =>
      obtain ⟨h1, h2⟩ := entA_args ad r (i + 2) k v h
      refine ⟨List.mem_cons_of_mem _ ?_, List.mem_cons_of_mem _ h2⟩
      rw [show i + (k + 2) = i + 2 + k by omega]
      exact h1
  | .inr (.inr x) :: r, i, k, v, h => by
    cases k with
    | zero =>
      have h' : some (some (Sum.inr (Sum.inr x))) = some (some v) := h
      cases h'
      exact ⟨List.mem_cons_self, List.mem_cons_self⟩
    | succ k =>
      obtain ⟨h1, h2⟩ := entA_args ad r (i + 1) k v h
      refine ⟨List.mem_cons_of_mem _ ?_, List.mem_cons_of_mem _ h2⟩
      rw [show i + (k + 1) = i + 1 + k by omega]
      exact h1
theorem entA_len (ad : Nat × Nat → Nat) : ∀ as : List AV, (lg_sl (as.map (rv ad))).length = (entA as).length
  | [] => rfl
  | .inl x :: r => by
    show ([Slot.val (Value.int x)] ++ lg_sl (r.map (rv ad))).length = (entA r).length + 1
    rw [List.length_append, entA_len ad r]
    simp
    omega
  | .inr (.inl x) :: r => by
    show ([Slot.val (Value.long x), Slot.second] ++ lg_sl (r.map (rv ad))).length = (entA r).length + 1 + 1
    rw [List.length_append, entA_len ad r]
    simp
    omega
  | .inr (.inr x) :: r => by
    show ([Slot.val (Value.ref (ad x))] ++ lg_sl (r.map (rv ad))).length = (entA r).length + 1
    rw [List.length_append, entA_len ad r]
    simp
    omega
theorem padL_len : ∀ (n : Nat) (lo : LO), lo.length ≤ n → (padL n lo).length = n
  | 0, lo, h => by unfold padL; omega
  | n + 1, [], _ => by
    show (none :: padL n []).length = n + 1
    rw [List.length_cons, padL_len n [] (Nat.zero_le _)]
  | n + 1, a :: r, h => by
    show (a :: padL n r).length = n + 1
    rw [List.length_cons, padL_len n r (by simpa using h)]
theorem padL_at : ∀ (n : Nat) (lo : LO) (k : Nat) (v : AV), (padL n lo)[k]? = some (some v) → lo[k]? = some (some v)
  | 0, _, _, _, h => h
  | n + 1, [], k, v, h => by
    cases k with
    | zero => cases h
    | succ k => exact absurd (padL_at n [] k v h) (by simp)
  | n + 1, a :: r, k, v, h => by
    cases k with
    | zero => exact h
    | succ k => exact padL_at n r k v h
theorem LRep_entry (ad : Nat × Nat → Nat) {as : List AV} {n : Nat} (ho : okS as) (hn : (entA as).length ≤ n) : LRep ad ((lg_sl (as.map (rv ad)) ++ List.replicate (n - (lg_sl (as.map (rv ad))).length) Slot.unset).toArray) n (entL as n) := by
  have h := lv_entry (as.map (rv ad)) (n := n) (by rw [entA_len]; exact hn)
  refine ⟨h.1, h.2.1, padL_len n _ hn, fun k v hk => ?_⟩
  have h1 := padL_at n _ k v hk
  obtain ⟨h2, h3⟩ := entA_args ad as 0 k v h1
  rw [Nat.zero_add] at h2
  exact ⟨h.2.2 _ h2, ho v h3⟩
end
section
/-! THE TABLE'S CHECK -/
def lkM (i ix a pos : Nat) : Bool := if 10000 ≤ pos then decide (nestW[pos - 10000]? = some (.methodLinkNest (mO i) ix (mY a) RX3)) else decide (wsL_law[pos]? = some (.methodLink (mO i) ix (mY a)))
def lkF (i ix a b pos : Nat) : Bool := if 10000 ≤ pos then decide (nestW[pos - 10000]? = some (.fieldLinkNest (mO i) ix (TT a b).1 (TT a b).2.1 (TT a b).2.2.1 RX3)) else decide (wsL_law[pos]? = some (.fieldLink (mO i) ix (TT a b).1 (TT a b).2.1 (TT a b).2.2.1))
def okM (a : Nat) : Bool := decide (wsL_law[(mP a).1]? = some (.code (mY a) (mC a) (mX a) (mR a))) && (decide (wsL_law[(mP a).2.1]? = some (.initialized (mY a).cls)) && (decide ((mY a).cls ≠ "java/lang/invoke/MethodHandle") && (decide ((mY a).cls ≠ "java/lang/invoke/VarHandle") && (decide ((parseMethodDescriptor (mY a).desc).map (fun d => d.parameters.length) = some (mN a)) && (plainName (mY a).cls && (decide ((mY a).cls = mO a) && (bif Nat.beq (mP a).2.2.2 9999 then decide (wsL_law[(mP a).2.2.1]? = some (.static (mY a))) else (decide (wsL_law[(mP a).2.2.1]? = some (.instanceMethod (mY a))) && decide (wsL_law[(mP a).2.2.2]? = some (.selects (mY a).cls (mY a) (mY a)))))))))))
def caB (i ix a b e f pos : Nat) (vir : Bool) : Bool := decide ((a < 237 ∧ (a < 3 ∨ 6 < a)) ∧ e = mX a ∧ mF a + 1 ≤ mF i ∧ 8 + (mX a + 11) + mL a ≤ mL i) && (lkM i ix a pos && (bif vir then decide (b = mN a + 1 ∧ f < 5 ∧ (mY a).cls = RR f ∧ (mP a).2.2.2 ≠ 9999 ∧ pos < 10000) else decide (b = mN a ∧ (mP a).2.2.2 = 9999)))
def maB (i ix pos len : Nat) (y : MethodName) : Bool := decide (wsL_law[pos]? = some (.methodLink (mO i) ix y) ∧ 1 ≤ mF i ∧ 21 ≤ mL i ∧ len = 3)
def swB (pc : Nat) (lo hi : Int) (offs : Array Int) (sw : List (Int32 × Nat)) : Bool := decide (sw.map (fun q => q.1.toInt) = (List.range (hi - lo + 1).toNat).map (fun (k : Nat) => lo + (k : Int))) && sw.all (fun q => decide ((offs[(q.1.toInt - lo).toNat]?).map (fun o => (pc : Int) + o) = some (q.2 : Int)))
def okB (i pc : Nat) (en : En) : Bool := match en with
  | (ins, len, a, b, d, e, f, pos, cv, lv, sw, _) => decide (decode (mC i) pc = .ok (ins, len)) && (match ins with
    | .iconst n => decide (Int32.ofInt n = cv ∧ len = 1)
    | .bipush n => decide ((Int8.ofInt n).toInt32 = cv ∧ len = 2)
    | .sipush n => decide ((Int16.ofInt n).toInt32 = cv ∧ len = 3)
    | .ldc ix => decide (wsL_law[pos]? = some (.constant (mO i) ix cv) ∧ len = 2)
    | .ldc_w ix => decide (wsL_law[pos]? = some (.constant (mO i) ix cv) ∧ len = 3)
    | .lconst n => decide (Int64.ofNat (n : Nat) = lv ∧ len = 1)
    | .ldc2_w ix => decide (wsL_law[pos]? = some (.constantLong (mO i) ix lv) ∧ len = 3)
    | .iload _ => decide (len = 2)
    | .lload _ => decide (len = 2)
    | .aload _ => decide (len = 2)
    | .istore k => decide (k < mX i ∧ len = 2)
    | .istore_n k => decide (k.val < mX i ∧ len = 1)
    | .astore k => decide (k < mX i ∧ len = 2)
    | .astore_n k => decide (k.val < mX i ∧ len = 1)
    | .lstore k => decide (k + 1 < mX i ∧ len = 2)
    | .lstore_n k => decide (k.val + 1 < mX i ∧ len = 1)
    | .iinc k n => decide (Int32.ofInt n = cv ∧ k < mX i ∧ len = 3)
    | .goto off => decide ((pc : Int) + off = (a : Int) ∧ len = 3)
    | .ifCond _ off => decide ((pc : Int) + off = (a : Int) ∧ len = 3)
    | .if_icmp _ off => decide ((pc : Int) + off = (a : Int) ∧ len = 3)
    | .tableswitch dflt lo hi offs => decide ((pc : Int) + dflt = (a : Int)) && swB pc lo hi offs sw
    | .lookupswitch dflt ps => decide ((pc : Int) + dflt = (a : Int) ∧ ps.toList = sw.map (fun q => (q.1.toInt, (q.2 : Int) - (pc : Int)))) && (ps.toList.zip (ps.toList.drop 1)).all (fun (a, next) => a.1 < next.1)
    | .getfield ix => decide (a < 5 ∧ b < NF a ∧ d = fldT a b ∧ len = 3) && lkF i ix a b pos
    | .putfield ix => decide (a < 5 ∧ b < NF a ∧ d = fldT a b ∧ len = 3 ∧ (TT a b).2.2.2 = false ∧ tyT a b = (match d with
      | 0 => .int
      | 1 => .long
      | 2 => .object RX0
      | _ => .boolean)) && lkF i ix a b pos
    | .invokestatic ix => bif Nat.beq a 999 then decide (wsL_law[pos]? = some (.methodLink (mO i) ix arraycopyName) ∧ 1 ≤ mF i ∧ 26 ≤ mL i ∧ len = 3) else bif Nat.beq a 993 then maB i ix pos len Lib.Math.abs.name else bif Nat.beq a 994 then maB i ix pos len Lib.MathLoose.abs_long.x else bif Nat.beq a 996 then maB i ix pos len Lib.Math.min.name else caB i ix a b e f pos false && decide (len = 3)
    | .invokevirtual ix => caB i ix a b e f pos true && decide (len = 3)
    | .ireturn => decide (len = 1 ∧ ((d = 0 ∧ mR i = some .int) ∨ (d = 3 ∧ mR i = some .boolean)))
    | .lreturn => decide (len = 1 ∧ d = 1 ∧ mR i = some .long)
    | .return_ => decide (len = 1 ∧ d = 2 ∧ mR i = none)
    | _ => decide (len = 1))
/-! inversions of the small machine's steps -/
theorem op1i_inv {st : List AV} {F : Int32 → List AV → RE} {v : Option AV × SS} (h : op1i st F = some v) : ∃ x r, st = .inl x :: r ∧ F x r = some v := by
  unfold op1i at h
  split at h
  · exact ⟨_, _, rfl, h⟩
  · cases h
theorem op2i_inv {st : List AV} {F : Int32 → Int32 → List AV → RE} {v : Option AV × SS} (h : op2i st F = some v) : ∃ x y r, st = .inl y :: .inl x :: r ∧ F x y r = some v := by
  unfold op2i at h
  split at h
  · exact ⟨_, _, _, rfl, h⟩
  · cases h
theorem op1l_inv {st : List AV} {F : Int64 → List AV → RE} {v : Option AV × SS} (h : op1l st F = some v) : ∃ x r, st = .inr (.inl x) :: r ∧ F x r = some v := by
  unfold op1l at h
  split at h
  · exact ⟨_, _, rfl, h⟩
  · cases h
theorem op2l_inv {st : List AV} {F : Int64 → Int64 → List AV → RE} {v : Option AV × SS} (h : op2l st F = some v) : ∃ x y r, st = .inr (.inl y) :: .inr (.inl x) :: r ∧ F x y r = some v := by
  unfold op2l at h
  split at h
  · exact ⟨_, _, _, rfl, h⟩
  · cases h
theorem opli_inv {st : List AV} {F : Int64 → Int32 → List AV → RE} {v : Option AV × SS} (h : opli st F = some v) : ∃ x y r, st = .inl y :: .inr (.inl x) :: r ∧ F x y r = some v := by
  unfold opli at h
  split at h
  · exact ⟨_, _, _, rfl, h⟩
  · cases h
theorem op1r_inv {st : List AV} {F : Nat → Nat → List AV → RE} {v : Option AV × SS} (h : op1r st F = some v) : ∃ kd j r, st = .inr (.inr (kd, j)) :: r ∧ F kd j r = some v := by
  unfold op1r at h
  split at h
  · exact ⟨_, _, _, rfl, h⟩
  · cases h
theorem opix_inv {st : List AV} {F : Int32 → Nat → Nat → List AV → RE} {v : Option AV × SS} (h : opix st F = some v) : ∃ x kd j r, st = .inl x :: .inr (.inr (kd, j)) :: r ∧ F x kd j r = some v := by
  unfold opix at h
  split at h
  · exact ⟨_, _, _, _, rfl, h⟩
  · cases h
theorem bif_inv {c : Bool} {F : RE} {v : Option AV × SS} (h : (bif c then F else none) = some v) : c = true ∧ F = some v := by
  cases c
  · cases h
  · exact ⟨rfl, h⟩
theorem ixf_inv {c : Bool} {F : RE} {v : Option AV × SS} (h : (if c = true then F else none) = some v) : c = true ∧ F = some v := by
  cases c
  · cases h
  · exact ⟨rfl, h⟩
def tcd (w : AV) : Nat := match w with
  | .inl _ => 0
  | .inr (.inl _) => 1
  | .inr (.inr _) => 2
theorem ldx_inv {ls : LO} {k t : Nat} {F : AV → RE} {v : Option AV × SS} (h : ldx ls k t F = some v) : ∃ w, ls.getD k none = some w ∧ tcd w = t ∧ F w = some v := by
  unfold ldx at h
  split at h
  · rename_i x hx
    obtain ⟨h1, h2⟩ := bif_inv h
    exact ⟨_, hx, (Nat.eq_of_beq_eq_true h1).symm, h2⟩
  · rename_i x hx
    obtain ⟨h1, h2⟩ := bif_inv h
    exact ⟨_, hx, (Nat.eq_of_beq_eq_true h1).symm, h2⟩
  · rename_i x hx
    obtain ⟨h1, h2⟩ := bif_inv h
    exact ⟨_, hx, (Nat.eq_of_beq_eq_true h1).symm, h2⟩
  · cases h
def gval (s : SS) (d kd j k : Nat) : AV := match d with
  | 1 => .inr (.inl (s.2.1 kd j k))
  | 2 => .inr (.inr (rfa s kd j k))
  | _ => .inl (s.1 kd j k)
theorem getx_inv {s : SS} {d ci k kd j : Nat} {F : AV → RE} {v : Option AV × SS} (h : getx s d ci k kd j F = some v) : kcl kd = ci ∧ F (gval s d kd j k) = some v := by
  unfold getx at h
  obtain ⟨h1, h2⟩ := bif_inv h
  refine ⟨Nat.eq_of_beq_eq_true h1, ?_⟩
  split at h2
  · exact h2
  · exact h2
  · exact h2
  · rename_i n0 n1 n2
    unfold gval
    split
    · exact absurd rfl n1
    · exact absurd rfl n2
    · exact h2
theorem putx_inv {s : SS} {d ci k : Nat} {st : List AV} {F : List AV → SS → RE} {v : Option AV × SS} (h : putx s d ci k st F = some v) : ∃ r kd j, kcl kd = ci ∧ ((∃ x, st = .inl x :: .inr (.inr (kd, j)) :: r ∧ (d = 0 ∨ (d = 3 ∧ isZ x = true)) ∧ F r (wI s kd j k x) = some v) ∨ (∃ x, st = .inr (.inl x) :: .inr (.inr (kd, j)) :: r ∧ d = 1 ∧ F r (wL s kd j k x) = some v) ∨ ∃ jv, st = .inr (.inr (13, jv)) :: .inr (.inr (kd, j)) :: r ∧ kd = 0 ∧ k = 6 ∧ d = 2 ∧ F r (wR s 8 jv) = some v) := by
  unfold putx at h
  split at h
  · obtain ⟨h1, h2⟩ := bif_inv h
    refine ⟨_, _, _, Nat.eq_of_beq_eq_true h1, Or.inl ⟨_, rfl, ?_⟩⟩
    split at h2
    · exact ⟨Or.inl rfl, h2⟩
    · obtain ⟨h3, h4⟩ := bif_inv h2
      exact ⟨Or.inr ⟨rfl, h3⟩, h4⟩
    · cases h2
  · obtain ⟨h1, h2⟩ := bif_inv h
    simp only [Bool.and_eq_true] at h1
    exact ⟨_, _, _, Nat.eq_of_beq_eq_true h1.1, Or.inr (Or.inl ⟨_, rfl, Nat.eq_of_beq_eq_true h1.2, h2⟩)⟩
  · obtain ⟨h1, h2⟩ := bif_inv h
    simp only [Bool.and_eq_true] at h1
    obtain ⟨g1, g2, g3, g4, g5⟩ := h1
    have e := Nat.eq_of_beq_eq_true g4
    subst e
    exact ⟨_, _, _, Nat.eq_of_beq_eq_true g1, Or.inr (Or.inr ⟨_, rfl, Nat.eq_of_beq_eq_true g2, Nat.eq_of_beq_eq_true g3, Nat.eq_of_beq_eq_true g5, h2⟩)⟩
  · cases h
def swT (d : Nat) (x : Int32) (l : List (Int32 × Nat)) : Nat := match l with
  | [] => d
  | (v, t) :: r => if x = v then t else swT d x r
theorem swl_eq (F : Nat → RE) (d : Nat) (x : Int32) : ∀ l : List (Int32 × Nat), swl F d x l = F (swT d x l)
  | [] => rfl
  | (v, t) :: r => by
    unfold swl swT
    by_cases h : x = v
    · rw [if_pos h, if_pos h]
    · rw [if_neg h, if_neg h]
      exact swl_eq F d x r
theorem swT_in (d : Nat) (x : Int32) : ∀ l : List (Int32 × Nat), ((x, swT d x l) ∈ l) ∨ (swT d x l = d ∧ ∀ q ∈ l, q.1 ≠ x)
  | [] => Or.inr ⟨rfl, fun _ h => by cases h⟩
  | (v, t) :: r => by
    unfold swT
    by_cases h : x = v
    · rw [if_pos h, h]
      exact Or.inl List.mem_cons_self
    · rw [if_neg h]
      rcases swT_in d x r with g | ⟨g1, g2⟩
      · exact Or.inl (List.mem_cons_of_mem _ g)
      · refine Or.inr ⟨g1, fun q hq => ?_⟩
        rcases List.mem_cons.mp hq with e | e
        · rw [e]; exact fun z => h z.symm
        · exact g2 q e
theorem lk_off {pc a : Nat} {dflt : Int} (hd : (pc : Int) + dflt = (a : Int)) (x : Int32) : ∀ sw : List (Int32 × Nat), (pc : Int) + Op.lookupswitch.offset (sw.map (fun q => (q.1.toInt, (q.2 : Int) - (pc : Int)))) dflt x.toInt = (swT a x sw : Int)
  | [] => hd
  | (v, t) :: r => by
    unfold swT
    by_cases h : x = v
    · rw [if_pos h, List.map_cons, Op.lookupswitch.offset_cons, if_pos (by rw [h])]
      show (pc : Int) + ((t : Int) - (pc : Int)) = (t : Int)
      omega
    · rw [if_neg h, List.map_cons, lv_osw h rfl]
      exact lk_off hd x r
/-! tables of kinds -/
theorem getD_big {α : Type} {l : List α} {k : Nat} {d : α} (h : l.length ≤ k) : l.getD k d = d := by
  rw [List.getD_eq_getElem?_getD, List.getElem?_eq_none h]
  rfl
theorem kcl_lt {kd : Nat} (h : kcl kd < 5) : kd < 60 ∧ kar kd = 0 := by
  by_cases q : kd < 61
  · have key : ∀ k, k < 61 → kcl k < 5 → k < 60 ∧ kar k = 0 := by decide +kernel
    exact key kd q h
  · exfalso
    have e : kcl kd = 9 := getD_big (by show 61 ≤ kd; omega)
    omega
theorem kar_lt {kd : Nat} (h : kar kd ≠ 0) (h6 : kar kd ≠ 6) : kd < 60 := by
  by_cases q : kd < 61
  · have key : ∀ k, k < 61 → kar k ≠ 0 → kar k ≠ 6 → k < 60 := by decide +kernel
    exact key kd q h h6
  · exfalso
    exact h (getD_big (by show 61 ≤ kd; omega))
theorem kar_6 {kd : Nat} (h : kar kd = 6) : kd = 60 := by
  by_cases q : kd < 61
  · have key : ∀ k, k < 61 → kar k = 6 → k = 60 := by decide +kernel
    exact key kd q h
  · exfalso
    have e : kar kd = 0 := getD_big (by show 61 ≤ kd; omega)
    omega
theorem kar_4 {kd : Nat} (h : kar kd = 4) : kct (kd + 4) = kln kd := by
  have hk : kd < 60 := kar_lt (by omega) (by omega)
  have key : ∀ k, k < 60 → kar k = 4 → kct (k + 4) = kln k := by decide +kernel
  exact key kd hk h
theorem kar_5 {kd : Nat} (h : kar kd = 5) : kd = 10 ∧ kln kd = 8 := by
  have hk : kd < 60 := kar_lt (by omega) (by omega)
  have key : ∀ k, k < 60 → kar k = 5 → k = 10 ∧ kln k = 8 := by decide +kernel
  exact key kd hk h
theorem kct_1 {kd : Nat} (h : kcl kd < 5) {k : Nat} (hk : k < NF (kcl kd)) (hf : fldT (kcl kd) k = 2) (h0 : ¬ (kd = 0 ∧ k = 6)) : kct ((rfT kd).getD k 0) = kct kd := by
  have hd := (kcl_lt h).1
  have key : ∀ q, q < 60 → ∀ k, k < 37 → (kcl q < 5 ∧ k < NF (kcl q) ∧ fldT (kcl q) k = 2 ∧ ¬ (q = 0 ∧ k = 6)) → kct ((rfT q).getD k 0) = kct q := by decide +kernel
  have h37 : NF (kcl kd) ≤ 37 := by
    have : ∀ c, c < 5 → NF c ≤ 37 := by decide +kernel
    exact this _ h
  exact key kd hd k (by omega) ⟨h, hk, hf, h0⟩
theorem rfa_ok {xs : Nat → Int32} {L : Nat} {s : SS} (hR : okR xs L s) {kd j k : Nat} (h : kcl kd < 5) (hk : k < NF (kcl kd)) (hf : fldT (kcl kd) k = 2) (hj : j < kct kd) : okv (.inr (.inr (rfa s kd j k))) := by
  unfold rfa
  by_cases h0 : kd = 0 ∧ k = 6
  · obtain ⟨rfl, rfl⟩ := h0
    exact hR.1 8 (Nat.le_refl 8)
  · have e : (Nat.beq kd 0 && Nat.beq k 6) = false := by
      cases q : (Nat.beq kd 0 && Nat.beq k 6) with
      | false => rfl
      | true =>
        simp only [Bool.and_eq_true] at q
        exact absurd ⟨Nat.eq_of_beq_eq_true q.1, Nat.eq_of_beq_eq_true q.2⟩ h0
    rw [e]
    show j < kct ((rfT kd).getD k 0)
    rw [kct_1 h hk hf h0]
    exact hj
theorem ixB_in {x : Int32} {n : Nat} (h : ixB x n = true) : vp_in x n := by
  unfold ixB at h
  simp only [Bool.not_eq_true', Bool.or_eq_false_iff, decide_eq_false_iff_not] at h
  exact fun q => q.elim h.1 h.2
theorem ixB_lt {x : Int32} {n : Nat} (h : ixB x n = true) : x.toNatClampNeg < n := Nat.not_le.mp fun q => ixB_in h (Or.inr q)
theorem okI {x : Int32} {st : List AV} (h : okS st) : okS (.inl x :: st) := okS_cons.mpr ⟨trivial, h⟩
theorem okLg {x : Int64} {st : List AV} (h : okS st) : okS (.inr (.inl x) :: st) := okS_cons.mpr ⟨trivial, h⟩
theorem okT {v : AV} {st : List AV} (h : okS (v :: st)) : okS st := (okS_cons.mp h).2
theorem okH {v : AV} {st : List AV} (h : okS (v :: st)) : okv v := (okS_cons.mp h).1
theorem cell_obj (ad : Nat × Nat → Nat) (C : Cls) (s : SS) {kd j : Nat} (h : kcl kd < 5) : cellE ad C s (kd, j) = .inr (kcl kd, (List.range (NF (kcl kd))).map (fun k => rv ad (fvv s kd j k))) := by
  unfold cellE
  rw [show kar (kd, j).1 = 0 from (kcl_lt h).2]
  rfl
theorem cell_1 (ad : Nat × Nat → Nat) (C : Cls) (s : SS) {kd j : Nat} (h : kar kd = 1) : cellE ad C s (kd, j) = .inl (C.1, kln kd, .inl (s.1 kd j)) := by
  unfold cellE
  rw [show kar (kd, j).1 = _ from h]
  rfl
theorem cell_2 (ad : Nat × Nat → Nat) (C : Cls) (s : SS) {kd j : Nat} (h : kar kd = 2) : cellE ad C s (kd, j) = .inl (C.2.1, kln kd, .inr (.inl (s.2.1 kd j))) := by
  unfold cellE
  rw [show kar (kd, j).1 = _ from h]
  rfl
theorem cell_3 (ad : Nat × Nat → Nat) (C : Cls) (s : SS) {kd j : Nat} (h : kar kd = 3) : cellE ad C s (kd, j) = .inl (C.2.2.1, kln kd, .inl (s.1 kd j)) := by
  unfold cellE
  rw [show kar (kd, j).1 = _ from h]
  rfl
theorem cell_4 (ad : Nat × Nat → Nat) (C : Cls) (s : SS) {kd j : Nat} (h : kar kd = 4) : cellE ad C s (kd, j) = .inl (C.2.2.2.1, kln kd, .inr (.inr (.inr (.inr (fun i => if i < kln kd then some (ad (kd + 4, i)) else none))))) := by
  unfold cellE
  rw [show kar (kd, j).1 = _ from h]
  rfl
theorem cell_5 (ad : Nat × Nat → Nat) (C : Cls) (s : SS) {kd j : Nat} (h : kar kd = 5) : cellE ad C s (kd, j) = .inl (C.2.2.2.2, kln kd, .inr (.inr (.inr (.inr (fun i => if i < kln kd then some (ad (13, s.2.2 i)) else none))))) := by
  unfold cellE
  rw [show kar (kd, j).1 = _ from h]
  rfl
theorem cell_set (ad : Nat × Nat → Nat) (C : Cls) {s s1 : SS} {kd j k : Nat} {w : AV} (h : kcl kd < 5) (hw : ∀ q, q < NF (kcl kd) → fvv s1 kd j q = if q = k then w else fvv s kd j q) : cellE ad C s1 (kd, j) = .inr (kcl kd, ((List.range (NF (kcl kd))).map (fun q => rv ad (fvv s kd j q))).set k (rv ad w)) := by
  rw [cell_obj ad C s1 h, range_map_set]
  congr 2
  apply List.map_congr_left
  intro q hq
  rw [hw q (List.mem_range.mp hq)]
  split <;> rfl
theorem lkF_inv {i ix a b pos : Nat} (h : lkF i ix a b pos = true) : (nestW[pos - 10000]? = some (.fieldLinkNest (mO i) ix (TT a b).1 (TT a b).2.1 (TT a b).2.2.1 RX3)) ∨ (wsL_law[pos]? = some (.fieldLink (mO i) ix (TT a b).1 (TT a b).2.1 (TT a b).2.2.1)) := by
  unfold lkF at h
  split at h
  · exact Or.inl (decide_eq_true_iff.mp h)
  · exact Or.inr (decide_eq_true_iff.mp h)
theorem lkM_inv {i ix a pos : Nat} (h : lkM i ix a pos = true) : (10000 ≤ pos ∧ nestW[pos - 10000]? = some (.methodLinkNest (mO i) ix (mY a) RX3)) ∨ (wsL_law[pos]? = some (.methodLink (mO i) ix (mY a))) := by
  unfold lkM at h
  split at h
  · rename_i q
    exact Or.inl ⟨q, decide_eq_true_iff.mp h⟩
  · exact Or.inr (decide_eq_true_iff.mp h)
end
section
def RetK (i pc : Nat) (r : Option AV) : Prop := match r with
  | some (.inl x) => decode (mC i) pc = .ok (.ireturn, 1) ∧ (mR i = some .int ∨ (mR i = some .boolean ∧ isZ x = true))
  | some (.inr (.inl _)) => decode (mC i) pc = .ok (.lreturn, 1) ∧ mR i = some .long
  | some (.inr (.inr _)) => False
  | none => decode (mC i) pc = .ok (.return_, 1) ∧ mR i = none
def Fr (i : Nat) (p : Program) (R : Room) (s0 : State) (m : MethodId) (args : Array Value) (c : Code) (cells slots : Nat) : Prop := p.tables.exec = Jvm.exec ∧ c.code = mC i ∧ c.maxLocals = mX i ∧ s0.vm.findClass (mO i) = some m.cls ∧ (∀ w ∈ wsL_law, w.before args s0 = true) ∧ NN s0 ∧ mF i ≤ R.frames ∧ mL i ≤ R.locals ∧ cells ≤ R.cells ∧ slots ≤ R.slots
def Bg (ad : Nat × Nat → Nat) (C : Cls) (D : va_G) (xs : Nat → Int32) (L : Nat) (A : Nat → Prop) (s0 : State) (H0 : Heap) : Prop := AdK ad ∧ va_K D vwCl (tyG C) s0 ∧ (∀ a, a ∈ dom → A (ad a)) ∧ va_X (ad (60, 0)) L xs s0 H0 ∧ ad (60, 0) < H0.size ∧ ¬ A (ad (60, 0))
def Sound (ad : Nat × Nat → Nat) (C : Cls) (D : va_G) (xs : Nat → Int32) (L : Nat) (n : Nat) : Prop := ∀ (i pc : Nat) (lo : LO) (st : List AV) (s : SS) (r : Option AV) (s' : SS), run n i pc lo st s = some (r, s') → ∀ (p : Program) (l : Launch) (e : Env) (R : Room) (s0 : State) (m : MethodId) (args : Array Value) (below : List Frame) (meth : Method) (c : Code) (H : Heap) (locs : List Loc) (cells slots : Nat) (Q : State → Prop) (ls : Array Slot) (A : Nat → Prop) (H0 : Heap), Fr i p R s0 m args c cells slots → Bg ad C D xs L A s0 H0 → LRep ad ls (mX i) lo → okS st → Hp ad C D xs L s H → va_S A H0 H locs → (∀ (pc' : Nat) (ls' : Array Slot) (H' : Heap) (locs' : List Loc), RetK i pc' r → Hp ad C D xs L s' H' → va_S A H0 H' locs' → W p l e R s0 m args below meth c H' locs' cells slots Q (F0 m pc' ls' (r.toList.map (rv ad)))) → W p l e R s0 m args below meth c H locs cells slots Q (F0 m pc ls (st.map (rv ad)))
section SND
variable {p : Program} {l : Launch} {e : Env} {R : Room} {s0 : State} {m : MethodId} {args : Array Value} {below : List Frame} {meth : Method} {c : Code} {H : Heap} {locs : List Loc} {cells slots : Nat} {Q : State → Prop}
variable {pc i : Nat} {ls : Array Slot} {ad : Nat × Nat → Nat} {C : Cls} {D : va_G} {xs : Nat → Int32} {L : Nat} {A : Nat → Prop} {H0 : Heap} {s s1 : SS}
/-- a field is read -/
theorem sg_get {ix a b pos kd j : Nat} {rest : List Value} (F : Fr i p R s0 m args c cells slots) (B : Bg ad C D xs L A s0 H0) (hH : Hp ad C D xs L s H) (ha : a < 5) (hb5 : b < NF a) (hl : lkF i ix a b pos = true) (hk : kcl kd = a) (hj : j < kct kd) (hdg : decode (mC i) pc = .ok (.getfield ix, 3)) (kk : W p l e R s0 m args below meth c H locs cells slots Q (F0 m (pc + 3) ls (rv ad (fvv s kd j b) :: rest))) : W p l e R s0 m args below meth c H locs cells slots Q (F0 m pc ls (.ref (ad (kd, j)) :: rest)) := by
  subst hk
  obtain ⟨hx, hb, hml, hown, hts, hN, -⟩ := F
  obtain ⟨q, hq, he⟩ := wsG_at ad C s (a := (kd, j)) (mem_dom.mpr ⟨(kcl_lt ha).1, hj⟩)
  rw [cell_obj ad C s ha] at he
  rcases lkF_inv hl with hl' | hl'
  · exact va_getN hx hb hts (inT ha) hown B.2.1 hH.1 q he (clT ha) b hb5 (va_Nw.use rfl (hN _ (List.mem_of_getElem? hl'))) (fun _ h9 => h9) (range_map_at _ hb5) hdg kk
  · exact va_get hx hb hts (inT ha) hown B.2.1 hH.1 q he (clT ha) b hb5 (hts _ (List.mem_of_getElem? hl')) (fun _ h9 => h9) (range_map_at _ hb5) hdg kk
/-- a field is written -/
theorem sg_put {ix a b pos kd j : Nat} {rest : List Value} {w : AV} (F : Fr i p R s0 m args c cells slots) (B : Bg ad C D xs L A s0 H0) (hH : Hp ad C D xs L s H) (hS : va_S A H0 H locs) (ha : a < 5) (hb5 : b < NF a) (hl : lkF i ix a b pos = true) (hk : kcl kd = a) (hj : j < kct kd) (hfin : (TT a b).2.2.2 = false) (hn : narrow (tyT a b) (rv ad w) = rv ad w) (hfit : fits (tyT a b) (rv ad w) = true) (hw : ∀ q, q < NF (kcl kd) → fvv s1 kd j q = if q = b then w else fvv s kd j q) (ho : ∀ b, b ∈ dom → b ≠ (kd, j) → cellE ad C s1 b = cellE ad C s b) (hR : okR xs L s1) (hdg : decode (mC i) pc = .ok (.putfield ix, 3)) (kk : ∀ (H1 : Heap) (locs1 : List Loc), Hp ad C D xs L s1 H1 → va_S A H0 H1 locs1 → W p l e R s0 m args below meth c H1 locs1 cells slots Q (F0 m (pc + 3) ls rest)) : W p l e R s0 m args below meth c H locs cells slots Q (F0 m pc ls (rv ad w :: .ref (ad (kd, j)) :: rest)) := by
  subst hk
  obtain ⟨hx, hb, hml, hown, hts, hN, -⟩ := F
  obtain ⟨q, hq, he⟩ := wsG_at ad C s (a := (kd, j)) (mem_dom.mpr ⟨(kcl_lt ha).1, hj⟩)
  rw [cell_obj ad C s ha] at he
  have hset := wsG_set hq (cell_set ad C ha hw) ho
  have hD : va_D A (wsG ad C s) := wsG_D B.1 B.2.2.1
  rcases lkF_inv hl with hl' | hl'
  · refine va_putN hx hb hts (inT ha) (tyT (kcl kd)) (tyT_ok ha) (nmT ha) hown B.2.1 hH.1 hD hS q he (clT ha) b hb5 (va_Nw.use rfl (hN _ (List.mem_of_getElem? hl'))) (fun _ h9 => h9) hfin (tyT_ok ha b hb5) hn hfit (by rw [List.length_map, List.length_range]; exact hb5) hdg (fun H1 locs1 h1 h2 h3 => kk H1 locs1 ⟨?_, hR⟩ h3)
    rw [hset] at h1
    exact h1
  · refine va_put hx hb hts (inT ha) (tyT (kcl kd)) (tyT_ok ha) (nmT ha) hown B.2.1 hH.1 hD hS q he (clT ha) b hb5 (hts _ (List.mem_of_getElem? hl')) (fun _ h9 => h9) hfin (tyT_ok ha b hb5) hn hfit (by rw [List.length_map, List.length_range]; exact hb5) hdg (fun H1 locs1 h1 h2 h3 => kk H1 locs1 ⟨?_, hR⟩ h3)
    rw [hset] at h1
    exact h1
/-- arrays are read -/
theorem sg_ald1 {kd j : Nat} {x : Int32} {rest : List Value} (F : Fr i p R s0 m args c cells slots) (B : Bg ad C D xs L A s0 H0) (hH : Hp ad C D xs L s H) (hk : kar kd = 1) (hj : j < kct kd) (hi : ixB x (kln kd) = true) (hdg : decode (mC i) pc = .ok (.iaload, 1)) (kk : W p l e R s0 m args below meth c H locs cells slots Q (F0 m (pc + 1) ls (.int (s.1 kd j x.toNatClampNeg) :: rest))) : W p l e R s0 m args below meth c H locs cells slots Q (F0 m pc ls (.int x :: .ref (ad (kd, j)) :: rest)) := by
  obtain ⟨q, hq, he⟩ := wsG_at ad C s (a := (kd, j)) (mem_dom.mpr ⟨kar_lt (kd := kd) (by omega) (by omega), hj⟩)
  rw [cell_1 ad C s hk] at he
  exact va_iald F.1 F.2.1 B.2.1 hH.1 q 0 he rfl (ixB_in hi) hdg kk
theorem sg_ald6 {kd j : Nat} {x : Int32} {rest : List Value} (F : Fr i p R s0 m args c cells slots) (B : Bg ad C D xs L A s0 H0) (hH : Hp ad C D xs L s H) (hS : va_S A H0 H locs) (hk : kar kd = 6) (hj : j < kct kd) (hi : ixB x (s.1 60 1 0).toNatClampNeg = true) (hdg : decode (mC i) pc = .ok (.iaload, 1)) (kk : W p l e R s0 m args below meth c H locs cells slots Q (F0 m (pc + 1) ls (.int (s.1 kd j x.toNatClampNeg) :: rest))) : W p l e R s0 m args below meth c H locs cells slots Q (F0 m pc ls (.int x :: .ref (ad (kd, j)) :: rest)) := by
  have e := kar_6 hk
  subst e
  have ej : j = 0 := by
    have : kct 60 = 1 := rfl
    omega
  subst ej
  rw [hH.2.2.1] at kk
  rw [hH.2.2.2.2] at hi
  exact va_sld F.1 F.2.1 B.2.2.2.1 B.2.2.2.2.1 B.2.2.2.2.2 hS (ixB_in hi) hdg kk
theorem sg_ald2 {kd j : Nat} {x : Int32} {rest : List Value} (F : Fr i p R s0 m args c cells slots) (B : Bg ad C D xs L A s0 H0) (hH : Hp ad C D xs L s H) (hk : kar kd = 2) (hj : j < kct kd) (hi : ixB x (kln kd) = true) (hdg : decode (mC i) pc = .ok (.laload, 1)) (kk : W p l e R s0 m args below meth c H locs cells slots Q (F0 m (pc + 1) ls (.long (s.2.1 kd j x.toNatClampNeg) :: rest))) : W p l e R s0 m args below meth c H locs cells slots Q (F0 m pc ls (.int x :: .ref (ad (kd, j)) :: rest)) := by
  obtain ⟨q, hq, he⟩ := wsG_at ad C s (a := (kd, j)) (mem_dom.mpr ⟨kar_lt (kd := kd) (by omega) (by omega), hj⟩)
  rw [cell_2 ad C s hk] at he
  exact va_lald F.1 F.2.1 B.2.1 hH.1 q 1 he rfl (ixB_in hi) hdg kk
theorem sg_ald3 {kd j : Nat} {x : Int32} {rest : List Value} (F : Fr i p R s0 m args c cells slots) (B : Bg ad C D xs L A s0 H0) (hH : Hp ad C D xs L s H) (hk : kar kd = 3) (hj : j < kct kd) (hi : ixB x (kln kd) = true) (hdg : decode (mC i) pc = .ok (.baload, 1)) (kk : W p l e R s0 m args below meth c H locs cells slots Q (F0 m (pc + 1) ls (.int (s.1 kd j x.toNatClampNeg) :: rest))) : W p l e R s0 m args below meth c H locs cells slots Q (F0 m pc ls (.int x :: .ref (ad (kd, j)) :: rest)) := by
  obtain ⟨q, hq, he⟩ := wsG_at ad C s (a := (kd, j)) (mem_dom.mpr ⟨kar_lt (kd := kd) (by omega) (by omega), hj⟩)
  rw [cell_3 ad C s hk] at he
  exact va_zald F.1 F.2.1 B.2.1 hH.1 q 2 he rfl (ixB_in hi) hdg kk
theorem sg_ald4 {kd j : Nat} {x : Int32} {rest : List Value} (F : Fr i p R s0 m args c cells slots) (B : Bg ad C D xs L A s0 H0) (hH : Hp ad C D xs L s H) (hk : kar kd = 4) (hj : j < kct kd) (hi : ixB x (kln kd) = true) (hdg : decode (mC i) pc = .ok (.aaload, 1)) (kk : W p l e R s0 m args below meth c H locs cells slots Q (F0 m (pc + 1) ls (.ref (ad (kd + 4, x.toNatClampNeg)) :: rest))) : W p l e R s0 m args below meth c H locs cells slots Q (F0 m pc ls (.int x :: .ref (ad (kd, j)) :: rest)) := by
  obtain ⟨q, hq, he⟩ := wsG_at ad C s (a := (kd, j)) (mem_dom.mpr ⟨kar_lt (kd := kd) (by omega) (by omega), hj⟩)
  rw [cell_4 ad C s hk] at he
  have hlt := ixB_lt hi
  have ht : (tyG C)[3]? = some (C.2.2.2.1, .array .int) := rfl
  refine W.aald (v := .ref (ad (kd + 4, x.toNatClampNeg))) (ty := .array .int) F.1 F.2.1 (hH.1 q _ he) ((B.2.1.2 3 _ ht).1 (kln kd) (fun j => va_rf (if j < kln kd then some (ad (kd + 4, j)) else none))) rfl (fun q => by cases q) (by show ¬ (x < 0 ∨ (arrV _ _ _).slots.size ≤ _); rw [arrV_size]; exact ixB_in hi) ?_ rfl rfl hdg kk
  show (arrV _ _ _).slots[_]? = _
  rw [arrV_read _ _ hlt]
  show some (va_rf (if x.toNatClampNeg < kln kd then some (ad (kd + 4, x.toNatClampNeg)) else none)) = _
  rw [if_pos hlt]
  rfl
theorem sg_ald5 {kd j : Nat} {x : Int32} {rest : List Value} (F : Fr i p R s0 m args c cells slots) (B : Bg ad C D xs L A s0 H0) (hH : Hp ad C D xs L s H) (hk : kar kd = 5) (hj : j < kct kd) (hi : ixB x (kln kd) = true) (hdg : decode (mC i) pc = .ok (.aaload, 1)) (kk : W p l e R s0 m args below meth c H locs cells slots Q (F0 m (pc + 1) ls (.ref (ad (13, s.2.2 x.toNatClampNeg)) :: rest))) : W p l e R s0 m args below meth c H locs cells slots Q (F0 m pc ls (.int x :: .ref (ad (kd, j)) :: rest)) := by
  obtain ⟨q, hq, he⟩ := wsG_at ad C s (a := (kd, j)) (mem_dom.mpr ⟨kar_lt (kd := kd) (by omega) (by omega), hj⟩)
  rw [cell_5 ad C s hk] at he
  have hlt := ixB_lt hi
  refine va_aldq F.1 F.2.1 B.2.1 hH.1 q 4 he rfl (ixB_in hi) hdg ?_
  rw [if_pos hlt]
  exact kk
/-- arrays are written -/
theorem okR_wI {kd j k : Nat} {x : Int32} (h : okR xs L s) (hk : kd < 60) : okR xs L (wI s kd j k x) := by
  obtain ⟨h1, h2, h3, h4⟩ := h
  have e : ∀ b c, (wI s kd j k x).1 60 b c = s.1 60 b c := fun b c => by
    show (if 60 = kd ∧ b = j ∧ c = k then x else s.1 60 b c) = _
    rw [if_neg (fun z => by omega)]
  exact ⟨h1, fun c => by rw [e]; exact h2 c, by rw [e]; exact h3, by rw [e]; exact h4⟩
theorem okR_wA {kd j : Nat} {f : Nat → Int32} (h : okR xs L s) (hk : kd < 60) : okR xs L (wA s kd j f) := by
  obtain ⟨h1, h2, h3, h4⟩ := h
  have e : ∀ b c, (wA s kd j f).1 60 b c = s.1 60 b c := fun b c => by
    show (if 60 = kd ∧ b = j then f c else s.1 60 b c) = _
    rw [if_neg (fun z => by omega)]
  exact ⟨h1, fun c => by rw [e]; exact h2 c, by rw [e]; exact h3, by rw [e]; exact h4⟩
theorem okR_wR {k v : Nat} (h : okR xs L s) (hv : v < 9) : okR xs L (wR s k v) := by
  obtain ⟨h1, h2⟩ := h
  refine ⟨fun i hi => ?_, h2⟩
  show (if i = k then v else s.2.2 i) < 9
  split
  · exact hv
  · exact h1 i hi
theorem sg_ast1 {kd j : Nat} {x v : Int32} {rest : List Value} (F : Fr i p R s0 m args c cells slots) (B : Bg ad C D xs L A s0 H0) (hH : Hp ad C D xs L s H) (hS : va_S A H0 H locs) (hk : kar kd = 1) (hj : j < kct kd) (hi : ixB x (kln kd) = true) (hdg : decode (mC i) pc = .ok (.iastore, 1)) (kk : ∀ (H1 : Heap) (locs1 : List Loc), Hp ad C D xs L (wI s kd j x.toNatClampNeg v) H1 → va_S A H0 H1 locs1 → W p l e R s0 m args below meth c H1 locs1 cells slots Q (F0 m (pc + 1) ls rest)) : W p l e R s0 m args below meth c H locs cells slots Q (F0 m pc ls (.int v :: .int x :: .ref (ad (kd, j)) :: rest)) := by
  have hd := kar_lt (kd := kd) (by omega) (by omega)
  obtain ⟨q, hq, he⟩ := wsG_at ad C s (a := (kd, j)) (mem_dom.mpr ⟨hd, hj⟩)
  rw [cell_1 ad C s hk] at he
  have hD : va_D A (wsG ad C s) := wsG_D B.1 B.2.2.1
  refine va_iast F.1 F.2.1 B.2.1 hH.1 hD hS q 0 he rfl (ixB_in hi) hdg (fun H1 locs1 h1 h2 h3 => kk H1 locs1 ⟨?_, okR_wI hH.2 hd⟩ h3)
  rw [wsG_set hq (s' := wI s kd j x.toNatClampNeg v) (by
    rw [cell_1 ad C _ hk]
    congr 4
    funext z
    show (if kd = kd ∧ j = j ∧ z = x.toNatClampNeg then v else s.1 kd j z) = if z = x.toNatClampNeg then v else s.1 kd j z
    simp) (fun b _ hb => cellE_wI hb)] at h1
  exact h1
theorem sg_ast3 {kd j : Nat} {x v : Int32} {rest : List Value} (F : Fr i p R s0 m args c cells slots) (B : Bg ad C D xs L A s0 H0) (hH : Hp ad C D xs L s H) (hS : va_S A H0 H locs) (hk : kar kd = 3) (hj : j < kct kd) (hi : ixB x (kln kd) = true) (hdg : decode (mC i) pc = .ok (.bastore, 1)) (kk : ∀ (H1 : Heap) (locs1 : List Loc), Hp ad C D xs L (wI s kd j x.toNatClampNeg (v &&& 1)) H1 → va_S A H0 H1 locs1 → W p l e R s0 m args below meth c H1 locs1 cells slots Q (F0 m (pc + 1) ls rest)) : W p l e R s0 m args below meth c H locs cells slots Q (F0 m pc ls (.int v :: .int x :: .ref (ad (kd, j)) :: rest)) := by
  have hd := kar_lt (kd := kd) (by omega) (by omega)
  obtain ⟨q, hq, he⟩ := wsG_at ad C s (a := (kd, j)) (mem_dom.mpr ⟨hd, hj⟩)
  rw [cell_3 ad C s hk] at he
  have hD : va_D A (wsG ad C s) := wsG_D B.1 B.2.2.1
  refine va_zast F.1 F.2.1 B.2.1 hH.1 hD hS q 2 he rfl (ixB_in hi) hdg (fun H1 locs1 h1 h2 h3 => kk H1 locs1 ⟨?_, okR_wI hH.2 hd⟩ h3)
  rw [wsG_set hq (s' := wI s kd j x.toNatClampNeg (v &&& 1)) (by
    rw [cell_3 ad C _ hk]
    congr 4
    funext z
    show (if kd = kd ∧ j = j ∧ z = x.toNatClampNeg then v &&& 1 else s.1 kd j z) = if z = x.toNatClampNeg then vp_nar .boolean v else s.1 kd j z
    simp [vp_nar, narrow]) (fun b _ hb => cellE_wI hb)] at h1
  exact h1
theorem sg_ast2 {kd j : Nat} {x : Int32} {v : Int64} {rest : List Value} (F : Fr i p R s0 m args c cells slots) (B : Bg ad C D xs L A s0 H0) (hH : Hp ad C D xs L s H) (hS : va_S A H0 H locs) (hk : kar kd = 2) (hj : j < kct kd) (hi : ixB x (kln kd) = true) (hdg : decode (mC i) pc = .ok (.lastore, 1)) (kk : ∀ (H1 : Heap) (locs1 : List Loc), Hp ad C D xs L (wL s kd j x.toNatClampNeg v) H1 → va_S A H0 H1 locs1 → W p l e R s0 m args below meth c H1 locs1 cells slots Q (F0 m (pc + 1) ls rest)) : W p l e R s0 m args below meth c H locs cells slots Q (F0 m pc ls (.long v :: .int x :: .ref (ad (kd, j)) :: rest)) := by
  have hd := kar_lt (kd := kd) (by omega) (by omega)
  obtain ⟨q, hq, he⟩ := wsG_at ad C s (a := (kd, j)) (mem_dom.mpr ⟨hd, hj⟩)
  rw [cell_2 ad C s hk] at he
  have hD : va_D A (wsG ad C s) := wsG_D B.1 B.2.2.1
  refine va_last F.1 F.2.1 B.2.1 hH.1 hD hS q 1 he rfl (ixB_in hi) hdg (fun H1 locs1 h1 h2 h3 => kk H1 locs1 ⟨?_, hH.2⟩ h3)
  rw [wsG_set hq (s' := wL s kd j x.toNatClampNeg v) (by
    rw [cell_2 ad C _ hk]
    congr 5
    funext z
    show (if kd = kd ∧ j = j ∧ z = x.toNatClampNeg then v else s.2.1 kd j z) = if z = x.toNatClampNeg then v else s.2.1 kd j z
    simp) (fun b _ hb => cellE_wL hb)] at h1
  exact h1
theorem sg_ast5 {kd j jv : Nat} {x : Int32} {rest : List Value} (F : Fr i p R s0 m args c cells slots) (B : Bg ad C D xs L A s0 H0) (hH : Hp ad C D xs L s H) (hS : va_S A H0 H locs) (hk : kar kd = 5) (hj : j < kct kd) (hjv : jv < 9) (hi : ixB x (kln kd) = true) (hdg : decode (mC i) pc = .ok (.aastore, 1)) (kk : ∀ (H1 : Heap) (locs1 : List Loc), Hp ad C D xs L (wR s x.toNatClampNeg jv) H1 → va_S A H0 H1 locs1 → W p l e R s0 m args below meth c H1 locs1 cells slots Q (F0 m (pc + 1) ls rest)) : W p l e R s0 m args below meth c H locs cells slots Q (F0 m pc ls (.ref (ad (13, jv)) :: .int x :: .ref (ad (kd, j)) :: rest)) := by
  have hd := kar_lt (kd := kd) (by omega) (by omega)
  obtain ⟨q, hq, he⟩ := wsG_at ad C s (a := (kd, j)) (mem_dom.mpr ⟨hd, hj⟩)
  rw [cell_5 ad C s hk] at he
  obtain ⟨q2, hq2, he2⟩ := wsG_at ad C s (a := (13, jv)) (mem_dom.mpr ⟨show 13 < 60 by decide, hjv⟩)
  rw [cell_obj ad C s (kd := 13) (by decide)] at he2
  have hD : va_D A (wsG ad C s) := wsG_D B.1 B.2.2.1
  obtain ⟨e10, e8⟩ := kar_5 hk
  have hlt := ixB_lt hi
  refine va_astq F.1 F.2.1 B.2.1 hH.1 hD hS q 4 q2 0 (r := (RX0, TX0, 9)) he rfl he2 rfl (ixB_in hi) hdg (fun H1 locs1 h1 h2 h3 => kk H1 locs1 ⟨?_, okR_wR hH.2 hjv⟩ h3)
  rw [wsG_set hq (s' := wR s x.toNatClampNeg jv) (by
    rw [cell_5 ad C _ hk]
    congr 7
    funext z
    show (if z < kln kd then some (ad (13, if z = x.toNatClampNeg then jv else s.2.2 z)) else none) = if z = x.toNatClampNeg then some (ad (13, jv)) else if z < kln kd then some (ad (13, s.2.2 z)) else none
    by_cases hz : z = x.toNatClampNeg
    · rw [if_pos hz, if_pos hz, if_pos (by rw [hz]; exact hlt)]
    · rw [if_neg hz, if_neg hz]) (fun b hbd hb => cellE_wR (fun h8 => by rw [e8] at hlt; omega) (fun _ h5 => hb (by
        obtain ⟨kb, jb⟩ := b
        have h10 := (kar_5 h5).1
        have h10' : kb = 10 := h10
        subst h10'
        have h1 := (mem_dom.mp hbd).2
        have hc : kct 10 = 1 := rfl
        rw [e10] at hj ⊢
        have : jb = 0 := by
          have h1' : jb < kct 10 := h1
          omega
        have : j = 0 := by omega
        subst_vars
        rfl)) hbd)] at h1
  exact h1
/-- the lengths -/
theorem sg_aln {kd j : Nat} {rest : List Value} (F : Fr i p R s0 m args c cells slots) (B : Bg ad C D xs L A s0 H0) (hH : Hp ad C D xs L s H) (hk : kar kd ≠ 0) (hk6 : kar kd ≠ 6) (hj : j < kct kd) (hdg : decode (mC i) pc = .ok (.arraylength, 1)) (kk : W p l e R s0 m args below meth c H locs cells slots Q (F0 m (pc + 1) ls (.int (nI (kln kd)) :: rest))) : W p l e R s0 m args below meth c H locs cells slots Q (F0 m pc ls (.ref (ad (kd, j)) :: rest)) := by
  have hd := kar_lt (kd := kd) hk hk6
  obtain ⟨q, hq, he⟩ := wsG_at ad C s (a := (kd, j)) (mem_dom.mpr ⟨hd, hj⟩)
  have h6 : kar kd < 6 := by
    have key : ∀ k, k < 60 → kar k < 6 := by decide +kernel
    exact key kd hd
  rcases (show kar kd = 1 ∨ kar kd = 2 ∨ kar kd = 3 ∨ kar kd = 4 ∨ kar kd = 5 by omega) with h | h | h | h | h
  · rw [cell_1 ad C s h] at he
    exact va_alen F.1 F.2.1 B.2.1 hH.1 q 0 he (ty := .int) rfl rfl hdg kk
  · rw [cell_2 ad C s h] at he
    exact va_alen F.1 F.2.1 B.2.1 hH.1 q 1 he (ty := .long) rfl rfl hdg kk
  · rw [cell_3 ad C s h] at he
    exact va_alen F.1 F.2.1 B.2.1 hH.1 q 2 he (ty := .boolean) rfl rfl hdg kk
  · rw [cell_4 ad C s h] at he
    exact va_alen F.1 F.2.1 B.2.1 hH.1 q 3 he (ty := .array .int) rfl rfl hdg kk
  · rw [cell_5 ad C s h] at he
    exact va_alen F.1 F.2.1 B.2.1 hH.1 q 4 he (ty := .object RX0) rfl rfl hdg kk
/-- arraycopy -/
theorem sg_cpy {ix pos kd j kd0 j0 : Nat} {sp dp n : Int32} {rest : List AV} (F : Fr i p R s0 m args c cells slots) (B : Bg ad C D xs L A s0 H0) (hH : Hp ad C D xs L s H) (hS : va_S A H0 H locs) (hls : ls.size = mX i) (hk : kar kd = 1) (hj : j < kct kd) (hk0 : kar kd0 = 1) (hj0 : j0 < kct kd0) (hc : cats rest ≤ 8) (h1 : ¬ sp < 0) (h2 : ¬ dp < 0) (h3 : ¬ n < 0) (h4 : sp.toNatClampNeg + n.toNatClampNeg ≤ kln kd0) (h5 : dp.toNatClampNeg + n.toNatClampNeg ≤ kln kd) (hl : wsL_law[pos]? = some (.methodLink (mO i) ix arraycopyName)) (hf : 1 ≤ mF i ∧ 26 ≤ mL i) (hdg : decode (mC i) pc = .ok (.invokestatic ix, 3)) (kk : ∀ (H1 : Heap) (locs1 : List Loc), Hp ad C D xs L (wA s kd j (va_cpy (s.1 kd0 j0) (s.1 kd j) sp.toNatClampNeg dp.toNatClampNeg n.toNatClampNeg)) H1 → va_S A H0 H1 locs1 → W p l e R s0 m args below meth c H1 locs1 cells slots Q (F0 m (pc + 3) ls (rest.map (rv ad)))) : W p l e R s0 m args below meth c H locs cells slots Q (F0 m pc ls (.int n :: .int dp :: .ref (ad (kd, j)) :: .int sp :: .ref (ad (kd0, j0)) :: rest.map (rv ad))) := by
  have hd := kar_lt (kd := kd) (by omega) (by omega)
  have hd0 := kar_lt (kd := kd0) (by omega) (by omega)
  obtain ⟨q, hq, he⟩ := wsG_at ad C s (a := (kd, j)) (mem_dom.mpr ⟨hd, hj⟩)
  obtain ⟨q2, hq2, he2⟩ := wsG_at ad C s (a := (kd0, j0)) (mem_dom.mpr ⟨hd0, hj0⟩)
  rw [cell_1 ad C s hk] at he
  rw [cell_1 ad C s hk0] at he2
  have hD : va_D A (wsG ad C s) := wsG_D B.1 B.2.2.1
  obtain ⟨hx, hb, hml, hown, hts, hN, hF1, hF2, -⟩ := F
  have hcs : ∀ st : List AV, ((st.map (rv ad)).map fun v => v.category).sum = cats st := by
    intro st
    induction st with
    | nil => rfl
    | cons v r ih =>
      rw [List.map_cons, List.map_cons, List.sum_cons, ih, rv_cat]
      rfl
  refine va_copyi hx hb (hml.trans hls.symm) hown (hts _ (List.mem_of_getElem? hl)) (hts _ (List.mem_of_getElem? (i := 215) rfl)) (hts _ (List.mem_of_getElem? (i := 216) rfl)) (hts _ (List.mem_of_getElem? (i := 217) rfl)) B.2.1 hH.1 hD hS q2 q 0 0 (ty := .int) he2 he rfl rfl rfl h1 h2 h3 h4 h5 (fun _ _ => rfl) (by omega) (by rw [hcs]; have h7 : nativeFrameWords "java/lang/System" "arraycopy" 5 = 7 := (by decide +kernel); rw [h7]; omega) hdg (fun H1 locs1 g1 g2 g3 => kk H1 locs1 ⟨?_, okR_wA hH.2 hd⟩ g3)
  rw [wsG_set hq (s' := wA s kd j (va_cpy (s.1 kd0 j0) (s.1 kd j) sp.toNatClampNeg dp.toNatClampNeg n.toNatClampNeg)) (by
    rw [cell_1 ad C _ hk]
    congr 4
    funext z
    show (if kd = kd ∧ j = j then va_cpy (s.1 kd0 j0) (s.1 kd j) sp.toNatClampNeg dp.toNatClampNeg n.toNatClampNeg z else s.1 kd j z) = _
    rw [if_pos ⟨rfl, rfl⟩]) (fun b _ hb => cellE_wA hb)] at g1
  exact g1
end SND
end
section
def wsM (a : Nat) : List Cond := .code (mY a) (mC a) (mX a) (mR a) :: wsL_law
def rmM (a : Nat) : Room := { frames := mF a, cells := 0, slots := 0, locals := mL a }
def PcG (ad : Nat × Nat → Nat) (C : Cls) (D : va_G) (xs : Nat → Int32) (L : Nat) (as : List AV) (s : SS) : Array Value → State → Prop := fun v U => v = (as.map (rv ad)).toArray ∧ Hp ad C D xs L s U.heap ∧ va_K D vwCl (tyG C) U ∧ NN U ∧ va_X (ad (60, 0)) L xs U U.heap
def QcG (ad : Nat × Nat → Nat) (C : Cls) (D : va_G) (xs : Nat → Int32) (L : Nat) (r : Option AV) (s1 : SS) : Array Value → State → Outcome → State → Prop := fun _ st oc t => oc = .returned (r.map (rv ad)) ∧ Hp ad C D xs L s1 t.heap ∧ va_F (A0 ad) st t
theorem wsL_good : wsL_law.all goodWord = true := by decide +kernel
theorem good_wsM {a : Nat} (h : wsL_law[(mP a).1]? = some (.code (mY a) (mC a) (mX a) (mR a))) : GoodIn wsL_law (wsM a) := by
  intro w hw
  have hm : w ∈ wsL_law := by
    rcases List.mem_cons.mp hw with e | e
    · rw [e]; exact List.mem_of_getElem? h
    · exact e
  exact ⟨hm, good_of_word (List.all_eq_true.mp wsL_good w hm)⟩
theorem nest_form : ∀ w ∈ nestW, (∃ a i b n d h, w = Cond.fieldLinkNest a i b n d h) ∨ ∃ a i x h, w = Cond.methodLinkNest a i x h := by
  intro w hw
  unfold nestW at hw
  repeat (rcases List.mem_cons.mp hw with rfl | hw; first | exact Or.inl ⟨_, _, _, _, _, _, rfl⟩ | exact Or.inr ⟨_, _, _, _, rfl⟩)
  cases hw
theorem NN_warm {s U : State} (hW : s.WarmedH U.vm) (h : NN s) : NN U := by
  intro w hw
  have hz := h w hw
  rcases nest_form w hw with ⟨a, i, b, n, d, q, rfl⟩ | ⟨a, i, x, q, rfl⟩
  · exact va_Nw.warmF hW hz
  · exact va_Nw.warmM hW hz
theorem NN_same {s U : State} (hv : s.vm = U.vm) (h : NN s) : NN U := by
  intro w hw
  have hz := h w hw
  rcases nest_form w hw with ⟨a, i, b, n, d, q, rfl⟩ | ⟨a, i, x, q, rfl⟩
  · exact va_Nw.same rfl hv hz
  · exact va_Nw.same rfl hv hz
theorem PcG_blind (ad : Nat × Nat → Nat) (C : Cls) (D : va_G) (xs : Nat → Int32) (L : Nat) (as : List AV) (s : SS) : FrameBlind (PcG ad C D xs L as s) := by
  intro a U g mk q
  obtain ⟨q0, q1, q2, q3, q4⟩ := q
  exact ⟨q0, q1, va_K.moved (u := U) (U := U.calling g mk a) (Vm.Alike.refl U.vm) q2, NN_same (s := U) (U := U.calling g mk a) rfl q3, va_X.moved (u := U) (U := U.calling g mk a) (Vm.Alike.refl U.vm) q4⟩
theorem okM_spec {a : Nat} (h : okM a = true) : wsL_law[(mP a).1]? = some (.code (mY a) (mC a) (mX a) (mR a)) ∧ wsL_law[(mP a).2.1]? = some (.initialized (mY a).cls) ∧ (mY a).cls ≠ "java/lang/invoke/MethodHandle" ∧ (mY a).cls ≠ "java/lang/invoke/VarHandle" ∧ (parseMethodDescriptor (mY a).desc).map (fun d => d.parameters.length) = some (mN a) ∧ plainName (mY a).cls = true ∧ (mY a).cls = mO a ∧ ((mP a).2.2.2 = 9999 → wsL_law[(mP a).2.2.1]? = some (.static (mY a))) ∧ ((mP a).2.2.2 ≠ 9999 → wsL_law[(mP a).2.2.1]? = some (.instanceMethod (mY a)) ∧ wsL_law[(mP a).2.2.2]? = some (.selects (mY a).cls (mY a) (mY a))) := by
  unfold okM at h
  simp only [Bool.and_eq_true, decide_eq_true_eq] at h
  obtain ⟨h1, h2, h3, h4, h5, h6, h7, h8⟩ := h
  refine ⟨h1, h2, h3, h4, h5, h6, h7, fun q => ?_, fun q => ?_⟩
  · have e : Nat.beq (mP a).2.2.2 9999 = true := by rw [q]; rfl
    rw [e] at h8
    exact of_decide_eq_true h8
  · have e : Nat.beq (mP a).2.2.2 9999 = false := by
      cases z : Nat.beq (mP a).2.2.2 9999 with
      | false => rfl
      | true => exact absurd (Nat.eq_of_beq_eq_true z) q
    rw [e] at h8
    simp only [cond_false, Bool.and_eq_true, decide_eq_true_eq] at h8
    exact h8
section SNC
variable {p : Program} {l : Launch} {e : Env} {R : Room} {s0 : State} {m : MethodId} {args : Array Value} {below : List Frame} {meth : Method} {c : Code} {H : Heap} {locs : List Loc} {cells slots : Nat} {Q : State → Prop}
variable {pc i : Nat} {ls : Array Slot} {ad : Nat × Nat → Nat} {C : Cls} {D : va_G} {xs : Nat → Int32} {L : Nat} {A : Nat → Prop} {H0 : Heap} {s s1 : SS}
theorem isZ_nar {x : Int32} (h : isZ x = true) : narrow .boolean (.int x) = .int x := by
  unfold isZ at h
  simp only [Bool.or_eq_true, decide_eq_true_eq] at h
  rcases h with rfl | rfl <;> decide +kernel
theorem met_of {n : Nat} (l : Launch) (ih : Sound ad C D xs L n) (hA : AdK ad) {a : Nat} (hM : okM a = true) {as : List AV} {r : Option AV} (h : run n a 0 (entL as (mX a)) [] s = some (r, s1)) (ho : okS as) (hlen : (entA as).length ≤ mX a) : Met l (mY a) (wsM a) (rmM a) (PcG ad C D xs L as s) (QcG ad C D xs L r s1) 0 0 (A0 ad) := by
  obtain ⟨m1, m2, m3, m4, m5, m6, m7, m8, m9⟩ := okM_spec hM
  refine Met.ofW (cc := mC a) (maxL := mX a) (ret := mR a) m6 rfl ?_
  intro p e s0 m args below meth c s₁ B hml hv
  obtain ⟨rfl, hH, hK, hN, hX⟩ := hv
  have hx := B.exec
  have hb := B.bytes
  have hr := B.returns
  have hts := atoms_spec (ws := wsM a) B.pre
  have hown : s0.vm.findClass (mO a) = some m.cls := by rw [← m7]; exact findClass_of_methodNamed B.named
  have hlocks := B.notSynchronized
  have hbl : ad (60, 0) < s0.heap.size := by
    obtain ⟨scr, h1, -⟩ := hX
    exact (Array.getElem?_eq_some_iff.mp h1).1
  have hbA : ¬ A0 ad (ad (60, 0)) := by
    rintro ⟨q, hq1, hq2⟩
    exact hA.2 q hq1 hq2.symm
  rw [lg_entry_eq]
  refine ih a 0 (entL as (mX a)) [] s r s1 h p l e _ s0 m _ below meth c s0.heap [] 0 0 _ _ (A0 ad) s0.heap ⟨hx, hb, hml, hown, fun w hw => hts w (List.mem_cons_of_mem _ hw), hN, Nat.le_refl _, Nat.le_refl _, Nat.zero_le _, Nat.zero_le _⟩ ⟨hA, hK, fun q hq => ⟨q, hq, rfl⟩, hX, hbl, hbA⟩ (LRep_entry ad ho hlen) (fun _ hv => by cases hv) hH va_S.rf ?_
  intro pc' ls' H' locs' hret hH' hS'
  match r, hret with
  | some (.inl x), hret =>
    obtain ⟨hd, hty⟩ := hret
    rcases hty with h1 | ⟨h1, hz⟩
    · exact W.iret (v := x) hx hb (hr.trans h1) (fun t ht hW => ⟨rfl, by rw [ht]; exact hH', hS'.F ht⟩) hS'.2.2 hd
    · exact W.zret (v := x) hx hb (hr.trans h1) (isZ_nar hz) (fun t ht hW => ⟨rfl, by rw [ht]; exact hH', hS'.F ht⟩) hS'.2.2 hd
  | some (.inr (.inl x)), hret =>
    obtain ⟨hd, hty⟩ := hret
    exact W.lret (v := x) hx hb (hr.trans hty) (fun t ht hW => ⟨rfl, by rw [ht]; exact hH', hS'.F ht⟩) hS'.2.2 hd
  | some (.inr (.inr x)), hret => exact hret.elim
  | none, hret =>
    obtain ⟨hd, hty⟩ := hret
    exact W.vret hx hb (hr.trans hty) (fun t ht hW => ⟨rfl, by rw [ht]; exact hH', hS'.F ht⟩) hS'.2.2 hd
theorem callG {st0 rest : List Value} {av : Array Value} {r : Option AV} (B : Bg ad C D xs L A s0 H0) (hr : va_Run p l e R s0 m args below meth c H locs cells slots 0 0 (F0 m pc ls st0) rest (QcG ad C D xs L r s1 av) (A0 ad)) (hS : va_S A H0 H locs)
    (kk : ∀ (H1 : Heap) (locs1 : List Loc), Hp ad C D xs L s1 H1 → va_S A H0 H1 locs1 → W p l e R s0 m args below meth c H1 locs1 cells slots Q (F0 m (pc + 3) ls ((r.map (rv ad)).toList ++ rest))) : W p l e R s0 m args below meth c H locs cells slots Q (F0 m pc ls st0) := by
  have hA : ∀ q, A0 ad q → A q := fun q hq => by
    obtain ⟨a, h1, h2⟩ := hq
    rw [h2]
    exact B.2.2.1 a h1
  intro T hT X
  obtain ⟨v, st₀, t, T', Lc, h0, X', hL, e1, e2, ⟨hv, hp, hz, hk⟩, st⟩ := hr T hT X
  cases hv
  rw [h0] at hz hk
  obtain ⟨t2, a1, b1⟩ := kk T'.heap (locs ++ Lc) (by rw [e1]; exact hp)
    ⟨Nat.le_trans hS.1 (by rw [e1]; exact hz), fun q h1 h2 => by rw [e1, hk q (Nat.lt_of_lt_of_le h1 hS.1) (fun z => h2 (hA q z))]; exact hS.2.1 q h1 h2, fun q hq => by
      rcases List.mem_append.mp hq with h | h
      · exact hS.2.2 q h
      · exact hA _ (hL q h)⟩ T' rfl X'
  exact ⟨t2, st t2 a1, b1⟩
theorem cats_rv (ad : Nat × Nat → Nat) : ∀ st : List AV, ((st.map (rv ad)).map fun v => v.category).sum = cats st
  | [] => rfl
  | v :: r => by
    rw [List.map_cons, List.map_cons, List.sum_cons, cats_rv ad r, rv_cat]
    rfl
theorem pre_at (B : Bg ad C D xs L A s0 H0) (hN : NN s0) (hH : Hp ad C D xs L s H) (hS : va_S A H0 H locs) {as : List AV} : ∀ U : State, U.heap = H → s0.WarmedH U.vm → PcG ad C D xs L as s (as.map (rv ad)).toArray U := by
  intro U hU hW
  refine ⟨rfl, by rw [hU]; exact hH, va_K.moved hW.alike B.2.1, NN_warm hW hN, ?_⟩
  rw [hU]
  exact va_X.moved hW.alike (B.2.2.2.1.kept (hS.2.1 _ B.2.2.2.2.1 B.2.2.2.2.2))
theorem sg_callS {n ix a b ee f pos : Nat} {as rest : List AV} {r : Option AV} (ih : Sound ad C D xs L n) (F : Fr i p R s0 m args c cells slots) (B : Bg ad C D xs L A s0 H0) (hH : Hp ad C D xs L s H) (hS : va_S A H0 H locs) (hls : ls.size = mX i) (hM : okM a = true) (hc : caB i ix a b ee f pos false = true) (hn : as.length = b) (ho : okS as) (hlen : (entA as).length ≤ ee) (hcr : cats rest ≤ 8) (h : run n a 0 (entL as ee) [] s = some (r, s1)) (hdg : decode (mC i) pc = .ok (.invokestatic ix, 3))
    (kk : ∀ (H1 : Heap) (locs1 : List Loc), Hp ad C D xs L s1 H1 → va_S A H0 H1 locs1 → W p l e R s0 m args below meth c H1 locs1 cells slots Q (F0 m (pc + 3) ls ((r.toList ++ rest).map (rv ad)))) : W p l e R s0 m args below meth c H locs cells slots Q (F0 m pc ls ((as.reverse ++ rest).map (rv ad))) := by
  unfold caB at hc
  simp only [Bool.and_eq_true, decide_eq_true_eq, cond_false] at hc
  obtain ⟨⟨c1, rfl, c3, c4⟩, c5, c6, c7⟩ := hc
  obtain ⟨m1, m2, m3, m4, m5, m6, m7, m8, m9⟩ := okM_spec hM
  obtain ⟨hx, hb, hml, hown, hts, hN, hF1, hF2, hcl, hsl⟩ := F
  have hG := good_wsM m1
  have hMet := met_of l ih B.1 hM h ho hlen
  have hini := hts _ (List.mem_of_getElem? m2)
  have hsta := hts _ (List.mem_of_getElem? (m8 c7))
  have hR : (rmM a).frames + 1 ≤ R.frames ∧ 8 + (mX a + 11) + (rmM a).locals ≤ R.locals := ⟨Nat.le_trans c3 hF1, Nat.le_trans c4 hF2⟩
  have hst : (as.reverse ++ rest).map (rv ad) = (as.map (rv ad)).reverse ++ rest.map (rv ad) := by rw [List.map_append, List.map_reverse]
  have hrr : ∀ H1 locs1, Hp ad C D xs L s1 H1 → va_S A H0 H1 locs1 → W p l e R s0 m args below meth c H1 locs1 cells slots Q (F0 m (pc + 3) ls ((r.map (rv ad)).toList ++ rest.map (rv ad))) := by
    intro H1 locs1 g1 g2
    have := kk H1 locs1 g1 g2
    rw [List.map_append] at this
    cases r <;> exact this
  rw [hst]
  rcases lkM_inv c5 with ⟨-, hl'⟩ | hl'
  · exact callG B (va_runSN (As := as.map (rv ad)) (rest := rest.map (rv ad)) ⟨hx, hb, hml, hown, hts⟩ hMet ⟨va_cnB (mN a) hts hG rfl rfl rfl (hN _ (List.mem_of_getElem? hl')) hini ⟨m3, m4, m5⟩ hR, hsta, trivial⟩ ⟨PcG_blind ad C D xs L as s, pre_at B hN hH hS⟩ rfl (by rw [List.length_map]; omega) hls rfl (lv_room (by rw [cats_rv]; exact hcr)) hdg ⟨hcl, hsl⟩) hS hrr
  · exact callG B (va_runS (As := as.map (rv ad)) (rest := rest.map (rv ad)) ⟨hx, hb, hml, hown, hts⟩ hMet ⟨callB_of (mN a) hts hG rfl rfl rfl hini (hts _ (List.mem_of_getElem? hl')) ⟨m3, m4, m5⟩ hR, hsta⟩ ⟨PcG_blind ad C D xs L as s, pre_at B hN hH hS⟩ rfl (by rw [List.length_map]; omega) hls rfl (lv_room (by rw [cats_rv]; exact hcr)) hdg ⟨hcl, hsl⟩) hS hrr
theorem sg_callV {n ix a b ee f pos kd j : Nat} {as rest : List AV} {r : Option AV} (ih : Sound ad C D xs L n) (F : Fr i p R s0 m args c cells slots) (B : Bg ad C D xs L A s0 H0) (hH : Hp ad C D xs L s H) (hS : va_S A H0 H locs) (hls : ls.size = mX i) (hM : okM a = true) (hc : caB i ix a b ee f pos true = true) (hn : as.length + 1 = b) (hk : kcl kd = f) (ho : okS (.inr (.inr (kd, j)) :: as)) (hlen : (entA (.inr (.inr (kd, j)) :: as)).length ≤ ee) (hcr : cats rest ≤ 8) (h : run n a 0 (entL (.inr (.inr (kd, j)) :: as) ee) [] s = some (r, s1)) (hdg : decode (mC i) pc = .ok (.invokevirtual ix, 3))
    (kk : ∀ (H1 : Heap) (locs1 : List Loc), Hp ad C D xs L s1 H1 → va_S A H0 H1 locs1 → W p l e R s0 m args below meth c H1 locs1 cells slots Q (F0 m (pc + 3) ls ((r.toList ++ rest).map (rv ad)))) : W p l e R s0 m args below meth c H locs cells slots Q (F0 m pc ls ((as.reverse ++ .inr (.inr (kd, j)) :: rest).map (rv ad))) := by
  unfold caB at hc
  simp only [Bool.and_eq_true, decide_eq_true_eq, cond_true] at hc
  obtain ⟨⟨c1, rfl, c3, c4⟩, c5, c6, c7, c8, c9, c10⟩ := hc
  obtain ⟨m1, m2, m3, m4, m5, m6, m7, m8, m9⟩ := okM_spec hM
  obtain ⟨hx, hb, hml, hown, hts, hN, hF1, hF2, hcl, hsl⟩ := F
  subst hk
  have hG := good_wsM m1
  have hMet := met_of l ih B.1 hM h ho hlen
  have hini := hts _ (List.mem_of_getElem? m2)
  have hins := hts _ (List.mem_of_getElem? (m9 c9).1)
  have hsel := hts _ (List.mem_of_getElem? (m9 c9).2)
  have hR : (rmM a).frames + 1 ≤ R.frames ∧ 8 + (mX a + 11) + (rmM a).locals ≤ R.locals := ⟨Nat.le_trans c3 hF1, Nat.le_trans c4 hF2⟩
  have hst : (as.reverse ++ .inr (.inr (kd, j)) :: rest).map (rv ad) = (as.map (rv ad)).reverse ++ .ref (ad (kd, j)) :: rest.map (rv ad) := by
    rw [List.map_append, List.map_reverse]
    rfl
  have hrr : ∀ H1 locs1, Hp ad C D xs L s1 H1 → va_S A H0 H1 locs1 → W p l e R s0 m args below meth c H1 locs1 cells slots Q (F0 m (pc + 3) ls ((r.map (rv ad)).toList ++ rest.map (rv ad))) := by
    intro H1 locs1 g1 g2
    have := kk H1 locs1 g1 g2
    rw [List.map_append] at this
    cases r <;> exact this
  rw [hst]
  have hl' : wsL_law[pos]? = some (.methodLink (mO i) ix (mY a)) := by
    rcases lkM_inv c5 with ⟨g, -⟩ | g
    · exact absurd g (by omega)
    · exact g
  obtain ⟨q, hq, he⟩ := wsG_at ad C s (a := (kd, j)) (mem_dom.mpr ⟨(kcl_lt c7).1, okH ho⟩)
  rw [cell_obj ad C s c7] at he
  rw [c8] at hsel
  exact callG B (va_runV (As := as.map (rv ad)) (rest := rest.map (rv ad)) (b := ad (kd, j)) (C := RR (kcl kd)) ⟨hx, hb, hml, hown, hts⟩ hMet ⟨callB_of (mN a) hts hG rfl rfl rfl hini (hts _ (List.mem_of_getElem? hl')) ⟨m3, m4, m5⟩ hR, hins, hsel⟩ ⟨PcG_blind ad C D xs L (.inr (.inr (kd, j)) :: as) s, va_recv B.2.1 hH.1 (clT c7) he, pre_at (as := .inr (.inr (kd, j)) :: as) B hN hH hS⟩ rfl (by rw [List.length_map]; omega) hls rfl (lv_room (by rw [cats_rv]; exact hcr)) hdg ⟨hcl, hsl⟩) hS hrr
end SNC
end
section
theorem callx_inv {C : RF} {a nb rc mx : Nat} {as rest : List AV} {s : SS} {F : List AV → SS → RE} {v : Option AV × SS} (h : callx C a nb rc mx as rest s F = some v) : cats rest ≤ 8 ∧ (entA as).length ≤ mx ∧ as.length = nb ∧ ∃ r s1, C a 0 (entL as mx) [] s = some (r, s1) ∧ F (r.toList ++ rest) s1 = some v ∧ okS r.toList := by
  unfold callx at h
  obtain ⟨h1, h2⟩ := bif_inv h
  simp only [Bool.and_eq_true] at h1
  refine ⟨Nat.le_of_ble_eq_true h1.1, Nat.le_of_ble_eq_true h1.2.1, Nat.eq_of_beq_eq_true h1.2.2, ?_⟩
  split at h2
  · obtain ⟨s1, g1, g2⟩ := cV_inv h2
    exact ⟨none, s1, g1, g2, fun _ hv => by cases hv⟩
  · obtain ⟨x, s1, g1, g2⟩ := cI_inv h2
    exact ⟨some (.inl x), s1, g1, g2, okI (fun _ hv => by cases hv)⟩
  · obtain ⟨x, s1, g1, g2⟩ := cL_inv h2
    exact ⟨some (.inr (.inl x)), s1, g1, g2, okLg (fun _ hv => by cases hv)⟩
theorem copyx_inv {st : List AV} {s : SS} {F : List AV → SS → RE} {v : Option AV × SS} (h : copyx st s F = some v) : ∃ n dp kd j sp kd0 j0 r, st = .inl n :: .inl dp :: .inr (.inr (kd, j)) :: .inl sp :: .inr (.inr (kd0, j0)) :: r ∧ kar kd = 1 ∧ kar kd0 = 1 ∧ cats r ≤ 8 ∧ (¬ sp < 0 ∧ ¬ dp < 0 ∧ ¬ n < 0 ∧ sp.toNatClampNeg + n.toNatClampNeg ≤ kln kd0 ∧ dp.toNatClampNeg + n.toNatClampNeg ≤ kln kd) ∧ F r (wA s kd j (va_cpy (s.1 kd0 j0) (s.1 kd j) sp.toNatClampNeg dp.toNatClampNeg n.toNatClampNeg)) = some v := by
  unfold copyx at h
  split at h
  · obtain ⟨h1, h2⟩ := bif_inv h
    simp only [Bool.and_eq_true] at h1
    split at h2
    · rename_i q
      exact ⟨_, _, _, _, _, _, _, _, rfl, Nat.eq_of_beq_eq_true h1.1, Nat.eq_of_beq_eq_true h1.2.1, Nat.le_of_ble_eq_true h1.2.2, q, h2⟩
    · cases h2
  · cases h
theorem recvx_inv {as : List AV} {f : Nat} (h : recvx as f = true) : ∃ kd j r, as = .inr (.inr (kd, j)) :: r ∧ kcl kd = f := by
  unfold recvx at h
  split at h
  · exact ⟨_, _, _, rfl, Nat.eq_of_beq_eq_true h⟩
  · cases h
def rtd (r : Option AV) (d : Nat) : Prop := match r with
  | some (.inl x) => d = 0 ∨ (d = 3 ∧ isZ x = true)
  | some (.inr (.inl _)) => d = 1
  | some (.inr (.inr _)) => False
  | none => d = 2
theorem retx_inv {st : List AV} {d : Nat} {s : SS} {r : Option AV} {s' : SS} (h : retx st d s = some (r, s')) : s' = s ∧ st = r.toList ∧ rtd r d := by
  unfold retx at h
  split at h
  · rename_i x
    cases hb : Nat.beq d 0 with
    | true =>
      rw [hb] at h
      cases h
      exact ⟨rfl, rfl, Or.inl (Nat.eq_of_beq_eq_true hb)⟩
    | false =>
      rw [hb] at h
      obtain ⟨h1, h2⟩ := bif_inv h
      obtain ⟨h3, h4⟩ := bif_inv h2
      cases h4
      exact ⟨rfl, rfl, Or.inr ⟨Nat.eq_of_beq_eq_true h1, h3⟩⟩
  · obtain ⟨h1, h2⟩ := bif_inv h
    cases h2
    exact ⟨rfl, rfl, Nat.eq_of_beq_eq_true h1⟩
  · obtain ⟨h1, h2⟩ := bif_inv h
    cases h2
    exact ⟨rfl, rfl, Nat.eq_of_beq_eq_true h1⟩
  · cases h
theorem dupx_inv {st : List AV} {F : List AV → RE} {v : Option AV × SS} (h : dupx st F = some v) : ∃ x r, st = x :: r ∧ cat x = 1 ∧ F (x :: x :: r) = some v := by
  unfold dupx at h
  split at h
  · exact ⟨_, _, rfl, rfl, h⟩
  · exact ⟨_, _, rfl, rfl, h⟩
  · cases h
theorem popx_inv {st : List AV} {F : List AV → RE} {v : Option AV × SS} (h : popx st F = some v) : ∃ x r, st = x :: r ∧ cat x = 1 ∧ F r = some v := by
  unfold popx at h
  split at h
  · exact ⟨_, _, rfl, rfl, h⟩
  · exact ⟨_, _, rfl, rfl, h⟩
  · cases h
theorem dup2x_inv {st : List AV} {F : List AV → RE} {v : Option AV × SS} (h : dup2x st F = some v) : (∃ x y r, st = x :: y :: r ∧ cat x = 1 ∧ cat y = 1 ∧ F (x :: y :: x :: y :: r) = some v) ∨ ∃ x r, st = x :: r ∧ cat x = 2 ∧ F (x :: x :: r) = some v := by
  unfold dup2x at h
  split at h
  · exact Or.inl ⟨_, _, _, rfl, rfl, rfl, h⟩
  · exact Or.inl ⟨_, _, _, rfl, rfl, rfl, h⟩
  · exact Or.inr ⟨_, _, rfl, rfl, h⟩
  · cases h
theorem fvv_own_I {s : SS} {kd j b : Nat} {x : Int32} (hf : fldT (kcl kd) b = 0 ∨ fldT (kcl kd) b = 3) : ∀ q, q < NF (kcl kd) → fvv (wI s kd j b x) kd j q = if q = b then .inl x else fvv s kd j q := by
  intro q _
  by_cases h : q = b
  · subst h
    rw [if_pos rfl]
    unfold fvv
    rcases hf with hf | hf <;> rw [hf] <;> show Sum.inl (if kd = kd ∧ j = j ∧ q = q then x else s.1 kd j q) = _ <;> rw [if_pos ⟨rfl, rfl, rfl⟩]
  · rw [if_neg h, fvv_wI (fun z => h z.2.2)]
theorem fvv_own_L {s : SS} {kd j b : Nat} {x : Int64} (hf : fldT (kcl kd) b = 1) : ∀ q, q < NF (kcl kd) → fvv (wL s kd j b x) kd j q = if q = b then .inr (.inl x) else fvv s kd j q := by
  intro q _
  by_cases h : q = b
  · subst h
    rw [if_pos rfl]
    unfold fvv
    rw [hf]
    show Sum.inr (Sum.inl (if kd = kd ∧ j = j ∧ q = q then x else s.2.1 kd j q)) = _
    rw [if_pos ⟨rfl, rfl, rfl⟩]
  · rw [if_neg h, fvv_wL (fun z => h z.2.2)]
theorem fvv_own_R {s : SS} {j jv : Nat} : ∀ q, q < NF (kcl 0) → fvv (wR s 8 jv) 0 j q = if q = 6 then .inr (.inr (13, jv)) else fvv s 0 j q := by
  intro q _
  by_cases h : q = 6
  · subst h
    rfl
  · rw [if_neg h]
    unfold fvv
    split
    · rfl
    · rw [rfa_wR (fun z => h z.2.1)]
    · rfl
theorem gval_fvv {s : SS} {d kd j k : Nat} (h : d = fldT (kcl kd) k) : gval s d kd j k = fvv s kd j k := by
  subst h
  rfl
theorem gval_ok {xs : Nat → Int32} {L : Nat} {s : SS} (hR : okR xs L s) {kd j k : Nat} (h : kcl kd < 5) (hk : k < NF (kcl kd)) (hj : j < kct kd) : okv (fvv s kd j k) := by
  unfold fvv
  split
  · trivial
  · rename_i hf
    exact rfa_ok hR h hk hf hj
  · trivial
theorem isZ_fit {x : Int32} (h : isZ x = true) : fits .boolean (.int x) = true := by
  unfold isZ at h
  simp only [Bool.or_eq_true, decide_eq_true_eq] at h
  rcases h with rfl | rfl <;> decide +kernel
theorem take_drop_rev (st : List AV) (b : Nat) : (st.take b).reverse.reverse ++ st.drop b = st := by
  rw [List.reverse_reverse, List.take_append_drop]
theorem okS_take {st : List AV} (h : okS st) (b : Nat) : okS (st.take b).reverse := fun v hv => h v (List.mem_of_mem_take (List.mem_reverse.mp hv))
theorem okS_drop {st : List AV} (h : okS st) (b : Nat) : okS (st.drop b) := fun v hv => h v (List.mem_of_mem_drop hv)
theorem okS_app {a b : List AV} (h1 : okS a) (h2 : okS b) : okS (a ++ b) := fun v hv => (List.mem_append.mp hv).elim (h1 v) (h2 v)
theorem swB_in {pc a : Nat} {lo hi : Int} {offs : Array Int} {sw : List (Int32 × Nat)} (h : swB pc lo hi offs sw = true) (x : Int32) : (∃ off, ¬ x.toInt < lo ∧ ¬ hi < x.toInt ∧ offs[(x.toInt - lo).toNat]? = some off ∧ (pc : Int) + off = (swT a x sw : Int)) ∨ ((x.toInt < lo ∨ hi < x.toInt) ∧ swT a x sw = a) := by
  unfold swB at h
  simp only [Bool.and_eq_true, decide_eq_true_eq] at h
  obtain ⟨h1, h2⟩ := h
  rcases swT_in a x sw with g | ⟨g1, g2⟩
  · refine Or.inl ?_
    have hk : x.toInt ∈ sw.map (fun q => q.1.toInt) := List.mem_map.mpr ⟨_, g, rfl⟩
    rw [h1] at hk
    obtain ⟨k, hk1, hk2⟩ := List.mem_map.mp hk
    have hk1' := List.mem_range.mp hk1
    have h3 := List.all_eq_true.mp h2 _ g
    have h3' := decide_eq_true_iff.mp h3
    cases ho : offs[(x.toInt - lo).toNat]? with
    | none => rw [ho] at h3'; cases h3'
    | some off =>
      rw [ho] at h3'
      exact ⟨off, by omega, by omega, rfl, Option.some.inj h3'⟩
  · refine Or.inr ⟨?_, g1⟩
    by_cases q1 : x.toInt < lo
    · exact Or.inl q1
    · by_cases q2 : hi < x.toInt
      · exact Or.inr q2
      · exfalso
        have hk : x.toInt ∈ (List.range (hi - lo + 1).toNat).map (fun (k : Nat) => lo + (k : Int)) := List.mem_map.mpr ⟨(x.toInt - lo).toNat, List.mem_range.mpr (by omega), by omega⟩
        rw [← h1] at hk
        obtain ⟨q, hq1, hq2⟩ := List.mem_map.mp hk
        exact g2 q hq1 (Int32.toInt_inj.mp hq2)
set_option maxHeartbeats 4000000 in
set_option maxRecDepth 20000 in
theorem opx_sound {ad : Nat × Nat → Nat} {C : Cls} {D : va_G} {xs : Nat → Int32} {L n : Nat} (hMs : ∀ a, a < 237 → (a < 3 ∨ 6 < a) → okM a = true) (ih : Sound ad C D xs L n) {i pc : Nat} {en : En} (hok : okB i pc en = true) {lo : LO} {st : List AV} {s : SS} {r : Option AV} {s' : SS} (h : opx (run n) (run n) i pc en lo st s = some (r, s')) (p : Program) (l : Launch) (e : Env) (R : Room) (s0 : State) (m : MethodId) (args : Array Value) (below : List Frame) (meth : Method) (c : Code) (H : Heap) (locs : List Loc) (cells slots : Nat) (Q : State → Prop) (ls : Array Slot) (A : Nat → Prop) (H0 : Heap) (F : Fr i p R s0 m args c cells slots) (B : Bg ad C D xs L A s0 H0) (hL : LRep ad ls (mX i) lo) (hO : okS st) (hH : Hp ad C D xs L s H) (hS : va_S A H0 H locs) (hret : ∀ (pc' : Nat) (ls' : Array Slot) (H' : Heap) (locs' : List Loc), RetK i pc' r → Hp ad C D xs L s' H' → va_S A H0 H' locs' → W p l e R s0 m args below meth c H' locs' cells slots Q (F0 m pc' ls' (r.toList.map (rv ad)))) : W p l e R s0 m args below meth c H locs cells slots Q (F0 m pc ls (st.map (rv ad))) := by
  have hx := F.1
  have hb := F.2.1
  have hml := F.2.2.1
  have hown := F.2.2.2.1
  have hts := F.2.2.2.2.1
  have go : ∀ {pc : Nat} {lo : LO} {st : List AV} {s : SS} {H : Heap} {locs : List Loc} {ls : Array Slot}, run n i pc lo st s = some (r, s') → LRep ad ls (mX i) lo → okS st → Hp ad C D xs L s H → va_S A H0 H locs → W p l e R s0 m args below meth c H locs cells slots Q (F0 m pc ls (st.map (rv ad))) := fun h1 h2 h3 h4 h5 => ih i _ _ _ _ r s' h1 p l e R s0 m args below meth c _ _ cells slots Q _ A H0 F B h2 h3 h4 h5 hret
  obtain ⟨ins, len, a, b, d, ee, f, pos, cv, lv, sw, ks⟩ := en
  unfold okB at hok
  obtain ⟨hdg, hok⟩ := Bool.and_eq_true_iff.mp hok
  have hdg := of_decide_eq_true hdg
  cases ins with
  | iconst k =>
    obtain ⟨e1, rfl⟩ := of_decide_eq_true hok
    exact lv_iconst hx hb hdg e1 (go h hL (okI hO) hH hS)
  | bipush k =>
    obtain ⟨e1, rfl⟩ := of_decide_eq_true hok
    exact lv_bipush hx hb hdg e1 (go h hL (okI hO) hH hS)
  | sipush k =>
    obtain ⟨e1, rfl⟩ := of_decide_eq_true hok
    exact lv_sipush hx hb hdg e1 (go h hL (okI hO) hH hS)
  | ldc k =>
    obtain ⟨e1, rfl⟩ := of_decide_eq_true hok
    exact lv_ldc hx hb hown (hts _ (List.mem_of_getElem? e1)) hdg (go h hL (okI hO) hH hS)
  | ldc_w k =>
    obtain ⟨e1, rfl⟩ := of_decide_eq_true hok
    exact lv_ldcw hx hb hown (hts _ (List.mem_of_getElem? e1)) hdg (go h hL (okI hO) hH hS)
  | lconst k =>
    obtain ⟨e1, rfl⟩ := of_decide_eq_true hok
    exact lv_lconst hx hb hdg e1 (go h hL (okLg hO) hH hS)
  | ldc2_w k =>
    obtain ⟨e1, rfl⟩ := of_decide_eq_true hok
    exact lv_ldc2 hx hb hown (hts _ (List.mem_of_getElem? e1)) hdg (go h hL (okLg hO) hH hS)
  | iload k =>
    have e1 : len = 2 := of_decide_eq_true hok
    subst e1
    obtain ⟨w, h1, h2, h3⟩ := ldx_inv (k := k) (t := 0) (ls := lo) (F := fun w => run n i (pc + 2) lo (w :: st) s) h
    obtain ⟨g1, g2⟩ := LRep_load hL h1
    match w, h2, h3, g1, g2 with
    | .inl x, _, h3, g1, g2 => exact lv_iload hx hb hdg g1 (go h3 hL (okI hO) hH hS)
    | .inr (.inl x), h2, _, _, _ => cases h2
    | .inr (.inr x), h2, _, _, _ => cases h2
  | iload_n k =>
    have e1 : len = 1 := of_decide_eq_true hok
    subst e1
    obtain ⟨w, h1, h2, h3⟩ := ldx_inv (k := k.val) (t := 0) (ls := lo) (F := fun w => run n i (pc + 1) lo (w :: st) s) h
    obtain ⟨g1, g2⟩ := LRep_load hL h1
    match w, h2, h3, g1, g2 with
    | .inl x, _, h3, g1, g2 => exact lv_iload_n hx hb hdg rfl g1 (go h3 hL (okI hO) hH hS)
    | .inr (.inl x), h2, _, _, _ => cases h2
    | .inr (.inr x), h2, _, _, _ => cases h2
  | lload k =>
    have e1 : len = 2 := of_decide_eq_true hok
    subst e1
    obtain ⟨w, h1, h2, h3⟩ := ldx_inv (k := k) (t := 1) (ls := lo) (F := fun w => run n i (pc + 2) lo (w :: st) s) h
    obtain ⟨g1, g2⟩ := LRep_load hL h1
    match w, h2, h3, g1, g2 with
    | .inl x, h2, _, _, _ => cases h2
    | .inr (.inl x), _, h3, g1, g2 => exact lv_lload hx hb hdg g1 (go h3 hL (okLg hO) hH hS)
    | .inr (.inr x), h2, _, _, _ => cases h2
  | lload_n k =>
    have e1 : len = 1 := of_decide_eq_true hok
    subst e1
    obtain ⟨w, h1, h2, h3⟩ := ldx_inv (k := k.val) (t := 1) (ls := lo) (F := fun w => run n i (pc + 1) lo (w :: st) s) h
    obtain ⟨g1, g2⟩ := LRep_load hL h1
    match w, h2, h3, g1, g2 with
    | .inl x, h2, _, _, _ => cases h2
    | .inr (.inl x), _, h3, g1, g2 => exact lv_lload_n hx hb hdg rfl g1 (go h3 hL (okLg hO) hH hS)
    | .inr (.inr x), h2, _, _, _ => cases h2
  | aload k =>
    have e1 : len = 2 := of_decide_eq_true hok
    subst e1
    obtain ⟨w, h1, h2, h3⟩ := ldx_inv (k := k) (t := 2) (ls := lo) (F := fun w => run n i (pc + 2) lo (w :: st) s) h
    obtain ⟨g1, g2⟩ := LRep_load hL h1
    match w, h2, h3, g1, g2 with
    | .inl x, h2, _, _, _ => cases h2
    | .inr (.inl x), h2, _, _, _ => cases h2
    | .inr (.inr x), _, h3, g1, g2 => exact lv_aload hx hb hdg g1 (go h3 hL (okS_cons.mpr ⟨g2, hO⟩) hH hS)
  | aload_n k =>
    have e1 : len = 1 := of_decide_eq_true hok
    subst e1
    obtain ⟨w, h1, h2, h3⟩ := ldx_inv (k := k.val) (t := 2) (ls := lo) (F := fun w => run n i (pc + 1) lo (w :: st) s) h
    obtain ⟨g1, g2⟩ := LRep_load hL h1
    match w, h2, h3, g1, g2 with
    | .inl x, h2, _, _, _ => cases h2
    | .inr (.inl x), h2, _, _, _ => cases h2
    | .inr (.inr x), _, h3, g1, g2 => exact lv_aload_n hx hb hdg rfl g1 (go h3 hL (okS_cons.mpr ⟨g2, hO⟩) hH hS)
  | istore k =>
    obtain ⟨e1, rfl⟩ := of_decide_eq_true hok
    obtain ⟨x, rr, hst, hz⟩ := op1i_inv h
    clear h
    subst hst
    have h := hz
    clear hz
    rw [frc_eq] at h
    exact lv_istore hx hb hdg (LRep_has hL) e1 rfl (fun ls' hl' => go h (LRep_st1 (v := .inl x) hL trivial hl') (okT hO) hH hS)
  | istore_n k =>
    obtain ⟨e1, rfl⟩ := of_decide_eq_true hok
    obtain ⟨x, rr, hst, hz⟩ := op1i_inv h
    clear h
    subst hst
    have h := hz
    clear hz
    rw [frc_eq] at h
    exact lv_istore_n hx hb hdg rfl (LRep_has hL) e1 rfl (fun ls' hl' => go h (LRep_st1 (v := .inl x) hL trivial hl') (okT hO) hH hS)
  | lstore k =>
    obtain ⟨e1, rfl⟩ := of_decide_eq_true hok
    obtain ⟨x, rr, hst, hz⟩ := op1l_inv h
    clear h
    subst hst
    have h := hz
    clear hz
    rw [frc_eq] at h
    exact lv_lstore hx hb hdg (LRep_has hL) e1 rfl (fun ls' hl' => go h (LRep_st2 (v := .inr (.inl x)) hL trivial hl') (okT hO) hH hS)
  | lstore_n k =>
    obtain ⟨e1, rfl⟩ := of_decide_eq_true hok
    obtain ⟨x, rr, hst, hz⟩ := op1l_inv h
    clear h
    subst hst
    have h := hz
    clear hz
    rw [frc_eq] at h
    exact lv_lstore_n hx hb hdg rfl (LRep_has hL) e1 rfl (fun ls' hl' => go h (LRep_st2 (v := .inr (.inl x)) hL trivial hl') (okT hO) hH hS)
  | astore k =>
    obtain ⟨e1, rfl⟩ := of_decide_eq_true hok
    obtain ⟨kd, j, rr, hst, hz⟩ := op1r_inv h
    clear h
    subst hst
    have h := hz
    clear hz
    rw [frc_eq] at h
    exact lv_astore hx hb hdg (LRep_has hL) e1 rfl (fun ls' hl' => go h (LRep_st1 (v := .inr (.inr (kd, j))) hL (okH hO) hl') (okT hO) hH hS)
  | astore_n k =>
    obtain ⟨e1, rfl⟩ := of_decide_eq_true hok
    obtain ⟨kd, j, rr, hst, hz⟩ := op1r_inv h
    clear h
    subst hst
    have h := hz
    clear hz
    rw [frc_eq] at h
    exact lv_astore_n hx hb hdg rfl (LRep_has hL) e1 rfl (fun ls' hl' => go h (LRep_st1 (v := .inr (.inr (kd, j))) hL (okH hO) hl') (okT hO) hH hS)
  | iinc k z =>
    obtain ⟨e1, e2, rfl⟩ := of_decide_eq_true hok
    obtain ⟨w, h1, h2, h3⟩ := ldx_inv (k := k) (t := 0) (ls := lo) (F := fun v => match v with
      | .inl x => frc (st1 lo k (.inl (x + cv))) (fun l => run n i (pc + 3) l st s)
      | _ => none) h
    match w, h1, h2, h3 with
    | .inl x, h1, _, h3 =>
      have hm : lo[k]? = some (some (.inl x)) := by
        rw [List.getD_eq_getElem?_getD] at h1
        cases hk : lo[k]? with
        | none => rw [hk] at h1; cases h1
        | some w => rw [hk] at h1; rw [show w = some (.inl x) from h1]
      have h3 : frc (st1 lo k (.inl (x + cv))) (fun l => run n i (pc + 3) l st s) = some (r, s') := h3
      rw [frc_eq] at h3
      obtain ⟨q, hq⟩ := List.getElem?_of_mem (toL_mem (ad := ad) hm)
      exact lv_iinc (k := q) (x := x) (v := x + cv) hx hb hdg (LRep_has hL) hq (by rw [e1]) e2 rfl (fun ls' hl' => go h3 (LRep_st1 (v := .inl (x + cv)) hL trivial hl') hO hH hS)
    | .inr (.inl x), _, h2, _ => cases h2
    | .inr (.inr x), _, h2, _ => cases h2
  | iadd =>
    have e1 : len = 1 := of_decide_eq_true hok
    subst e1
    obtain ⟨x, y, rr, hst, hz⟩ := op2i_inv h
    clear h
    subst hst
    have h := hz
    clear hz
    exact lv_iadd hx hb hdg (go h hL (okI (okT (okT hO))) hH hS)
  | isub =>
    have e1 : len = 1 := of_decide_eq_true hok
    subst e1
    obtain ⟨x, y, rr, hst, hz⟩ := op2i_inv h
    clear h
    subst hst
    have h := hz
    clear hz
    exact lv_isub hx hb hdg (go h hL (okI (okT (okT hO))) hH hS)
  | imul =>
    have e1 : len = 1 := of_decide_eq_true hok
    subst e1
    obtain ⟨x, y, rr, hst, hz⟩ := op2i_inv h
    clear h
    subst hst
    have h := hz
    clear hz
    exact lv_imul hx hb hdg (go h hL (okI (okT (okT hO))) hH hS)
  | iand =>
    have e1 : len = 1 := of_decide_eq_true hok
    subst e1
    obtain ⟨x, y, rr, hst, hz⟩ := op2i_inv h
    clear h
    subst hst
    have h := hz
    clear hz
    exact lv_iand hx hb hdg (go h hL (okI (okT (okT hO))) hH hS)
  | ior =>
    have e1 : len = 1 := of_decide_eq_true hok
    subst e1
    obtain ⟨x, y, rr, hst, hz⟩ := op2i_inv h
    clear h
    subst hst
    have h := hz
    clear hz
    exact lv_ior hx hb hdg (go h hL (okI (okT (okT hO))) hH hS)
  | ixor =>
    have e1 : len = 1 := of_decide_eq_true hok
    subst e1
    obtain ⟨x, y, rr, hst, hz⟩ := op2i_inv h
    clear h
    subst hst
    have h := hz
    clear hz
    exact lv_ixor hx hb hdg (go h hL (okI (okT (okT hO))) hH hS)
  | idiv =>
    have e1 : len = 1 := of_decide_eq_true hok
    subst e1
    obtain ⟨x, y, rr, hst, hz⟩ := op2i_inv h
    clear h
    subst hst
    have h := hz
    clear hz
    split at h
    · cases h
    · rename_i hne
      exact lv_idiv hx hb hdg hne (go h hL (okI (okT (okT hO))) hH hS)
  | irem =>
    have e1 : len = 1 := of_decide_eq_true hok
    subst e1
    obtain ⟨x, y, rr, hst, hz⟩ := op2i_inv h
    clear h
    subst hst
    have h := hz
    clear hz
    split at h
    · cases h
    · rename_i hne
      exact lv_irem hx hb hdg hne (go h hL (okI (okT (okT hO))) hH hS)
  | ineg =>
    have e1 : len = 1 := of_decide_eq_true hok
    subst e1
    obtain ⟨x, rr, hst, hz⟩ := op1i_inv h
    clear h
    subst hst
    have h := hz
    clear hz
    exact lv_ineg hx hb hdg (go h hL (okI (okT hO)) hH hS)
  | ishl =>
    have e1 : len = 1 := of_decide_eq_true hok
    subst e1
    obtain ⟨x, y, rr, hst, hz⟩ := op2i_inv h
    clear h
    subst hst
    have h := hz
    clear hz
    exact lv_ishl hx hb hdg (go h hL (okI (okT (okT hO))) hH hS)
  | ishr =>
    have e1 : len = 1 := of_decide_eq_true hok
    subst e1
    obtain ⟨x, y, rr, hst, hz⟩ := op2i_inv h
    clear h
    subst hst
    have h := hz
    clear hz
    exact lv_ishr hx hb hdg (go h hL (okI (okT (okT hO))) hH hS)
  | iushr =>
    have e1 : len = 1 := of_decide_eq_true hok
    subst e1
    obtain ⟨x, y, rr, hst, hz⟩ := op2i_inv h
    clear h
    subst hst
    have h := hz
    clear hz
    exact lv_iushr hx hb hdg rfl (go h hL (okI (okT (okT hO))) hH hS)
  | ladd =>
    have e1 : len = 1 := of_decide_eq_true hok
    subst e1
    obtain ⟨x, y, rr, hst, hz⟩ := op2l_inv h
    clear h
    subst hst
    have h := hz
    clear hz
    exact lv_ladd hx hb hdg (go h hL (okLg (okT (okT hO))) hH hS)
  | lsub =>
    have e1 : len = 1 := of_decide_eq_true hok
    subst e1
    obtain ⟨x, y, rr, hst, hz⟩ := op2l_inv h
    clear h
    subst hst
    have h := hz
    clear hz
    exact lv_lsub hx hb hdg (go h hL (okLg (okT (okT hO))) hH hS)
  | lmul =>
    have e1 : len = 1 := of_decide_eq_true hok
    subst e1
    obtain ⟨x, y, rr, hst, hz⟩ := op2l_inv h
    clear h
    subst hst
    have h := hz
    clear hz
    exact lv_lmul hx hb hdg (go h hL (okLg (okT (okT hO))) hH hS)
  | land =>
    have e1 : len = 1 := of_decide_eq_true hok
    subst e1
    obtain ⟨x, y, rr, hst, hz⟩ := op2l_inv h
    clear h
    subst hst
    have h := hz
    clear hz
    exact lv_land hx hb hdg (go h hL (okLg (okT (okT hO))) hH hS)
  | lor =>
    have e1 : len = 1 := of_decide_eq_true hok
    subst e1
    obtain ⟨x, y, rr, hst, hz⟩ := op2l_inv h
    clear h
    subst hst
    have h := hz
    clear hz
    exact lv_lor hx hb hdg (go h hL (okLg (okT (okT hO))) hH hS)
  | ldiv =>
    have e1 : len = 1 := of_decide_eq_true hok
    subst e1
    obtain ⟨x, y, rr, hst, hz⟩ := op2l_inv h
    clear h
    subst hst
    have h := hz
    clear hz
    split at h
    · cases h
    · rename_i hne
      exact lv_ldiv hx hb hdg hne (go h hL (okLg (okT (okT hO))) hH hS)
  | lrem =>
    have e1 : len = 1 := of_decide_eq_true hok
    subst e1
    obtain ⟨x, y, rr, hst, hz⟩ := op2l_inv h
    clear h
    subst hst
    have h := hz
    clear hz
    split at h
    · cases h
    · rename_i hne
      exact lv_lrem hx hb hdg hne (go h hL (okLg (okT (okT hO))) hH hS)
  | lneg =>
    have e1 : len = 1 := of_decide_eq_true hok
    subst e1
    obtain ⟨x, rr, hst, hz⟩ := op1l_inv h
    clear h
    subst hst
    have h := hz
    clear hz
    exact lv_lneg hx hb hdg (go h hL (okLg (okT hO)) hH hS)
  | lcmp =>
    have e1 : len = 1 := of_decide_eq_true hok
    subst e1
    obtain ⟨x, y, rr, hst, hz⟩ := op2l_inv h
    clear h
    subst hst
    have h := hz
    clear hz
    exact W.lcmp hx hb hdg (go h hL (okI (okT (okT hO))) hH hS)
  | lshl =>
    have e1 : len = 1 := of_decide_eq_true hok
    subst e1
    obtain ⟨x, y, rr, hst, hz⟩ := opli_inv h
    clear h
    subst hst
    have h := hz
    clear hz
    exact lv_lshl hx hb hdg rfl (go h hL (okLg (okT (okT hO))) hH hS)
  | lshr =>
    have e1 : len = 1 := of_decide_eq_true hok
    subst e1
    obtain ⟨x, y, rr, hst, hz⟩ := opli_inv h
    clear h
    subst hst
    have h := hz
    clear hz
    exact lv_lshr hx hb hdg rfl (go h hL (okLg (okT (okT hO))) hH hS)
  | lushr =>
    have e1 : len = 1 := of_decide_eq_true hok
    subst e1
    obtain ⟨x, y, rr, hst, hz⟩ := opli_inv h
    clear h
    subst hst
    have h := hz
    clear hz
    exact lv_lushr hx hb hdg rfl (go h hL (okLg (okT (okT hO))) hH hS)
  | i2l =>
    have e1 : len = 1 := of_decide_eq_true hok
    subst e1
    obtain ⟨x, rr, hst, hz⟩ := op1i_inv h
    clear h
    subst hst
    have h := hz
    clear hz
    exact lv_i2l hx hb hdg rfl (go h hL (okLg (okT hO)) hH hS)
  | l2i =>
    have e1 : len = 1 := of_decide_eq_true hok
    subst e1
    obtain ⟨x, rr, hst, hz⟩ := op1l_inv h
    clear h
    subst hst
    have h := hz
    clear hz
    exact lv_l2i hx hb hdg rfl (go h hL (okI (okT hO)) hH hS)
  | i2b =>
    have e1 : len = 1 := of_decide_eq_true hok
    subst e1
    obtain ⟨x, rr, hst, hz⟩ := op1i_inv h
    clear h
    subst hst
    have h := hz
    clear hz
    exact lv_i2b hx hb hdg rfl (go h hL (okI (okT hO)) hH hS)
  | dup =>
    have e1 : len = 1 := of_decide_eq_true hok
    subst e1
    obtain ⟨x, rr, rfl, hc, h⟩ := dupx_inv (F := fun r => run n i (pc + 1) lo r s) h
    exact lv_dup hx hb hdg (by rw [rv_cat]; exact hc) (go h hL (okS_cons.mpr ⟨okH hO, hO⟩) hH hS)
  | dup2 =>
    have e1 : len = 1 := of_decide_eq_true hok
    subst e1
    rcases dup2x_inv (F := fun r => run n i (pc + 1) lo r s) h with ⟨x, y, rr, rfl, hc, hc2, h⟩ | ⟨x, rr, rfl, hc, h⟩
    · exact lv_dup2_11 hx hb hdg (by rw [rv_cat]; exact hc) (by rw [rv_cat]; exact hc2) (go h hL (okS_cons.mpr ⟨okH hO, okS_cons.mpr ⟨okH (okT hO), hO⟩⟩) hH hS)
    · exact lv_dup2_2 hx hb hdg (by rw [rv_cat]; exact hc) (go h hL (okS_cons.mpr ⟨okH hO, hO⟩) hH hS)
  | pop =>
    have e1 : len = 1 := of_decide_eq_true hok
    subst e1
    obtain ⟨x, rr, rfl, hc, h⟩ := popx_inv (F := fun r => run n i (pc + 1) lo r s) h
    exact lv_pop hx hb hdg (by rw [rv_cat]; exact hc) (go h hL (okT hO) hH hS)
  | goto off =>
    obtain ⟨e1, rfl⟩ := of_decide_eq_true hok
    exact lv_goto hx hb hdg e1 (go h hL hO hH hS)
  | ifCond q off =>
    obtain ⟨e1, rfl⟩ := of_decide_eq_true hok
    obtain ⟨x, rr, hst, hz⟩ := op1i_inv h
    clear h
    subst hst
    have h := hz
    clear hz
    cases q with
    | eq => exact lv_if_eq hx hb hdg e1 (fun z => go ((if_pos z).symm.trans h) hL (okT hO) hH hS) (fun z => go ((if_neg z).symm.trans h) hL (okT hO) hH hS)
    | ne => exact lv_if_ne hx hb hdg e1 (fun z => go ((if_neg z).symm.trans h) hL (okT hO) hH hS) (fun z => go ((if_pos z).symm.trans h) hL (okT hO) hH hS)
    | lt => exact lv_if_lt hx hb hdg e1 (fun z => go ((if_pos z).symm.trans h) hL (okT hO) hH hS) (fun z => go ((if_neg z).symm.trans h) hL (okT hO) hH hS)
    | ge => exact lv_if_ge hx hb hdg e1 (fun z => go ((if_neg (Int32.not_lt.mpr z)).symm.trans h) hL (okT hO) hH hS) (fun z => go ((if_pos (Int32.not_le.mp z)).symm.trans h) hL (okT hO) hH hS)
    | gt => exact lv_if_gt hx hb hdg e1 (fun z => go ((if_pos z).symm.trans h) hL (okT hO) hH hS) (fun z => go ((if_neg z).symm.trans h) hL (okT hO) hH hS)
    | le => exact lv_if_le hx hb hdg e1 (fun z => go ((if_neg (Int32.not_lt.mpr z)).symm.trans h) hL (okT hO) hH hS) (fun z => go ((if_pos (Int32.not_le.mp z)).symm.trans h) hL (okT hO) hH hS)
  | if_icmp q off =>
    obtain ⟨e1, rfl⟩ := of_decide_eq_true hok
    obtain ⟨x, y, rr, hst, hz⟩ := op2i_inv h
    clear h
    subst hst
    have h := hz
    clear hz
    cases q with
    | eq => exact lv_icmp_eq hx hb hdg e1 (fun z => go ((if_pos z).symm.trans h) hL (okT (okT hO)) hH hS) (fun z => go ((if_neg z).symm.trans h) hL (okT (okT hO)) hH hS)
    | ne => exact lv_icmp_ne hx hb hdg e1 (fun z => go ((if_neg z).symm.trans h) hL (okT (okT hO)) hH hS) (fun z => go ((if_pos z).symm.trans h) hL (okT (okT hO)) hH hS)
    | lt => exact lv_icmp_lt hx hb hdg e1 (fun z => go ((if_pos z).symm.trans h) hL (okT (okT hO)) hH hS) (fun z => go ((if_neg z).symm.trans h) hL (okT (okT hO)) hH hS)
    | ge => exact lv_icmp_ge hx hb hdg e1 (fun z => go ((if_neg (Int32.not_lt.mpr z)).symm.trans h) hL (okT (okT hO)) hH hS) (fun z => go ((if_pos (Int32.not_le.mp z)).symm.trans h) hL (okT (okT hO)) hH hS)
    | gt => exact lv_icmp_gt hx hb hdg e1 (fun z => go ((if_pos z).symm.trans h) hL (okT (okT hO)) hH hS) (fun z => go ((if_neg z).symm.trans h) hL (okT (okT hO)) hH hS)
    | le => exact lv_icmp_le hx hb hdg e1 (fun z => go ((if_neg (Int32.not_lt.mpr z)).symm.trans h) hL (okT (okT hO)) hH hS) (fun z => go ((if_pos (Int32.not_le.mp z)).symm.trans h) hL (okT (okT hO)) hH hS)
  | tableswitch dflt low hi offs =>
    simp only [Bool.and_eq_true, decide_eq_true_eq] at hok
    obtain ⟨x, rr, hst, hz⟩ := op1i_inv h
    clear h
    subst hst
    have h := hz
    clear hz
    rw [swl_eq] at h
    rcases swB_in (a := a) hok.2 x with ⟨off, g1, g2, g3, g4⟩ | ⟨g1, g2⟩
    · exact lv_tableIn hx hb hdg g1 g2 g3 g4 (go h hL (okT hO) hH hS)
    · rw [g2] at h
      exact lv_tableOut hx hb hdg g1 hok.1 (go h hL (okT hO) hH hS)
  | lookupswitch dflt ps =>
    simp only [Bool.and_eq_true, decide_eq_true_eq] at hok
    obtain ⟨x, rr, hst, hz⟩ := op1i_inv h
    clear h
    subst hst
    have h := hz
    clear hz
    rw [swl_eq] at h
    obtain ⟨⟨g1, g2⟩, g3⟩ := hok
    exact lv_lookup hx hb hdg g3 rfl (by rw [g2]; exact lk_off g1 x sw) (go h hL (okT hO) hH hS)
  | getfield ix =>
    simp only [Bool.and_eq_true, decide_eq_true_eq] at hok
    obtain ⟨⟨g1, g2, g3, rfl⟩, g5⟩ := hok
    obtain ⟨kd, j, rr, hst, hz⟩ := op1r_inv h
    clear h
    subst hst
    have h := hz
    clear hz
    obtain ⟨h1, h2⟩ := getx_inv h
    rw [gval_fvv (by rw [h1]; exact g3)] at h2
    exact sg_get F B hH g1 g2 g5 h1 (okH hO) hdg (go h2 hL (okS_cons.mpr ⟨gval_ok hH.2 (by rw [h1]; exact g1) (by rw [h1]; exact g2) (okH hO), okT hO⟩) hH hS)
  | putfield ix =>
    simp only [Bool.and_eq_true, decide_eq_true_eq] at hok
    obtain ⟨⟨g1, g2, g3, rfl, g5, g6⟩, g7⟩ := hok
    obtain ⟨rr, kd, j, h1, hh⟩ := putx_inv (F := fun r s1 => run n i (pc + 3) lo r s1) h
    have hkd := (kcl_lt (kd := kd) (by rw [h1]; exact g1)).1
    rcases hh with ⟨x, rfl, h2, h3⟩ | ⟨x, rfl, h2, h3⟩ | ⟨jv, rfl, rfl, rfl, h2, h3⟩
    · refine sg_put (w := .inl x) F B hH hS g1 g2 g7 h1 (okH (okT hO)) g5 ?_ ?_ (fvv_own_I ?_) (fun q _ hq => cellE_wI hq) (okR_wI hH.2 hkd) hdg (fun H1 locs1 k1 k2 => go h3 hL (okT (okT hO)) k1 k2)
      · rw [g6]
        rcases h2 with h2 | ⟨h2, hz⟩
        · rw [h2]; rfl
        · rw [h2]; exact isZ_nar hz
      · rw [g6]
        rcases h2 with h2 | ⟨h2, hz⟩
        · rw [h2]; rfl
        · rw [h2]; exact isZ_fit hz
      · rw [h1, ← g3]
        rcases h2 with h2 | ⟨h2, -⟩
        · exact Or.inl h2
        · exact Or.inr h2
    · refine sg_put (w := .inr (.inl x)) F B hH hS g1 g2 g7 h1 (okH (okT hO)) g5 ?_ ?_ (fvv_own_L ?_) (fun q _ hq => cellE_wL hq) hH.2 hdg (fun H1 locs1 k1 k2 => go h3 hL (okT (okT hO)) k1 k2)
      · rw [g6, h2]; rfl
      · rw [g6, h2]; rfl
      · rw [h1, ← g3, h2]
    · have hj0 : j = 0 := by
        have h9 : j < kct 0 := okH (okT hO)
        have : kct 0 = 1 := rfl
        omega
      subst hj0
      refine sg_put (w := .inr (.inr (13, jv))) F B hH hS g1 g2 g7 h1 (okH (okT hO)) g5 ?_ ?_ fvv_own_R (fun q hqd hq => cellE_wR (fun _ h0 => hq ?_) (fun h8 => absurd h8 (by omega)) hqd) (okR_wR hH.2 (okH hO)) hdg (fun H1 locs1 k1 k2 => go h3 hL (okT (okT hO)) k1 k2)
      · rw [g6, h2]; rfl
      · rw [g6, h2]; rfl
      · obtain ⟨kq, jq⟩ := q
        have h0' : kq = 0 := h0
        subst h0'
        have h9 : jq < kct 0 := (mem_dom.mp hqd).2
        have : kct 0 = 1 := rfl
        have : jq = 0 := by omega
        subst this
        rfl
  | iaload =>
    have e1 : len = 1 := of_decide_eq_true hok
    subst e1
    obtain ⟨x, kd, j, rr, hst, hz⟩ := opix_inv h
    clear h
    subst hst
    have h := hz
    clear hz
    have h : (bif Nat.beq (kar kd) 6 then (if ixB x (s.1 60 1 0).toNatClampNeg = true then run n i (pc + 1) lo (.inl (s.1 kd j x.toNatClampNeg) :: rr) s else none) else bif Nat.beq (kar kd) 1 then (if ixB x (kln kd) = true then run n i (pc + 1) lo (.inl (s.1 kd j x.toNatClampNeg) :: rr) s else none) else none) = some (r, s') := h
    cases h6 : Nat.beq (kar kd) 6 with
    | true =>
      rw [h6] at h
      obtain ⟨g1, g2⟩ := ixf_inv h
      exact sg_ald6 F B hH hS (Nat.eq_of_beq_eq_true h6) (okH (okT hO)) g1 hdg (go g2 hL (okI (okT (okT hO))) hH hS)
    | false =>
      rw [h6] at h
      obtain ⟨g0, h⟩ := bif_inv h
      obtain ⟨g1, g2⟩ := ixf_inv h
      exact sg_ald1 F B hH (Nat.eq_of_beq_eq_true g0) (okH (okT hO)) g1 hdg (go g2 hL (okI (okT (okT hO))) hH hS)
  | laload =>
    have e1 : len = 1 := of_decide_eq_true hok
    subst e1
    obtain ⟨x, kd, j, rr, hst, hz⟩ := opix_inv h
    clear h
    subst hst
    have h := hz
    clear hz
    obtain ⟨g0, h⟩ := bif_inv (c := Nat.beq (kar kd) 2) h
    obtain ⟨g1, g2⟩ := ixf_inv h
    exact sg_ald2 F B hH (Nat.eq_of_beq_eq_true g0) (okH (okT hO)) g1 hdg (go g2 hL (okLg (okT (okT hO))) hH hS)
  | baload =>
    have e1 : len = 1 := of_decide_eq_true hok
    subst e1
    obtain ⟨x, kd, j, rr, hst, hz⟩ := opix_inv h
    clear h
    subst hst
    have h := hz
    clear hz
    obtain ⟨g0, h⟩ := bif_inv (c := Nat.beq (kar kd) 3) h
    obtain ⟨g1, g2⟩ := ixf_inv h
    exact sg_ald3 F B hH (Nat.eq_of_beq_eq_true g0) (okH (okT hO)) g1 hdg (go g2 hL (okI (okT (okT hO))) hH hS)
  | aaload =>
    have e1 : len = 1 := of_decide_eq_true hok
    subst e1
    obtain ⟨x, kd, j, rr, hst, hz⟩ := opix_inv h
    clear h
    subst hst
    have h := hz
    clear hz
    have h : (bif Nat.beq (kar kd) 4 then (if ixB x (kln kd) = true then run n i (pc + 1) lo (.inr (.inr (kd + 4, x.toNatClampNeg)) :: rr) s else none) else bif Nat.beq (kar kd) 5 then (if ixB x (kln kd) = true then run n i (pc + 1) lo (.inr (.inr (13, s.2.2 x.toNatClampNeg)) :: rr) s else none) else none) = some (r, s') := h
    cases h6 : Nat.beq (kar kd) 4 with
    | true =>
      rw [h6] at h
      obtain ⟨g1, g2⟩ := ixf_inv h
      have h4 := Nat.eq_of_beq_eq_true h6
      exact sg_ald4 F B hH h4 (okH (okT hO)) g1 hdg (go g2 hL (okS_cons.mpr ⟨by show x.toNatClampNeg < kct (kd + 4); rw [kar_4 h4]; exact ixB_lt g1, okT (okT hO)⟩) hH hS)
    | false =>
      rw [h6] at h
      obtain ⟨g0, h⟩ := bif_inv h
      obtain ⟨g1, g2⟩ := ixf_inv h
      have h5 := Nat.eq_of_beq_eq_true g0
      exact sg_ald5 F B hH h5 (okH (okT hO)) g1 hdg (go g2 hL (okS_cons.mpr ⟨hH.2.1 _ (by have := ixB_lt g1; have := (kar_5 h5).2; omega), okT (okT hO)⟩) hH hS)
  | iastore =>
    have e1 : len = 1 := of_decide_eq_true hok
    subst e1
    have h : astx s 1 st (fun rr s1 => run n i (pc + 1) lo rr s1) = some (r, s') := h
    unfold astx at h
    split at h
    · obtain ⟨g0, h⟩ := bif_inv h
      obtain ⟨g1, g2⟩ := ixf_inv h
      exact sg_ast1 F B hH hS (Nat.eq_of_beq_eq_true g0) (okH (okT (okT hO))) g1 hdg (fun H1 locs1 k1 k2 => go g2 hL (okT (okT (okT hO))) k1 k2)
    · obtain ⟨g0, -⟩ := bif_inv h
      cases g0
    · obtain ⟨g0, -⟩ := bif_inv h
      cases g0
    · cases h
  | bastore =>
    have e1 : len = 1 := of_decide_eq_true hok
    subst e1
    have h : astx s 3 st (fun rr s1 => run n i (pc + 1) lo rr s1) = some (r, s') := h
    unfold astx at h
    split at h
    · obtain ⟨g0, h⟩ := bif_inv h
      obtain ⟨g1, g2⟩ := ixf_inv h
      exact sg_ast3 F B hH hS (Nat.eq_of_beq_eq_true g0) (okH (okT (okT hO))) g1 hdg (fun H1 locs1 k1 k2 => go g2 hL (okT (okT (okT hO))) k1 k2)
    · obtain ⟨g0, -⟩ := bif_inv h
      cases g0
    · obtain ⟨g0, -⟩ := bif_inv h
      cases g0
    · cases h
  | lastore =>
    have e1 : len = 1 := of_decide_eq_true hok
    subst e1
    have h : astx s 2 st (fun rr s1 => run n i (pc + 1) lo rr s1) = some (r, s') := h
    unfold astx at h
    split at h
    · cases h
    · obtain ⟨g0, h⟩ := bif_inv h
      obtain ⟨g1, g2⟩ := ixf_inv h
      simp only [Bool.and_eq_true] at g0
      exact sg_ast2 F B hH hS (Nat.eq_of_beq_eq_true g0.2) (okH (okT (okT hO))) g1 hdg (fun H1 locs1 k1 k2 => go g2 hL (okT (okT (okT hO))) k1 k2)
    · obtain ⟨g0, -⟩ := bif_inv h
      cases g0
    · cases h
  | aastore =>
    have e1 : len = 1 := of_decide_eq_true hok
    subst e1
    have h : astx s 4 st (fun rr s1 => run n i (pc + 1) lo rr s1) = some (r, s') := h
    unfold astx at h
    split at h
    · cases h
    · obtain ⟨g0, -⟩ := bif_inv h
      cases g0
    · obtain ⟨g0, h⟩ := bif_inv h
      obtain ⟨g1, g2⟩ := ixf_inv h
      simp only [Bool.and_eq_true] at g0
      have e13 := Nat.eq_of_beq_eq_true g0.2.2
      subst e13
      exact sg_ast5 F B hH hS (Nat.eq_of_beq_eq_true g0.2.1) (okH (okT (okT hO))) (okH hO) g1 hdg (fun H1 locs1 k1 k2 => go g2 hL (okT (okT (okT hO))) k1 k2)
    · cases h
  | arraylength =>
    have e1 : len = 1 := of_decide_eq_true hok
    subst e1
    obtain ⟨kd, j, rr, hst, hz⟩ := op1r_inv h
    clear h
    subst hst
    have h := hz
    clear hz
    have h : (bif Nat.beq (kar kd) 6 then run n i (pc + 1) lo (.inl (s.1 60 1 0) :: rr) s else bif Nat.ble 1 (kar kd) then run n i (pc + 1) lo (.inl (nI (kln kd)) :: rr) s else none) = some (r, s') := h
    cases h6 : Nat.beq (kar kd) 6 with
    | true =>
      rw [h6] at h
      have e6 := kar_6 (Nat.eq_of_beq_eq_true h6)
      subst e6
      have ej : j = 0 := by
        have h9 : j < kct 60 := okH hO
        have : kct 60 = 1 := rfl
        omega
      subst ej
      refine va_slen hx hb B.2.2.2.1 B.2.2.2.2.1 B.2.2.2.2.2 hS hdg ?_
      rw [← hH.2.2.2.1]
      exact go h hL (okI (okT hO)) hH hS
    | false =>
      rw [h6] at h
      obtain ⟨g0, h⟩ := bif_inv h
      have g0' := Nat.le_of_ble_eq_true g0
      exact sg_aln F B hH (by omega) (fun z => by rw [z] at h6; cases h6) (okH hO) hdg (go h hL (okI (okT hO)) hH hS)
  | invokestatic ix =>
    cases h9 : Nat.beq a 999 with
    | true =>
      have ea := Nat.eq_of_beq_eq_true h9
      subst ea
      have hok : decide (wsL_law[pos]? = some (.methodLink (mO i) ix arraycopyName) ∧ 1 ≤ mF i ∧ 26 ≤ mL i ∧ len = 3) = true := hok
      obtain ⟨g1, g2, g3, rfl⟩ := decide_eq_true_iff.mp hok
      obtain ⟨z, dp, kd, j, sp, kd0, j0, rr, rfl, k1, k2, k3, ⟨k4, k5, k6, k7, k8⟩, h⟩ := copyx_inv (F := fun rr s1 => run n i (pc + 3) lo rr s1) h
      exact sg_cpy F B hH hS hL.1 k1 (okH (okT (okT hO))) k2 (okH (okT (okT (okT (okT hO))))) k3 k4 k5 k6 k7 k8 g1 ⟨g2, g3⟩ hdg (fun H1 locs1 q1 q2 => go h hL (okT (okT (okT (okT (okT hO))))) q1 q2)
    | false =>
    cases h93 : Nat.beq a 993 with
    | true =>
      simp only [h9, h93, cond_false, cond_true, maB, decide_eq_true_eq] at hok
      obtain ⟨g1, g2, g3, rfl⟩ := hok
      have h : (bif Nat.beq a 999 then copyx st s (fun rr s1 => run n i (pc + 3) lo rr s1) else bif Nat.beq a 993 then op1i st (fun x rr => bif Nat.ble (cats rr) 8 then run n i (pc + 3) lo (.inl (if 0 ≤ x then x else 0 - x) :: rr) s else none) else _) = some (r, s') := h
      rw [h9, h93] at h
      obtain ⟨x, rr, hst, hz⟩ := op1i_inv h
      clear h
      subst hst
      obtain ⟨k1, k2⟩ := bif_inv hz
      have k1' := Nat.le_of_ble_eq_true k1
      exact va_mabs hx hb (hml.trans hL.1.symm) hown (hts _ (List.mem_of_getElem? g1)) (hts _ (List.mem_of_getElem? (i := 833) rfl)) (hts _ (List.mem_of_getElem? (i := 41) rfl)) (hts _ (List.mem_of_getElem? (i := 834) rfl)) (Nat.le_trans g2 F.2.2.2.2.2.2.1) (by rw [cats_rv]; have := F.2.2.2.2.2.2.2.1; omega) F.2.2.2.2.2.2.2.2.1 F.2.2.2.2.2.2.2.2.2 hdg (go k2 hL (okI (okT hO)) hH hS)
    | false =>
    cases h94 : Nat.beq a 994 with
    | true =>
      simp only [h9, h93, h94, cond_false, cond_true, maB, decide_eq_true_eq] at hok
      obtain ⟨g1, g2, g3, rfl⟩ := hok
      have h : (bif Nat.beq a 999 then copyx st s (fun rr s1 => run n i (pc + 3) lo rr s1) else bif Nat.beq a 993 then op1i st (fun x rr => bif Nat.ble (cats rr) 8 then run n i (pc + 3) lo (.inl (if 0 ≤ x then x else 0 - x) :: rr) s else none) else bif Nat.beq a 994 then op1l st (fun x rr => bif Nat.ble (cats rr) 8 then run n i (pc + 3) lo (.inr (.inl (if 0 < x then x else -x)) :: rr) s else none) else _) = some (r, s') := h
      rw [h9, h93, h94] at h
      obtain ⟨x, rr, hst, hz⟩ := op1l_inv h
      clear h
      subst hst
      obtain ⟨k1, k2⟩ := bif_inv hz
      have k1' := Nat.le_of_ble_eq_true k1
      exact va_mabs_long hx hb (hml.trans hL.1.symm) hown (hts _ (List.mem_of_getElem? g1)) (hts _ (List.mem_of_getElem? (i := 712) rfl)) (hts _ (List.mem_of_getElem? (i := 41) rfl)) (hts _ (List.mem_of_getElem? (i := 713) rfl)) (Nat.le_trans g2 F.2.2.2.2.2.2.1) (by rw [cats_rv]; have := F.2.2.2.2.2.2.2.1; omega) F.2.2.2.2.2.2.2.2.1 F.2.2.2.2.2.2.2.2.2 hdg (go k2 hL (okLg (okT hO)) hH hS)
    | false =>
    cases h96 : Nat.beq a 996 with
    | true =>
      simp only [h9, h93, h94, h96, cond_false, cond_true, maB, decide_eq_true_eq] at hok
      obtain ⟨g1, g2, g3, rfl⟩ := hok
      have h : (bif Nat.beq a 999 then copyx st s (fun rr s1 => run n i (pc + 3) lo rr s1) else bif Nat.beq a 993 then op1i st (fun x rr => bif Nat.ble (cats rr) 8 then run n i (pc + 3) lo (.inl (if 0 ≤ x then x else 0 - x) :: rr) s else none) else bif Nat.beq a 994 then op1l st (fun x rr => bif Nat.ble (cats rr) 8 then run n i (pc + 3) lo (.inr (.inl (if 0 < x then x else -x)) :: rr) s else none) else bif Nat.beq a 996 then op2i st (fun x y rr => bif Nat.ble (cats rr) 8 then run n i (pc + 3) lo (.inl (if y < x then y else x) :: rr) s else none) else _) = some (r, s') := h
      rw [h9, h93, h94, h96] at h
      obtain ⟨x, y, rr, hst, hz⟩ := op2i_inv h
      clear h
      subst hst
      obtain ⟨k1, k2⟩ := bif_inv hz
      have k1' := Nat.le_of_ble_eq_true k1
      exact va_mmin hx hb (hml.trans hL.1.symm) hown (hts _ (List.mem_of_getElem? g1)) (hts _ (List.mem_of_getElem? (i := 836) rfl)) (hts _ (List.mem_of_getElem? (i := 41) rfl)) (hts _ (List.mem_of_getElem? (i := 837) rfl)) (Nat.le_trans g2 F.2.2.2.2.2.2.1) (by rw [cats_rv]; have := F.2.2.2.2.2.2.2.1; omega) F.2.2.2.2.2.2.2.2.1 F.2.2.2.2.2.2.2.2.2 hdg (go k2 hL (okI (okT (okT hO))) hH hS)
    | false =>
      simp only [h9, h93, h94, h96, cond_false, Bool.and_eq_true, decide_eq_true_eq] at hok
      obtain ⟨hc, rfl⟩ := hok
      have h : (bif Nat.beq a 999 then copyx st s (fun rr s1 => run n i (pc + 3) lo rr s1) else bif Nat.beq a 993 then op1i st (fun x rr => bif Nat.ble (cats rr) 8 then run n i (pc + 3) lo (.inl (if 0 ≤ x then x else 0 - x) :: rr) s else none) else bif Nat.beq a 994 then op1l st (fun x rr => bif Nat.ble (cats rr) 8 then run n i (pc + 3) lo (.inr (.inl (if 0 < x then x else -x)) :: rr) s else none) else bif Nat.beq a 996 then op2i st (fun x y rr => bif Nat.ble (cats rr) 8 then run n i (pc + 3) lo (.inl (if y < x then y else x) :: rr) s else none) else callx (run n) a b d ee (st.take b).reverse (st.drop b) s (fun rr s1 => run n i (pc + 3) lo rr s1)) = some (r, s') := h
      rw [h9, h93, h94, h96] at h
      obtain ⟨k1, k2, k0, rr, s1, k3, k4, k5⟩ := callx_inv (F := fun rr s1 => run n i (pc + 3) lo rr s1) h
      have ha : a < 237 ∧ (a < 3 ∨ 6 < a) := by
        unfold caB at hc
        simp only [Bool.and_eq_true, decide_eq_true_eq] at hc
        exact hc.1.1
      rw [← take_drop_rev st b]
      exact sg_callS ih F B hH hS hL.1 (hMs a ha.1 ha.2) hc k0 (okS_take hO b) k2 k1 k3 hdg (fun H1 locs1 q1 q2 => go k4 hL (okS_app k5 (okS_drop hO b)) q1 q2)
  | invokevirtual ix =>
    simp only [Bool.and_eq_true, decide_eq_true_eq] at hok
    obtain ⟨hc, rfl⟩ := hok
    obtain ⟨hr, h⟩ := bif_inv (c := recvx (st.take b).reverse f) h
    obtain ⟨k1, k2, k0, rr, s1, k3, k4, k5⟩ := callx_inv (F := fun rr s1 => run n i (pc + 3) lo rr s1) h
    obtain ⟨kd, j, as, has, hk⟩ := recvx_inv hr
    have ha : a < 237 ∧ (a < 3 ∨ 6 < a) := by
      unfold caB at hc
      simp only [Bool.and_eq_true, decide_eq_true_eq] at hc
      exact hc.1.1
    have hst : st = as.reverse ++ .inr (.inr (kd, j)) :: st.drop b := by
      have := take_drop_rev st b
      rw [has] at this
      rw [List.reverse_cons, List.append_assoc] at this
      exact this.symm
    have hoa := okS_take hO b
    rw [has] at k2 k3 hoa
    have hbl : as.length + 1 = b := by
      rw [has] at k0
      exact k0
    rw [hst]
    exact sg_callV ih F B hH hS hL.1 (hMs a ha.1 ha.2) hc hbl hk hoa k2 k1 k3 hdg (fun H1 locs1 q1 q2 => go k4 hL (okS_app k5 (okS_drop hO b)) q1 q2)
  | ireturn =>
    obtain ⟨rfl, hd⟩ := of_decide_eq_true hok
    obtain ⟨rfl, rfl, hr⟩ := retx_inv (st := st) (d := d) (s := s) h
    clear h
    refine hret pc ls H locs ?_ hH hS
    match r, hr with
    | some (.inl x), hr =>
      have hr : d = 0 ∨ (d = 3 ∧ isZ x = true) := hr
      refine ⟨hdg, ?_⟩
      rcases hd with ⟨d0, hd⟩ | ⟨d3, hd⟩
      · exact Or.inl hd
      · rcases hr with hr | ⟨-, hz⟩
        · rw [d3] at hr; cases hr
        · exact Or.inr ⟨hd, hz⟩
    | some (.inr (.inl x)), hr => rcases hd with ⟨d0, -⟩ | ⟨d3, -⟩ <;> (have hr : d = 1 := hr; omega)
    | some (.inr (.inr x)), hr => exact hr.elim
    | none, hr => rcases hd with ⟨d0, -⟩ | ⟨d3, -⟩ <;> (have hr : d = 2 := hr; omega)
  | lreturn =>
    obtain ⟨rfl, d1, hd⟩ := of_decide_eq_true hok
    obtain ⟨rfl, rfl, hr⟩ := retx_inv (st := st) (d := d) (s := s) h
    clear h
    refine hret pc ls H locs ?_ hH hS
    match r, hr with
    | some (.inl x), hr =>
      have hr : d = 0 ∨ (d = 3 ∧ isZ x = true) := hr
      rcases hr with hr | ⟨hr, -⟩ <;> omega
    | some (.inr (.inl x)), hr => exact ⟨hdg, hd⟩
    | some (.inr (.inr x)), hr => exact hr.elim
    | none, hr => have hr : d = 2 := hr; omega
  | return_ =>
    obtain ⟨rfl, d1, hd⟩ := of_decide_eq_true hok
    obtain ⟨rfl, rfl, hr⟩ := retx_inv (st := st) (d := d) (s := s) h
    clear h
    refine hret pc ls H locs ?_ hH hS
    match r, hr with
    | some (.inl x), hr =>
      have hr : d = 0 ∨ (d = 3 ∧ isZ x = true) := hr
      rcases hr with hr | ⟨hr, -⟩ <;> omega
    | some (.inr (.inl x)), hr => have hr : d = 1 := hr; omega
    | some (.inr (.inr x)), hr => exact hr.elim
    | none, hr => exact ⟨hdg, hd⟩
  | _ => cases h
theorem sound {ad : Nat × Nat → Nat} {C : Cls} {D : va_G} {xs : Nat → Int32} {L : Nat} (hMs : ∀ a, a < 237 → (a < 3 ∨ 6 < a) → okM a = true) (hTf : ∀ i pc en, lkp (mtab i) pc = some en → okB i pc en = true) : ∀ n, Sound ad C D xs L n
  | 0 => fun i pc lo st s r s' h => by cases h
  | n + 1 => by
    intro i pc lo st s r s' h p l e R s0 m args below meth c H locs cells slots Q ls A H0 F B hL hO hH hS hret
    have h : body (run n) (run n) i pc lo st s = some (r, s') := h
    unfold body at h
    split at h
    · cases h
    · rename_i en hen
      have hok := hTf i pc en hen
      split at h
      · exact opx_sound hMs (sound hMs hTf n) hok h p l e R s0 m args below meth c H locs cells slots Q ls A H0 F B hL hO hH hS hret
      · rw [frc_eq] at h
        exact opx_sound hMs (sound hMs hTf n) hok h p l e R s0 m args below meth c H locs cells slots Q ls A H0 F B (LRep_kil hL _) hO hH hS hret
end
section
set_option maxRecDepth 20000 in
theorem q_0 (p0 : Int32) (p1 : Int32) (s : SS) : ev 0 0 [some (.inl p0), some (.inl p1)] [] s = (if p0 < p1 then some (some (.inl (-1)), s) else (if p0 = p1 then some (some (.inl 0), s) else some (some (.inl 1), s))) := (ev_go [] 40 0 0 [some (.inl p0), some (.inl p1)] [] s).trans rfl
set_option maxRecDepth 20000 in
theorem q_1 (p0 : Int32) (s : SS) : ev 1 0 [some (.inl p0)] [] s = some (some (.inl ((((((((p0 - (((p0.toUInt32 >>> ((1 : Int32).toUInt32 &&& Int32.toUInt32 31)).toInt32) &&& 1431655765)) &&& 858993459) + ((((p0 - (((p0.toUInt32 >>> ((1 : Int32).toUInt32 &&& Int32.toUInt32 31)).toInt32) &&& 1431655765)).toUInt32 >>> ((2 : Int32).toUInt32 &&& Int32.toUInt32 31)).toInt32) &&& 858993459)) + (((((p0 - (((p0.toUInt32 >>> ((1 : Int32).toUInt32 &&& Int32.toUInt32 31)).toInt32) &&& 1431655765)) &&& 858993459) + ((((p0 - (((p0.toUInt32 >>> ((1 : Int32).toUInt32 &&& Int32.toUInt32 31)).toInt32) &&& 1431655765)).toUInt32 >>> ((2 : Int32).toUInt32 &&& Int32.toUInt32 31)).toInt32) &&& 858993459)).toUInt32 >>> ((4 : Int32).toUInt32 &&& Int32.toUInt32 31)).toInt32)) &&& 252645135) + (((((((p0 - (((p0.toUInt32 >>> ((1 : Int32).toUInt32 &&& Int32.toUInt32 31)).toInt32) &&& 1431655765)) &&& 858993459) + ((((p0 - (((p0.toUInt32 >>> ((1 : Int32).toUInt32 &&& Int32.toUInt32 31)).toInt32) &&& 1431655765)).toUInt32 >>> ((2 : Int32).toUInt32 &&& Int32.toUInt32 31)).toInt32) &&& 858993459)) + (((((p0 - (((p0.toUInt32 >>> ((1 : Int32).toUInt32 &&& Int32.toUInt32 31)).toInt32) &&& 1431655765)) &&& 858993459) + ((((p0 - (((p0.toUInt32 >>> ((1 : Int32).toUInt32 &&& Int32.toUInt32 31)).toInt32) &&& 1431655765)).toUInt32 >>> ((2 : Int32).toUInt32 &&& Int32.toUInt32 31)).toInt32) &&& 858993459)).toUInt32 >>> ((4 : Int32).toUInt32 &&& Int32.toUInt32 31)).toInt32)) &&& 252645135).toUInt32 >>> ((8 : Int32).toUInt32 &&& Int32.toUInt32 31)).toInt32)) + ((((((((p0 - (((p0.toUInt32 >>> ((1 : Int32).toUInt32 &&& Int32.toUInt32 31)).toInt32) &&& 1431655765)) &&& 858993459) + ((((p0 - (((p0.toUInt32 >>> ((1 : Int32).toUInt32 &&& Int32.toUInt32 31)).toInt32) &&& 1431655765)).toUInt32 >>> ((2 : Int32).toUInt32 &&& Int32.toUInt32 31)).toInt32) &&& 858993459)) + (((((p0 - (((p0.toUInt32 >>> ((1 : Int32).toUInt32 &&& Int32.toUInt32 31)).toInt32) &&& 1431655765)) &&& 858993459) + ((((p0 - (((p0.toUInt32 >>> ((1 : Int32).toUInt32 &&& Int32.toUInt32 31)).toInt32) &&& 1431655765)).toUInt32 >>> ((2 : Int32).toUInt32 &&& Int32.toUInt32 31)).toInt32) &&& 858993459)).toUInt32 >>> ((4 : Int32).toUInt32 &&& Int32.toUInt32 31)).toInt32)) &&& 252645135) + (((((((p0 - (((p0.toUInt32 >>> ((1 : Int32).toUInt32 &&& Int32.toUInt32 31)).toInt32) &&& 1431655765)) &&& 858993459) + ((((p0 - (((p0.toUInt32 >>> ((1 : Int32).toUInt32 &&& Int32.toUInt32 31)).toInt32) &&& 1431655765)).toUInt32 >>> ((2 : Int32).toUInt32 &&& Int32.toUInt32 31)).toInt32) &&& 858993459)) + (((((p0 - (((p0.toUInt32 >>> ((1 : Int32).toUInt32 &&& Int32.toUInt32 31)).toInt32) &&& 1431655765)) &&& 858993459) + ((((p0 - (((p0.toUInt32 >>> ((1 : Int32).toUInt32 &&& Int32.toUInt32 31)).toInt32) &&& 1431655765)).toUInt32 >>> ((2 : Int32).toUInt32 &&& Int32.toUInt32 31)).toInt32) &&& 858993459)).toUInt32 >>> ((4 : Int32).toUInt32 &&& Int32.toUInt32 31)).toInt32)) &&& 252645135).toUInt32 >>> ((8 : Int32).toUInt32 &&& Int32.toUInt32 31)).toInt32)).toUInt32 >>> ((16 : Int32).toUInt32 &&& Int32.toUInt32 31)).toInt32)) &&& 63)), s) := (ev_go [] 47 1 0 [some (.inl p0)] [] s).trans rfl
set_option maxRecDepth 20000 in
theorem q_2 (p0 : Int64) (p1 : Int64) (s : SS) : ev 2 0 [some (.inr (.inl p0)), none, some (.inr (.inl p1)), none] [] s = (if (lg_cmp p0 p1) < 0 then some (some (.inl (-1)), s) else (if (lg_cmp p0 p1) = 0 then some (some (.inl 0), s) else some (some (.inl 1), s))) := (ev_go [] 40 2 0 [some (.inr (.inl p0)), none, some (.inr (.inl p1)), none] [] s).trans rfl
set_option maxRecDepth 20000 in
theorem q_3 (p0 : Int32) (s : SS) : ev 3 0 [some (.inl p0)] [] s = (if p0 < 0 then some (some (.inl (-p0)), s) else some (some (.inl p0), s)) := (ev_go [] 40 3 0 [some (.inl p0)] [] s).trans rfl
set_option maxRecDepth 20000 in
theorem q_4 (p0 : Int64) (s : SS) : ev 4 0 [some (.inr (.inl p0)), none] [] s = (if (lg_cmp p0 0) < 0 then some (some (.inr (.inl (-p0))), s) else some (some (.inr (.inl p0)), s)) := (ev_go [] 40 4 0 [some (.inr (.inl p0)), none] [] s).trans rfl
set_option maxRecDepth 20000 in
theorem q_5 (p0 : Int32) (p1 : Int32) (s : SS) : ev 5 0 [some (.inl p0), some (.inl p1)] [] s = (if p0 < p1 then some (some (.inl p1), s) else some (some (.inl p0), s)) := (ev_go [] 40 5 0 [some (.inl p0), some (.inl p1)] [] s).trans rfl
set_option maxRecDepth 20000 in
theorem q_6 (p0 : Int32) (p1 : Int32) (s : SS) : ev 6 0 [some (.inl p0), some (.inl p1)] [] s = (if p1 < p0 then some (some (.inl p1), s) else some (some (.inl p0), s)) := (ev_go [] 40 6 0 [some (.inl p0), some (.inl p1)] [] s).trans rfl
set_option maxRecDepth 20000 in
theorem q_7 (p1 : Int64) (s : SS) : ev 7 0 [some (.inr (.inr (19, 0))), some (.inr (.inl p1)), none, none, none] [] s = ev 7 6 [some (.inr (.inr (19, 0))), some (.inr (.inl p1)), none, some (.inl 0), some (.inl (nI 1024))] [] s := (ev_go [6] 40 7 0 [some (.inr (.inr (19, 0))), some (.inr (.inl p1)), none, none, none] [] s).trans rfl
set_option maxRecDepth 20000 in
theorem q_7_at6 (l1 : Int64) (l3 : Int32) (l4 : Int32) (s : SS) : ev 7 6 [some (.inr (.inr (19, 0))), some (.inr (.inl l1)), none, some (.inl l3), some (.inl l4)] [] s = (if l3 < l4 then (if ixB l3 1024 = true then ev 7 6 [some (.inr (.inr (19, 0))), some (.inr (.inl l1)), none, some (.inl (l3 + 1)), some (.inl l4)] [] (wL s 19 0 l3.toNatClampNeg l1) else none) else some (none, s)) := (ev_go [6] 40 7 6 [some (.inr (.inr (19, 0))), some (.inr (.inl l1)), none, some (.inl l3), some (.inl l4)] [] s).trans rfl
set_option maxRecDepth 20000 in
theorem q_8_7 (j : Nat) (p1 : Int32) (s : SS) : ev 8 0 [some (.inr (.inr (7, j))), some (.inl p1), none, none] [] s = ev 8 5 [some (.inr (.inr (7, j))), some (.inl p1), some (.inl 0), some (.inl (nI 40))] [] s := (ev_go [5] 40 8 0 [some (.inr (.inr (7, j))), some (.inl p1), none, none] [] s).trans rfl
set_option maxRecDepth 20000 in
theorem q_8_at5_7 (j : Nat) (l1 : Int32) (l2 : Int32) (l3 : Int32) (s : SS) : ev 8 5 [some (.inr (.inr (7, j))), some (.inl l1), some (.inl l2), some (.inl l3)] [] s = (if l2 < l3 then (if ixB l2 40 = true then ev 8 5 [some (.inr (.inr (7, j))), some (.inl l1), some (.inl (l2 + 1)), some (.inl l3)] [] (wI s 7 j l2.toNatClampNeg l1) else none) else some (none, s)) := (ev_go [5] 40 8 5 [some (.inr (.inr (7, j))), some (.inl l1), some (.inl l2), some (.inl l3)] [] s).trans rfl
set_option maxRecDepth 20000 in
theorem q_8_8 (j : Nat) (p1 : Int32) (s : SS) : ev 8 0 [some (.inr (.inr (8, j))), some (.inl p1), none, none] [] s = ev 8 5 [some (.inr (.inr (8, j))), some (.inl p1), some (.inl 0), some (.inl (nI 40))] [] s := (ev_go [5] 40 8 0 [some (.inr (.inr (8, j))), some (.inl p1), none, none] [] s).trans rfl
set_option maxRecDepth 20000 in
theorem q_8_at5_8 (j : Nat) (l1 : Int32) (l2 : Int32) (l3 : Int32) (s : SS) : ev 8 5 [some (.inr (.inr (8, j))), some (.inl l1), some (.inl l2), some (.inl l3)] [] s = (if l2 < l3 then (if ixB l2 40 = true then ev 8 5 [some (.inr (.inr (8, j))), some (.inl l1), some (.inl (l2 + 1)), some (.inl l3)] [] (wI s 8 j l2.toNatClampNeg l1) else none) else some (none, s)) := (ev_go [5] 40 8 5 [some (.inr (.inr (8, j))), some (.inl l1), some (.inl l2), some (.inl l3)] [] s).trans rfl
set_option maxRecDepth 20000 in
theorem q_9_1 (p0 : Int32) (s : SS) : ev 9 0 [some (.inr (.inr (1, 0))), some (.inl p0)] [] s = (if p0 < 0 then some (some (.inl 0), s) else (if p0 < (nI 6) then some (some (.inl 1), s) else some (some (.inl 0), s))) := (ev_go [] 40 9 0 [some (.inr (.inr (1, 0))), some (.inl p0)] [] s).trans rfl
set_option maxRecDepth 20000 in
theorem q_9_2 (p0 : Int32) (s : SS) : ev 9 0 [some (.inr (.inr (2, 0))), some (.inl p0)] [] s = (if p0 < 0 then some (some (.inl 0), s) else (if p0 < (nI 4) then some (some (.inl 1), s) else some (some (.inl 0), s))) := (ev_go [] 40 9 0 [some (.inr (.inr (2, 0))), some (.inl p0)] [] s).trans rfl
set_option maxRecDepth 20000 in
theorem q_10_1 (p0 : Int32) (s : SS) : ev 10 0 [some (.inr (.inr (1, 0))), some (.inl p0)] [] s = cI (ev 9 0 [some (.inr (.inr (1, 0))), some (.inl p0)] [] s) (fun x1 s1 => (if x1 = 0 then some (some (.inl 0), s1) else (if ixB p0 6 = true then (if (s1.1 5 0 p0.toNatClampNeg) = (-1) then some (some (.inl 0), s1) else some (some (.inl 1), s1)) else none))) := (ev_go [] 40 10 0 [some (.inr (.inr (1, 0))), some (.inl p0)] [] s).trans rfl
set_option maxRecDepth 20000 in
theorem q_10_2 (p0 : Int32) (s : SS) : ev 10 0 [some (.inr (.inr (2, 0))), some (.inl p0)] [] s = cI (ev 9 0 [some (.inr (.inr (2, 0))), some (.inl p0)] [] s) (fun x1 s1 => (if x1 = 0 then some (some (.inl 0), s1) else (if ixB p0 4 = true then (if (s1.1 6 0 p0.toNatClampNeg) = (-1) then some (some (.inl 0), s1) else some (some (.inl 1), s1)) else none))) := (ev_go [] 40 10 0 [some (.inr (.inr (2, 0))), some (.inl p0)] [] s).trans rfl
set_option maxRecDepth 20000 in
theorem q_11_1 (p0 : Int32) (s : SS) : ev 11 0 [some (.inr (.inr (1, 0))), some (.inl p0)] [] s = cI (ev 10 0 [some (.inr (.inr (1, 0))), some (.inl p0)] [] s) (fun x1 s1 => (if x1 = 0 then some (some (.inl 0), s1) else (if ixB p0 6 = true then some (some (.inl (s1.1 5 0 p0.toNatClampNeg)), s1) else none))) := (ev_go [] 40 11 0 [some (.inr (.inr (1, 0))), some (.inl p0)] [] s).trans rfl
set_option maxRecDepth 20000 in
theorem q_11_2 (p0 : Int32) (s : SS) : ev 11 0 [some (.inr (.inr (2, 0))), some (.inl p0)] [] s = cI (ev 10 0 [some (.inr (.inr (2, 0))), some (.inl p0)] [] s) (fun x1 s1 => (if x1 = 0 then some (some (.inl 0), s1) else (if ixB p0 4 = true then some (some (.inl (s1.1 6 0 p0.toNatClampNeg)), s1) else none))) := (ev_go [] 40 11 0 [some (.inr (.inr (2, 0))), some (.inl p0)] [] s).trans rfl
set_option maxRecDepth 20000 in
theorem q_12_1 (p0 : Int32) (p1 : Int32) (p2 : Int32) (s : SS) : ev 12 0 [some (.inr (.inr (1, 0))), some (.inl p0), some (.inl p1), some (.inl p2)] [] s = cI (ev 10 0 [some (.inr (.inr (1, 0))), some (.inl p0)] [] s) (fun x1 s1 => (if x1 = 0 then some (some (.inl 0), s1) else (if p1 < 0 then some (some (.inl 0), s1) else (if p2 < 0 then some (some (.inl 0), s1) else (if ixB p0 6 = true then (if ((s1.1 5 0 p0.toNatClampNeg) - p2) < p1 then some (some (.inl 0), s1) else some (some (.inl 1), s1)) else none))))) := (ev_go [] 40 12 0 [some (.inr (.inr (1, 0))), some (.inl p0), some (.inl p1), some (.inl p2)] [] s).trans rfl
set_option maxRecDepth 20000 in
theorem q_12_2 (p0 : Int32) (p1 : Int32) (p2 : Int32) (s : SS) : ev 12 0 [some (.inr (.inr (2, 0))), some (.inl p0), some (.inl p1), some (.inl p2)] [] s = cI (ev 10 0 [some (.inr (.inr (2, 0))), some (.inl p0)] [] s) (fun x1 s1 => (if x1 = 0 then some (some (.inl 0), s1) else (if p1 < 0 then some (some (.inl 0), s1) else (if p2 < 0 then some (some (.inl 0), s1) else (if ixB p0 4 = true then (if ((s1.1 6 0 p0.toNatClampNeg) - p2) < p1 then some (some (.inl 0), s1) else some (some (.inl 1), s1)) else none))))) := (ev_go [] 40 12 0 [some (.inr (.inr (2, 0))), some (.inl p0), some (.inl p1), some (.inl p2)] [] s).trans rfl
set_option maxRecDepth 20000 in
theorem q_13_1 (p0 : Int32) (p1 : Int32) (p2 : Int32) (s : SS) : ev 13 0 [some (.inr (.inr (1, 0))), some (.inl p0), some (.inl p1), some (.inl p2)] [] s = cI (ev 9 0 [some (.inr (.inr (1, 0))), some (.inl p0)] [] s) (fun x1 s1 => (if x1 = 0 then some (none, s1) else (if p1 < 0 then some (none, s1) else (if 40 < p1 then some (none, s1) else (if ixB p0 6 = true then (if ixB p0 6 = true then cV (ev 8 0 [some (.inr (.inr (7, p0.toNatClampNeg))), some (.inl p2), none, none] [] (wI s1 5 0 p0.toNatClampNeg p1)) (fun s2 => some (none, s2)) else none) else none))))) := (ev_go [] 40 13 0 [some (.inr (.inr (1, 0))), some (.inl p0), some (.inl p1), some (.inl p2)] [] s).trans rfl
set_option maxRecDepth 20000 in
theorem q_13_2 (p0 : Int32) (p1 : Int32) (p2 : Int32) (s : SS) : ev 13 0 [some (.inr (.inr (2, 0))), some (.inl p0), some (.inl p1), some (.inl p2)] [] s = cI (ev 9 0 [some (.inr (.inr (2, 0))), some (.inl p0)] [] s) (fun x1 s1 => (if x1 = 0 then some (none, s1) else (if p1 < 0 then some (none, s1) else (if 40 < p1 then some (none, s1) else (if ixB p0 4 = true then (if ixB p0 4 = true then cV (ev 8 0 [some (.inr (.inr (8, p0.toNatClampNeg))), some (.inl p2), none, none] [] (wI s1 6 0 p0.toNatClampNeg p1)) (fun s2 => some (none, s2)) else none) else none))))) := (ev_go [] 40 13 0 [some (.inr (.inr (2, 0))), some (.inl p0), some (.inl p1), some (.inl p2)] [] s).trans rfl
set_option maxRecDepth 20000 in
theorem q_14_1 (p0 : Int32) (s : SS) : ev 14 0 [some (.inr (.inr (1, 0))), some (.inl p0)] [] s = cI (ev 9 0 [some (.inr (.inr (1, 0))), some (.inl p0)] [] s) (fun x1 s1 => (if x1 = 0 then some (none, s1) else (if ixB p0 6 = true then some (none, (wI s1 5 0 p0.toNatClampNeg (-1))) else none))) := (ev_go [] 40 14 0 [some (.inr (.inr (1, 0))), some (.inl p0)] [] s).trans rfl
set_option maxRecDepth 20000 in
theorem q_14_2 (p0 : Int32) (s : SS) : ev 14 0 [some (.inr (.inr (2, 0))), some (.inl p0)] [] s = cI (ev 9 0 [some (.inr (.inr (2, 0))), some (.inl p0)] [] s) (fun x1 s1 => (if x1 = 0 then some (none, s1) else (if ixB p0 4 = true then some (none, (wI s1 6 0 p0.toNatClampNeg (-1))) else none))) := (ev_go [] 40 14 0 [some (.inr (.inr (2, 0))), some (.inl p0)] [] s).trans rfl
set_option maxRecDepth 20000 in
theorem q_15_1 (p0 : Int32) (p1 : Int32) (s : SS) : ev 15 0 [some (.inr (.inr (1, 0))), some (.inl p0), some (.inl p1)] [] s = cI (ev 12 0 [some (.inr (.inr (1, 0))), some (.inl p0), some (.inl p1), some (.inl 1)] [] s) (fun x1 s1 => (if x1 = 0 then some (some (.inl 0), s1) else (if ixB p0 6 = true then (if ixB p1 40 = true then some (some (.inl (s1.1 7 p0.toNatClampNeg p1.toNatClampNeg)), s1) else none) else none))) := (ev_go [] 40 15 0 [some (.inr (.inr (1, 0))), some (.inl p0), some (.inl p1)] [] s).trans rfl
set_option maxRecDepth 20000 in
theorem q_15_2 (p0 : Int32) (p1 : Int32) (s : SS) : ev 15 0 [some (.inr (.inr (2, 0))), some (.inl p0), some (.inl p1)] [] s = cI (ev 12 0 [some (.inr (.inr (2, 0))), some (.inl p0), some (.inl p1), some (.inl 1)] [] s) (fun x1 s1 => (if x1 = 0 then some (some (.inl 0), s1) else (if ixB p0 4 = true then (if ixB p1 40 = true then some (some (.inl (s1.1 8 p0.toNatClampNeg p1.toNatClampNeg)), s1) else none) else none))) := (ev_go [] 40 15 0 [some (.inr (.inr (2, 0))), some (.inl p0), some (.inl p1)] [] s).trans rfl
set_option maxRecDepth 20000 in
theorem q_16_1 (p0 : Int32) (p1 : Int32) (p2 : Int32) (s : SS) : ev 16 0 [some (.inr (.inr (1, 0))), some (.inl p0), some (.inl p1), some (.inl p2)] [] s = cI (ev 12 0 [some (.inr (.inr (1, 0))), some (.inl p0), some (.inl p1), some (.inl 1)] [] s) (fun x1 s1 => (if x1 = 0 then some (none, s1) else (if ixB p0 6 = true then (if ixB p1 40 = true then some (none, (wI s1 7 p0.toNatClampNeg p1.toNatClampNeg p2)) else none) else none))) := (ev_go [] 40 16 0 [some (.inr (.inr (1, 0))), some (.inl p0), some (.inl p1), some (.inl p2)] [] s).trans rfl
set_option maxRecDepth 20000 in
theorem q_16_2 (p0 : Int32) (p1 : Int32) (p2 : Int32) (s : SS) : ev 16 0 [some (.inr (.inr (2, 0))), some (.inl p0), some (.inl p1), some (.inl p2)] [] s = cI (ev 12 0 [some (.inr (.inr (2, 0))), some (.inl p0), some (.inl p1), some (.inl 1)] [] s) (fun x1 s1 => (if x1 = 0 then some (none, s1) else (if ixB p0 4 = true then (if ixB p1 40 = true then some (none, (wI s1 8 p0.toNatClampNeg p1.toNatClampNeg p2)) else none) else none))) := (ev_go [] 40 16 0 [some (.inr (.inr (2, 0))), some (.inl p0), some (.inl p1), some (.inl p2)] [] s).trans rfl
set_option maxRecDepth 20000 in
theorem q_17_1 (p0 : Int32) (p1 : Int32) (p2 : Int32) (p3 : Int32) (p4 : Int32) (s : SS) : ev 17 0 [some (.inr (.inr (1, 0))), some (.inl p0), some (.inl p1), some (.inl p2), some (.inl p3), some (.inl p4)] [] s = cI (ev 12 0 [some (.inr (.inr (1, 0))), some (.inl p0), some (.inl p1), some (.inl p4)] [] s) (fun x1 s1 => (if x1 = 0 then some (none, s1) else cI (ev 12 0 [some (.inr (.inr (1, 0))), some (.inl p2), some (.inl p3), some (.inl p4)] [] s1) (fun x2 s2 => (if x2 = 0 then some (none, s2) else (if ixB p0 6 = true then (if ixB p2 6 = true then (if ¬ p1 < 0 ∧ ¬ p3 < 0 ∧ ¬ p4 < 0 ∧ p1.toNatClampNeg + p4.toNatClampNeg ≤ 40 ∧ p3.toNatClampNeg + p4.toNatClampNeg ≤ 40 then some (none, (wA s2 7 p2.toNatClampNeg (va_cpy (s2.1 7 p0.toNatClampNeg) (s2.1 7 p2.toNatClampNeg) p1.toNatClampNeg p3.toNatClampNeg p4.toNatClampNeg))) else none) else none) else none))))) := (ev_go [] 40 17 0 [some (.inr (.inr (1, 0))), some (.inl p0), some (.inl p1), some (.inl p2), some (.inl p3), some (.inl p4)] [] s).trans rfl
set_option maxRecDepth 20000 in
theorem q_17_2 (p0 : Int32) (p1 : Int32) (p2 : Int32) (p3 : Int32) (p4 : Int32) (s : SS) : ev 17 0 [some (.inr (.inr (2, 0))), some (.inl p0), some (.inl p1), some (.inl p2), some (.inl p3), some (.inl p4)] [] s = cI (ev 12 0 [some (.inr (.inr (2, 0))), some (.inl p0), some (.inl p1), some (.inl p4)] [] s) (fun x1 s1 => (if x1 = 0 then some (none, s1) else cI (ev 12 0 [some (.inr (.inr (2, 0))), some (.inl p2), some (.inl p3), some (.inl p4)] [] s1) (fun x2 s2 => (if x2 = 0 then some (none, s2) else (if ixB p0 4 = true then (if ixB p2 4 = true then (if ¬ p1 < 0 ∧ ¬ p3 < 0 ∧ ¬ p4 < 0 ∧ p1.toNatClampNeg + p4.toNatClampNeg ≤ 40 ∧ p3.toNatClampNeg + p4.toNatClampNeg ≤ 40 then some (none, (wA s2 8 p2.toNatClampNeg (va_cpy (s2.1 8 p0.toNatClampNeg) (s2.1 8 p2.toNatClampNeg) p1.toNatClampNeg p3.toNatClampNeg p4.toNatClampNeg))) else none) else none) else none))))) := (ev_go [] 40 17 0 [some (.inr (.inr (2, 0))), some (.inl p0), some (.inl p1), some (.inl p2), some (.inl p3), some (.inl p4)] [] s).trans rfl
set_option maxRecDepth 20000 in
theorem q_18_1 (p0 : Int32) (s : SS) : ev 18 0 [some (.inr (.inr (1, 0))), some (.inl p0), none, none, none] [] s = ev 18 5 [some (.inr (.inr (1, 0))), some (.inl p0), some (.inr (.inl 0)), none, some (.inl 0)] [] s := (ev_go [5] 40 18 0 [some (.inr (.inr (1, 0))), some (.inl p0), none, none, none] [] s).trans rfl
set_option maxRecDepth 20000 in
theorem q_18_at5_1 (l1 : Int32) (l2 : Int64) (l4 : Int32) (s : SS) : ev 18 5 [some (.inr (.inr (1, 0))), some (.inl l1), some (.inr (.inl l2)), none, some (.inl l4)] [] s = cI (ev 11 0 [some (.inr (.inr (1, 0))), some (.inl l1)] [] s) (fun x1 s1 => (if l4 < x1 then (if ixB l1 6 = true then (if ixB l4 40 = true then ev 18 5 [some (.inr (.inr (1, 0))), some (.inl l1), some (.inr (.inl (l2 + ((s1.1 7 l1.toNatClampNeg l4.toNatClampNeg).toInt64)))), none, some (.inl (l4 + 1))] [] s1 else none) else none) else some (some (.inr (.inl l2)), s1))) := (ev_go [5] 40 18 5 [some (.inr (.inr (1, 0))), some (.inl l1), some (.inr (.inl l2)), none, some (.inl l4)] [] s).trans rfl
set_option maxRecDepth 20000 in
theorem q_18_2 (p0 : Int32) (s : SS) : ev 18 0 [some (.inr (.inr (2, 0))), some (.inl p0), none, none, none] [] s = ev 18 5 [some (.inr (.inr (2, 0))), some (.inl p0), some (.inr (.inl 0)), none, some (.inl 0)] [] s := (ev_go [5] 40 18 0 [some (.inr (.inr (2, 0))), some (.inl p0), none, none, none] [] s).trans rfl
set_option maxRecDepth 20000 in
theorem q_18_at5_2 (l1 : Int32) (l2 : Int64) (l4 : Int32) (s : SS) : ev 18 5 [some (.inr (.inr (2, 0))), some (.inl l1), some (.inr (.inl l2)), none, some (.inl l4)] [] s = cI (ev 11 0 [some (.inr (.inr (2, 0))), some (.inl l1)] [] s) (fun x1 s1 => (if l4 < x1 then (if ixB l1 4 = true then (if ixB l4 40 = true then ev 18 5 [some (.inr (.inr (2, 0))), some (.inl l1), some (.inr (.inl (l2 + ((s1.1 8 l1.toNatClampNeg l4.toNatClampNeg).toInt64)))), none, some (.inl (l4 + 1))] [] s1 else none) else none) else some (some (.inr (.inl l2)), s1))) := (ev_go [5] 40 18 5 [some (.inr (.inr (2, 0))), some (.inl l1), some (.inr (.inl l2)), none, some (.inl l4)] [] s).trans rfl
set_option maxRecDepth 20000 in
theorem q_19_1  (s : SS) : ev 19 0 [some (.inr (.inr (1, 0))), none, none] [] s = ev 19 4 [some (.inr (.inr (1, 0))), some (.inl 0), some (.inl 0)] [] s := (ev_go [4] 40 19 0 [some (.inr (.inr (1, 0))), none, none] [] s).trans rfl
set_option maxRecDepth 20000 in
theorem q_19_at4_1 (l1 : Int32) (l2 : Int32) (s : SS) : ev 19 4 [some (.inr (.inr (1, 0))), some (.inl l1), some (.inl l2)] [] s = (if l2 < (nI 6) then (if ixB l2 6 = true then (if (s.1 5 0 l2.toNatClampNeg) = (-1) then ev 19 4 [some (.inr (.inr (1, 0))), some (.inl l1), some (.inl (l2 + 1))] [] s else ev 19 4 [some (.inr (.inr (1, 0))), some (.inl (l1 + 1)), some (.inl (l2 + 1))] [] s) else none) else some (some (.inl l1), s)) := (ev_go [4] 40 19 4 [some (.inr (.inr (1, 0))), some (.inl l1), some (.inl l2)] [] s).trans rfl
set_option maxRecDepth 20000 in
theorem q_19_2  (s : SS) : ev 19 0 [some (.inr (.inr (2, 0))), none, none] [] s = ev 19 4 [some (.inr (.inr (2, 0))), some (.inl 0), some (.inl 0)] [] s := (ev_go [4] 40 19 0 [some (.inr (.inr (2, 0))), none, none] [] s).trans rfl
set_option maxRecDepth 20000 in
theorem q_19_at4_2 (l1 : Int32) (l2 : Int32) (s : SS) : ev 19 4 [some (.inr (.inr (2, 0))), some (.inl l1), some (.inl l2)] [] s = (if l2 < (nI 4) then (if ixB l2 4 = true then (if (s.1 6 0 l2.toNatClampNeg) = (-1) then ev 19 4 [some (.inr (.inr (2, 0))), some (.inl l1), some (.inl (l2 + 1))] [] s else ev 19 4 [some (.inr (.inr (2, 0))), some (.inl (l1 + 1)), some (.inl (l2 + 1))] [] s) else none) else some (some (.inl l1), s)) := (ev_go [4] 40 19 4 [some (.inr (.inr (2, 0))), some (.inl l1), some (.inl l2)] [] s).trans rfl
set_option maxRecDepth 20000 in
theorem q_20_1 (p0 : Int64) (s : SS) : ev 20 0 [some (.inr (.inr (1, 0))), some (.inr (.inl p0)), none, none, none, none, none] [] s = ev 20 5 [some (.inr (.inr (1, 0))), none, none, some (.inr (.inl p0)), none, some (.inl 0), none] [] s := (ev_go [5, 33] 50 20 0 [some (.inr (.inr (1, 0))), some (.inr (.inl p0)), none, none, none, none, none] [] s).trans rfl
set_option maxRecDepth 20000 in
theorem q_20_at5_1 (l3 : Int64) (l5 : Int32) (s : SS) : ev 20 5 [some (.inr (.inr (1, 0))), none, none, some (.inr (.inl l3)), none, some (.inl l5), none] [] s = (if l5 < (nI 6) then (if ixB l5 6 = true then ev 20 33 [some (.inr (.inr (1, 0))), none, none, some (.inr (.inl ((31 * l3) + ((s.1 5 0 l5.toNatClampNeg).toInt64)))), none, some (.inl l5), some (.inl 0)] [] s else none) else some (some (.inr (.inl l3)), s)) := (ev_go [5, 33] 50 20 5 [some (.inr (.inr (1, 0))), none, none, some (.inr (.inl l3)), none, some (.inl l5), none] [] s).trans rfl
set_option maxRecDepth 20000 in
theorem q_20_at33_1 (l3 : Int64) (l5 : Int32) (l6 : Int32) (s : SS) : ev 20 33 [some (.inr (.inr (1, 0))), none, none, some (.inr (.inl l3)), none, some (.inl l5), some (.inl l6)] [] s = (if ixB l5 6 = true then (if l6 < (s.1 5 0 l5.toNatClampNeg) then (if ixB l5 6 = true then (if ixB l6 40 = true then ev 20 33 [some (.inr (.inr (1, 0))), none, none, some (.inr (.inl ((31 * l3) + ((s.1 7 l5.toNatClampNeg l6.toNatClampNeg).toInt64)))), none, some (.inl l5), some (.inl (l6 + 1))] [] s else none) else none) else ev 20 5 [some (.inr (.inr (1, 0))), none, none, some (.inr (.inl l3)), none, some (.inl (l5 + 1)), none] [] s) else none) := (ev_go [5, 33] 50 20 33 [some (.inr (.inr (1, 0))), none, none, some (.inr (.inl l3)), none, some (.inl l5), some (.inl l6)] [] s).trans rfl
set_option maxRecDepth 20000 in
theorem q_20_2 (p0 : Int64) (s : SS) : ev 20 0 [some (.inr (.inr (2, 0))), some (.inr (.inl p0)), none, none, none, none, none] [] s = ev 20 5 [some (.inr (.inr (2, 0))), none, none, some (.inr (.inl p0)), none, some (.inl 0), none] [] s := (ev_go [5, 33] 50 20 0 [some (.inr (.inr (2, 0))), some (.inr (.inl p0)), none, none, none, none, none] [] s).trans rfl
set_option maxRecDepth 20000 in
theorem q_20_at5_2 (l3 : Int64) (l5 : Int32) (s : SS) : ev 20 5 [some (.inr (.inr (2, 0))), none, none, some (.inr (.inl l3)), none, some (.inl l5), none] [] s = (if l5 < (nI 4) then (if ixB l5 4 = true then ev 20 33 [some (.inr (.inr (2, 0))), none, none, some (.inr (.inl ((31 * l3) + ((s.1 6 0 l5.toNatClampNeg).toInt64)))), none, some (.inl l5), some (.inl 0)] [] s else none) else some (some (.inr (.inl l3)), s)) := (ev_go [5, 33] 50 20 5 [some (.inr (.inr (2, 0))), none, none, some (.inr (.inl l3)), none, some (.inl l5), none] [] s).trans rfl
set_option maxRecDepth 20000 in
theorem q_20_at33_2 (l3 : Int64) (l5 : Int32) (l6 : Int32) (s : SS) : ev 20 33 [some (.inr (.inr (2, 0))), none, none, some (.inr (.inl l3)), none, some (.inl l5), some (.inl l6)] [] s = (if ixB l5 4 = true then (if l6 < (s.1 6 0 l5.toNatClampNeg) then (if ixB l5 4 = true then (if ixB l6 40 = true then ev 20 33 [some (.inr (.inr (2, 0))), none, none, some (.inr (.inl ((31 * l3) + ((s.1 8 l5.toNatClampNeg l6.toNatClampNeg).toInt64)))), none, some (.inl l5), some (.inl (l6 + 1))] [] s else none) else none) else ev 20 5 [some (.inr (.inr (2, 0))), none, none, some (.inr (.inl l3)), none, some (.inl (l5 + 1)), none] [] s) else none) := (ev_go [5, 33] 50 20 33 [some (.inr (.inr (2, 0))), none, none, some (.inr (.inl l3)), none, some (.inl l5), some (.inl l6)] [] s).trans rfl
set_option maxRecDepth 20000 in
theorem q_21 (j : Nat) (p1 : Int32) (p2 : Int32) (s : SS) : ev 21 0 [some (.inr (.inr (13, j))), some (.inr (.inr (2, 0))), some (.inl p1), some (.inl p2), none, none, none] [] s = cI (ev 11 0 [some (.inr (.inr (2, 0))), some (.inl p1)] [] (wI (wI (wI (wI (wI s 13 j 0 0) 13 j 1 p2) 13 j 2 0) 13 j 3 0) 13 j 4 0)) (fun x1 s1 => ev 21 38 [some (.inr (.inr (13, j))), some (.inr (.inr (2, 0))), some (.inl p1), none, some (.inl x1), some (.inl 0), some (.inl 0)] [] s1) := (ev_go [38] 56 21 0 [some (.inr (.inr (13, j))), some (.inr (.inr (2, 0))), some (.inl p1), some (.inl p2), none, none, none] [] s).trans rfl
set_option maxRecDepth 20000 in
theorem q_21_at38 (j : Nat) (l2 : Int32) (l4 : Int32) (l5 : Int32) (l6 : Int32) (s : SS) : ev 21 38 [some (.inr (.inr (13, j))), some (.inr (.inr (2, 0))), some (.inl l2), none, some (.inl l4), some (.inl l5), some (.inl l6)] [] s = (if l6 < l4 then cI (ev 15 0 [some (.inr (.inr (2, 0))), some (.inl l2), some (.inl l6)] [] s) (fun x1 s1 => cI (ev 22 0 [some (.inr (.inr (13, j))), some (.inl l5), some (.inl x1)] [] s1) (fun x2 s2 => (if x2 = (-1) then some (some (.inl l6), s2) else ev 21 38 [some (.inr (.inr (13, j))), some (.inr (.inr (2, 0))), some (.inl l2), none, some (.inl l4), some (.inl x2), some (.inl (l6 + 1))] [] s2))) else (if l5 = 6 then some (some (.inl (-9)), s) else (if l5 = 7 then some (some (.inl (-9)), s) else some (some (.inl l4), s)))) := (ev_go [38] 56 21 38 [some (.inr (.inr (13, j))), some (.inr (.inr (2, 0))), some (.inl l2), none, some (.inl l4), some (.inl l5), some (.inl l6)] [] s).trans rfl
set_option maxRecDepth 20000 in
theorem q_22 (j : Nat) (p0 : Int32) (p1 : Int32) (s : SS) : ev 22 0 [some (.inr (.inr (13, j))), some (.inl p0), some (.inl p1)] [] s = (if p0 = 0 then (if p1 = 32 then some (some (.inl 0), s) else cI (ev 23 0 [some (.inr (.inr (13, j))), some (.inl p1)] [] s) (fun x7 s7 => some (some (.inl x7), s7))) else (if p0 = 1 then cI (ev 24 0 [some (.inr (.inr (13, j))), some (.inl p1)] [] s) (fun x6 s6 => some (some (.inl x6), s6)) else (if p0 = 2 then cI (ev 25 0 [some (.inr (.inr (13, j))), some (.inl p1)] [] s) (fun x5 s5 => some (some (.inl x5), s5)) else (if p0 = 3 then cI (ev 26 0 [some (.inr (.inr (13, j))), some (.inl p1)] [] s) (fun x4 s4 => some (some (.inl x4), s4)) else (if p0 = 4 then cI (ev 27 0 [some (.inr (.inr (13, j))), some (.inl p1)] [] s) (fun x3 s3 => some (some (.inl x3), s3)) else (if p0 = 5 then cI (ev 28 0 [some (.inr (.inr (13, j))), some (.inl p1)] [] s) (fun x2 s2 => some (some (.inl x2), s2)) else (if p0 = 6 then cI (ev 29 0 [some (.inr (.inr (13, j))), some (.inl p1), none] [] s) (fun x1 s1 => some (some (.inl x1), s1)) else (if p0 = 7 then (if p1 = 32 then some (some (.inl 7), s) else some (some (.inl (-1)), s)) else some (some (.inl (-1)), s))))))))) := (ev_go [] 49 22 0 [some (.inr (.inr (13, j))), some (.inl p0), some (.inl p1)] [] s).trans rfl
set_option maxRecDepth 20000 in
theorem q_23 (j : Nat) (p0 : Int32) (s : SS) : ev 23 0 [some (.inr (.inr (13, j))), some (.inl p0)] [] s = (if (s.1 13 j 1) = 3 then (if p0 = 35 then some (some (.inl 1), s) else some (some (.inl (-1)), s)) else (if (s.1 13 j 1) = 4 then (if p0 = 49 then some (some (.inl 2), s) else some (some (.inl (-1)), s)) else cI (ev 25 0 [some (.inr (.inr (13, j))), some (.inl p0)] [] s) (fun x1 s1 => some (some (.inl x1), s1)))) := (ev_go [] 40 23 0 [some (.inr (.inr (13, j))), some (.inl p0)] [] s).trans rfl
set_option maxRecDepth 20000 in
theorem q_24 (j : Nat) (p0 : Int32) (s : SS) : ev 24 0 [some (.inr (.inr (13, j))), some (.inl p0)] [] s = (if p0 < 49 then some (some (.inl (-1)), s) else (if 52 < p0 then some (some (.inl (-1)), s) else some (some (.inl 2), (wI s 13 j 3 (p0 - 48))))) := (ev_go [] 40 24 0 [some (.inr (.inr (13, j))), some (.inl p0)] [] s).trans rfl
set_option maxRecDepth 20000 in
theorem q_25 (j : Nat) (p0 : Int32) (s : SS) : ev 25 0 [some (.inr (.inr (13, j))), some (.inl p0)] [] s = (if (s.1 13 j 4) < 6 then (if p0 = 33 then ev 25 30 [some (.inr (.inr (13, j))), some (.inl p0)] [(.inl 1), (.inl (s.1 13 j 4)), (.inr (.inr (17, j)))] s else ev 25 30 [some (.inr (.inr (13, j))), some (.inl p0)] [(.inl 0), (.inl (s.1 13 j 4)), (.inr (.inr (17, j)))] s) else some (some (.inl (-1)), s)) := (ev_go [30] 40 25 0 [some (.inr (.inr (13, j))), some (.inl p0)] [] s).trans rfl
set_option maxRecDepth 20000 in
theorem q_25_at30 (j : Nat) (l1 : Int32) (t0 : Int32) (t1 : Int32) (s : SS) : ev 25 30 [some (.inr (.inr (13, j))), some (.inl l1)] [(.inl t0), (.inl t1), (.inr (.inr (17, j)))] s = (if ixB t1 6 = true then (if ixB ((wI s 17 j t1.toNatClampNeg (t0 &&& 1)).1 13 j 4) 6 = true then (if ((wI s 17 j t1.toNatClampNeg (t0 &&& 1)).1 17 j ((wI s 17 j t1.toNatClampNeg (t0 &&& 1)).1 13 j 4).toNatClampNeg) = 0 then cI (ev 26 0 [some (.inr (.inr (13, j))), some (.inl l1)] [] (wI s 17 j t1.toNatClampNeg (t0 &&& 1))) (fun x1 s1 => some (some (.inl x1), s1)) else some (some (.inl 3), (wI s 17 j t1.toNatClampNeg (t0 &&& 1)))) else none) else none) := (ev_go [30] 40 25 30 [some (.inr (.inr (13, j))), some (.inl l1)] [(.inl t0), (.inl t1), (.inr (.inr (17, j)))] s).trans rfl
set_option maxRecDepth 20000 in
theorem q_26 (j : Nat) (p0 : Int32) (s : SS) : ev 26 0 [some (.inr (.inr (13, j))), some (.inl p0)] [] s = (if (s.1 13 j 4) < 6 then (if ixB (s.1 13 j 4) 6 = true then (if p0 < 65 then ev 26 50 [some (.inr (.inr (13, j))), some (.inl p0)] [] (wI s 15 j (s.1 13 j 4).toNatClampNeg (-1)) else (if 67 < p0 then ev 26 50 [some (.inr (.inr (13, j))), some (.inl p0)] [] (wI s 15 j (s.1 13 j 4).toNatClampNeg (-1)) else (if ixB ((wI s 15 j (s.1 13 j 4).toNatClampNeg (-1)).1 13 j 4) 6 = true then some (some (.inl 5), (wI (wI s 15 j (s.1 13 j 4).toNatClampNeg (-1)) 14 j ((wI s 15 j (s.1 13 j 4).toNatClampNeg (-1)).1 13 j 4).toNatClampNeg (4 * (p0 - 65)))) else none))) else none) else some (some (.inl (-1)), s)) := (ev_go [50] 48 26 0 [some (.inr (.inr (13, j))), some (.inl p0)] [] s).trans rfl
set_option maxRecDepth 20000 in
theorem q_26_at50 (j : Nat) (l1 : Int32) (s : SS) : ev 26 50 [some (.inr (.inr (13, j))), some (.inl l1)] [] s = (if ixB (s.1 13 j 4) 6 = true then (if l1 = 70 then some (some (.inl 4), (wI s 14 j (s.1 13 j 4).toNatClampNeg 12)) else some (some (.inl (-1)), (wI s 14 j (s.1 13 j 4).toNatClampNeg 12))) else none) := (ev_go [50] 48 26 50 [some (.inr (.inr (13, j))), some (.inl l1)] [] s).trans rfl
set_option maxRecDepth 20000 in
theorem q_27 (j : Nat) (p0 : Int32) (s : SS) : ev 27 0 [some (.inr (.inr (13, j))), some (.inl p0)] [] s = (if (s.1 13 j 4) < 6 then cI (ev 30 0 [some (.inr (.inr (13, j))), some (.inl p0)] [] s) (fun x1 s1 => (if x1 = 0 then some (some (.inl (-1)), s1) else (if ixB (s1.1 13 j 4) 6 = true then some (some (.inl 5), (wI s1 15 j (s1.1 13 j 4).toNatClampNeg (p0 - 120))) else none))) else some (some (.inl (-1)), s)) := (ev_go [] 40 27 0 [some (.inr (.inr (13, j))), some (.inl p0)] [] s).trans rfl
set_option maxRecDepth 20000 in
theorem q_28 (j : Nat) (p0 : Int32) (s : SS) : ev 28 0 [some (.inr (.inr (13, j))), some (.inl p0)] [] s = (if (s.1 13 j 4) < 6 then cI (ev 30 0 [some (.inr (.inr (13, j))), some (.inl p0)] [] s) (fun x1 s1 => (if x1 = 0 then some (some (.inl (-1)), s1) else (if ixB (s1.1 13 j 4) 6 = true then some (some (.inl 6), (wI (wI s1 16 j (s1.1 13 j 4).toNatClampNeg (p0 - 120)) 13 j 4 (((wI s1 16 j (s1.1 13 j 4).toNatClampNeg (p0 - 120)).1 13 j 4) + 1))) else none))) else some (some (.inl (-1)), s)) := (ev_go [] 40 28 0 [some (.inr (.inr (13, j))), some (.inl p0)] [] s).trans rfl
set_option maxRecDepth 20000 in
theorem q_29 (j : Nat) (p0 : Int32) (s : SS) : ev 29 0 [some (.inr (.inr (13, j))), some (.inl p0), none] [] s = (if p0 = 32 then some (some (.inl 7), s) else cI (ev 31 0 [some (.inr (.inr (13, j)))] [] s) (fun x1 s1 => (if x1 = 0 then (if (s1.1 13 j 4) < 6 then ev 29 30 [none, some (.inl p0), none] [(.inl 1)] s1 else ev 29 30 [none, some (.inl p0), none] [(.inl 0)] s1) else ev 29 30 [none, some (.inl p0), none] [(.inl 0)] s1))) := (ev_go [30] 40 29 0 [some (.inr (.inr (13, j))), some (.inl p0), none] [] s).trans rfl
set_option maxRecDepth 20000 in
theorem q_29_at30 (l1 : Int32) (t0 : Int32) (s : SS) : ev 29 30 [none, some (.inl l1), none] [(.inl t0)] s = (if l1 = 124 then (if t0 = 0 then some (some (.inl (-1)), s) else some (some (.inl 2), s)) else some (some (.inl (-1)), s)) := (ev_go [30] 40 29 30 [none, some (.inl l1), none] [(.inl t0)] s).trans rfl
set_option maxRecDepth 20000 in
theorem q_30 (j : Nat) (p0 : Int32) (s : SS) : ev 30 0 [some (.inr (.inr (13, j))), some (.inl p0)] [] s = (if p0 = 120 then some (some (.inl 1), s) else (if p0 = 121 then cI (ev 31 0 [some (.inr (.inr (13, j)))] [] s) (fun x1 s1 => (if x1 = 0 then some (some (.inl 1), s1) else some (some (.inl 0), s1))) else some (some (.inl 0), s))) := (ev_go [] 40 30 0 [some (.inr (.inr (13, j))), some (.inl p0)] [] s).trans rfl
set_option maxRecDepth 20000 in
theorem q_31 (j : Nat) (s : SS) : ev 31 0 [some (.inr (.inr (13, j)))] [] s = (if (s.1 13 j 1) = 3 then some (some (.inl 1), s) else (if (s.1 13 j 1) = 4 then some (some (.inl 1), s) else some (some (.inl 0), s))) := (ev_go [] 40 31 0 [some (.inr (.inr (13, j)))] [] s).trans rfl
set_option maxRecDepth 20000 in
theorem q_32 (j : Nat) (p0 : Int32) (s : SS) : ev 32 0 [some (.inr (.inr (13, j))), some (.inl p0), none] [] s = ev 32 2 [some (.inr (.inr (13, j))), some (.inl p0), some (.inl 0)] [] s := (ev_go [2] 40 32 0 [some (.inr (.inr (13, j))), some (.inl p0), none] [] s).trans rfl
set_option maxRecDepth 20000 in
theorem q_32_at2 (j : Nat) (l1 : Int32) (l2 : Int32) (s : SS) : ev 32 2 [some (.inr (.inr (13, j))), some (.inl l1), some (.inl l2)] [] s = (if l2 < (s.1 13 j 4) then (if ixB l2 6 = true then (if (s.1 15 j l2.toNatClampNeg) = l1 then some (some (.inl 1), s) else (if ixB l2 6 = true then (if (s.1 16 j l2.toNatClampNeg) = l1 then some (some (.inl 1), s) else ev 32 2 [some (.inr (.inr (13, j))), some (.inl l1), some (.inl (l2 + 1))] [] s) else none)) else none) else some (some (.inl 0), s)) := (ev_go [2] 40 32 2 [some (.inr (.inr (13, j))), some (.inl l1), some (.inl l2)] [] s).trans rfl
set_option maxRecDepth 20000 in
theorem q_33 (j : Nat) (p0 : Int32) (s : SS) : ev 33 0 [some (.inr (.inr (13, j))), some (.inl p0)] [] s = cI (ev 31 0 [some (.inr (.inr (13, j)))] [] s) (fun x1 s1 => (if x1 = 0 then cI (ev 34 0 [some (.inr (.inr (13, j))), some (.inl 0), some (.inl p0)] [] s1) (fun x2 s2 => cI (ev 34 0 [some (.inr (.inr (13, j))), some (.inl 1), some (.inl p0)] [] s2) (fun x3 s3 => some (some (.inl (x2 * x3)), s3))) else some (some (.inl 1), s1))) := (ev_go [] 40 33 0 [some (.inr (.inr (13, j))), some (.inl p0)] [] s).trans rfl
set_option maxRecDepth 20000 in
theorem q_34 (j : Nat) (p0 : Int32) (p1 : Int32) (s : SS) : ev 34 0 [some (.inr (.inr (13, j))), some (.inl p0), some (.inl p1)] [] s = cI (ev 32 0 [some (.inr (.inr (13, j))), some (.inl p0), none] [] s) (fun x1 s1 => (if x1 = 0 then some (some (.inl 1), s1) else some (some (.inl p1), s1))) := (ev_go [] 40 34 0 [some (.inr (.inr (13, j))), some (.inl p0), some (.inl p1)] [] s).trans rfl
set_option maxRecDepth 20000 in
theorem q_35 (j : Nat) (s : SS) : ev 35 0 [some (.inr (.inr (13, j))), none, none] [] s = ev 35 4 [some (.inr (.inr (13, j))), some (.inl 0), some (.inl 0)] [] s := (ev_go [4] 40 35 0 [some (.inr (.inr (13, j))), none, none] [] s).trans rfl
set_option maxRecDepth 20000 in
theorem q_35_at4 (j : Nat) (l1 : Int32) (l2 : Int32) (s : SS) : ev 35 4 [some (.inr (.inr (13, j))), some (.inl l1), some (.inl l2)] [] s = (if l2 < (s.1 13 j 4) then (if ixB l2 6 = true then (if (s.1 17 j l2.toNatClampNeg) = 0 then ev 35 4 [some (.inr (.inr (13, j))), some (.inl l1), some (.inl (l2 + 1))] [] s else ev 35 4 [some (.inr (.inr (13, j))), some (.inl (l1 + 1)), some (.inl (l2 + 1))] [] s) else none) else some (some (.inl l1), s)) := (ev_go [4] 40 35 4 [some (.inr (.inr (13, j))), some (.inl l1), some (.inl l2)] [] s).trans rfl
set_option maxRecDepth 20000 in
theorem q_36 (j : Nat) (p0 : Int32) (p1 : Int32) (p2 : Int32) (s : SS) : ev 36 0 [some (.inr (.inr (13, j))), some (.inl p0), some (.inl p1), some (.inl p2), none] [] s = (if p0 < 0 then some (some (.inl 0), s) else (if p0 < (s.1 13 j 4) then (if ixB p0 6 = true then (if (s.1 16 j p0.toNatClampNeg) = 0 then ev 36 28 [some (.inr (.inr (13, j))), some (.inl p0), some (.inl p1), some (.inl p2), none] [(.inl p1)] s else ev 36 28 [some (.inr (.inr (13, j))), some (.inl p0), some (.inl p1), some (.inl p2), none] [(.inl p2)] s) else none) else some (some (.inl 0), s))) := (ev_go [28] 53 36 0 [some (.inr (.inr (13, j))), some (.inl p0), some (.inl p1), some (.inl p2), none] [] s).trans rfl
set_option maxRecDepth 20000 in
theorem q_36_at28 (j : Nat) (l1 : Int32) (l2 : Int32) (l3 : Int32) (t0 : Int32) (s : SS) : ev 36 28 [some (.inr (.inr (13, j))), some (.inl l1), some (.inl l2), some (.inl l3), none] [(.inl t0)] s = (if ixB l1 6 = true then (if (s.1 15 j l1.toNatClampNeg) = (-1) then (if ixB l1 6 = true then some (some (.inl ((s.1 14 j l1.toNatClampNeg) + t0)), s) else none) else (if ixB l1 6 = true then (if ixB l1 6 = true then (if (s.1 15 j l1.toNatClampNeg) = 0 then some (some (.inl (((s.1 14 j l1.toNatClampNeg) + (4 * l2)) + t0)), s) else some (some (.inl (((s.1 14 j l1.toNatClampNeg) + (4 * l3)) + t0)), s)) else none) else none)) else none) := (ev_go [28] 53 36 28 [some (.inr (.inr (13, j))), some (.inl l1), some (.inl l2), some (.inl l3), none] [(.inl t0)] s).trans rfl
set_option maxRecDepth 20000 in
theorem q_37 (j : Nat) (p0 : Int32) (p1 : Int32) (p2 : Int32) (s : SS) : ev 37 0 [some (.inr (.inr (13, j))), some (.inl p0), some (.inl p1), some (.inl p2), none, none] [] s = ev 37 6 [some (.inr (.inr (13, j))), some (.inl p0), some (.inl p1), some (.inl p2), some (.inl 0), some (.inl 0)] [] s := (ev_go [6] 40 37 0 [some (.inr (.inr (13, j))), some (.inl p0), some (.inl p1), some (.inl p2), none, none] [] s).trans rfl
set_option maxRecDepth 20000 in
theorem q_37_at6 (j : Nat) (l1 : Int32) (l2 : Int32) (l3 : Int32) (l4 : Int32) (l5 : Int32) (s : SS) : ev 37 6 [some (.inr (.inr (13, j))), some (.inl l1), some (.inl l2), some (.inl l3), some (.inl l4), some (.inl l5)] [] s = (if l5 < (s.1 13 j 4) then (if ixB l5 6 = true then (if (s.1 17 j l5.toNatClampNeg) = l1 then cI (ev 36 0 [some (.inr (.inr (13, j))), some (.inl l5), some (.inl l2), some (.inl l3), none] [] s) (fun x1 s1 => ev 37 6 [some (.inr (.inr (13, j))), some (.inl l1), some (.inl l2), some (.inl l3), some (.inl (l4 ||| ((1 : Int32) <<< (x1 &&& 31)))), some (.inl (l5 + 1))] [] s1) else ev 37 6 [some (.inr (.inr (13, j))), some (.inl l1), some (.inl l2), some (.inl l3), some (.inl l4), some (.inl (l5 + 1))] [] s) else none) else some (some (.inl l4), s)) := (ev_go [6] 40 37 6 [some (.inr (.inr (13, j))), some (.inl l1), some (.inl l2), some (.inl l3), some (.inl l4), some (.inl l5)] [] s).trans rfl
set_option maxRecDepth 20000 in
theorem q_38 (j : Nat) (p0 : Int32) (p1 : Int32) (s : SS) : ev 38 0 [some (.inr (.inr (13, j))), some (.inl p0), some (.inl p1), none, none, none] [] s = ev 38 5 [some (.inr (.inr (13, j))), some (.inl p0), some (.inl p1), some (.inl 0), some (.inl 0), none] [] s := (ev_go [5, 32] 54 38 0 [some (.inr (.inr (13, j))), some (.inl p0), some (.inl p1), none, none, none] [] s).trans rfl
set_option maxRecDepth 20000 in
theorem q_38_at5 (j : Nat) (l1 : Int32) (l2 : Int32) (l3 : Int32) (l4 : Int32) (s : SS) : ev 38 5 [some (.inr (.inr (13, j))), some (.inl l1), some (.inl l2), some (.inl l3), some (.inl l4), none] [] s = (if l4 < l2 then cI (ev 36 0 [some (.inr (.inr (13, j))), some (.inl 0), some (.inl l4), some (.inl l4), none] [] s) (fun x1 s1 => (if ((l1 >>> (x1 &&& 31)) &&& 1) = 0 then ev 38 32 [some (.inr (.inr (13, j))), some (.inl l1), some (.inl l2), some (.inl l3), some (.inl l4), none] [(.inl 0)] s1 else ev 38 32 [some (.inr (.inr (13, j))), some (.inl l1), some (.inl l2), some (.inl l3), some (.inl l4), none] [(.inl 1)] s1)) else (if (s.1 13 j 1) = 3 then (if l3 < (s.1 13 j 3) then some (some (.inl 1), s) else some (some (.inl 0), s)) else (if l3 = 1 then some (some (.inl 0), s) else some (some (.inl 1), s)))) := (ev_go [5, 32] 54 38 5 [some (.inr (.inr (13, j))), some (.inl l1), some (.inl l2), some (.inl l3), some (.inl l4), none] [] s).trans rfl
set_option maxRecDepth 20000 in
theorem q_38_at32 (j : Nat) (l1 : Int32) (l2 : Int32) (l3 : Int32) (l4 : Int32) (t0 : Int32) (s : SS) : ev 38 32 [some (.inr (.inr (13, j))), some (.inl l1), some (.inl l2), some (.inl l3), some (.inl l4), none] [(.inl t0)] s = (if ixB (0 : Int32) 6 = true then (if t0 = (s.1 17 j (0 : Int32).toNatClampNeg) then ev 38 5 [some (.inr (.inr (13, j))), some (.inl l1), some (.inl l2), some (.inl l3), some (.inl (l4 + 1)), none] [] s else ev 38 5 [some (.inr (.inr (13, j))), some (.inl l1), some (.inl l2), some (.inl (l3 + 1)), some (.inl (l4 + 1)), none] [] s) else none) := (ev_go [5, 32] 54 38 32 [some (.inr (.inr (13, j))), some (.inl l1), some (.inl l2), some (.inl l3), some (.inl l4), none] [(.inl t0)] s).trans rfl
set_option maxRecDepth 20000 in
theorem q_39 (p1 : Int32) (s : SS) : ev 39 0 [some (.inr (.inr (11, 0))), some (.inr (.inr (9, 0))), some (.inl p1), some (.inr (.inr (10, 0))), none] [] s = cV (ev 40 0 [some (.inr (.inr (11, 0))), some (.inr (.inr (9, 0))), none] [] s) (fun s1 => cV (ev 7 0 [some (.inr (.inr (19, 0))), some (.inr (.inl 0)), none, none, none] [] s1) (fun s2 => ev 39 16 [some (.inr (.inr (11, 0))), none, some (.inl p1), some (.inr (.inr (10, 0))), some (.inl 0)] [] s2)) := (ev_go [16] 40 39 0 [some (.inr (.inr (11, 0))), some (.inr (.inr (9, 0))), some (.inl p1), some (.inr (.inr (10, 0))), none] [] s).trans rfl
set_option maxRecDepth 20000 in
theorem q_39_at16 (l2 : Int32) (l4 : Int32) (s : SS) : ev 39 16 [some (.inr (.inr (11, 0))), none, some (.inl l2), some (.inr (.inr (10, 0))), some (.inl l4)] [] s = (if l4 < 8 then (if ixB l4 8 = true then (if (s.1 13 (s.2.2 l4.toNatClampNeg) 0) = 0 then ev 39 16 [some (.inr (.inr (11, 0))), none, some (.inl l2), some (.inr (.inr (10, 0))), some (.inl (l4 + 1))] [] s else (if ixB l4 8 = true then (if (s.1 13 (s.2.2 l4.toNatClampNeg) 1) = 0 then ev 39 16 [some (.inr (.inr (11, 0))), none, some (.inl l2), some (.inr (.inr (10, 0))), some (.inl (l4 + 1))] [] s else (if ixB l4 8 = true then cV (ev 42 0 [some (.inr (.inr (11, 0))), some (.inl l4), some (.inr (.inr (13, s.2.2 l4.toNatClampNeg))), some (.inl l2), none, none] [] s) (fun s1 => ev 39 16 [some (.inr (.inr (11, 0))), none, some (.inl l2), some (.inr (.inr (10, 0))), some (.inl (l4 + 1))] [] s1) else none)) else none)) else none) else some (none, s)) := (ev_go [16] 40 39 16 [some (.inr (.inr (11, 0))), none, some (.inl l2), some (.inr (.inr (10, 0))), some (.inl l4)] [] s).trans rfl
set_option maxRecDepth 20000 in
theorem q_40  (s : SS) : ev 40 0 [some (.inr (.inr (11, 0))), some (.inr (.inr (9, 0))), none] [] s = (if ixB (0 : Int32) 1024 = true then ev 40 19 [some (.inr (.inr (11, 0))), some (.inr (.inr (9, 0))), some (.inl 0)] [] (wI (wI (wI s 11 0 0 1) 11 0 1 0) 18 0 (0 : Int32).toNatClampNeg 0) else none) := (ev_go [19, 52] 66 40 0 [some (.inr (.inr (11, 0))), some (.inr (.inr (9, 0))), none] [] s).trans rfl
set_option maxRecDepth 20000 in
theorem q_40_at19 (l2 : Int32) (s : SS) : ev 40 19 [some (.inr (.inr (11, 0))), some (.inr (.inr (9, 0))), some (.inl l2)] [] s = (if l2 < 28 then (if ixB l2 28 = true then (if (s.1 9 0 l2.toNatClampNeg) = 1 then (if ixB (0 : Int32) 1024 = true then (if ixB (0 : Int32) 1024 = true then ev 40 19 [some (.inr (.inr (11, 0))), some (.inr (.inr (9, 0))), some (.inl (l2 + 1))] [] (wI s 18 0 (0 : Int32).toNatClampNeg ((s.1 18 0 (0 : Int32).toNatClampNeg) ||| ((1 : Int32) <<< (l2 &&& 31)))) else none) else none) else ev 40 19 [some (.inr (.inr (11, 0))), some (.inr (.inr (9, 0))), some (.inl (l2 + 1))] [] s) else none) else ev 40 52 [some (.inr (.inr (11, 0))), some (.inr (.inr (9, 0))), some (.inl 0)] [] s) := (ev_go [19, 52] 66 40 19 [some (.inr (.inr (11, 0))), some (.inr (.inr (9, 0))), some (.inl l2)] [] s).trans rfl
set_option maxRecDepth 20000 in
theorem q_40_at52 (l2 : Int32) (s : SS) : ev 40 52 [some (.inr (.inr (11, 0))), some (.inr (.inr (9, 0))), some (.inl l2)] [] s = (if l2 < 28 then (if ixB l2 28 = true then (if (s.1 9 0 l2.toNatClampNeg) = 3 then (if (s.1 11 0 0) < 1024 then cV (ev 41 0 [some (.inr (.inr (11, 0))), some (.inl l2), none] [] (wI s 11 0 1 ((s.1 11 0 1) ||| ((1 : Int32) <<< (l2 &&& 31))))) (fun s1 => ev 40 52 [some (.inr (.inr (11, 0))), some (.inr (.inr (9, 0))), some (.inl (l2 + 1))] [] s1) else ev 40 52 [some (.inr (.inr (11, 0))), some (.inr (.inr (9, 0))), some (.inl (l2 + 1))] [] s) else ev 40 52 [some (.inr (.inr (11, 0))), some (.inr (.inr (9, 0))), some (.inl (l2 + 1))] [] s) else none) else some (none, s)) := (ev_go [19, 52] 66 40 52 [some (.inr (.inr (11, 0))), some (.inr (.inr (9, 0))), some (.inl l2)] [] s).trans rfl
set_option maxRecDepth 20000 in
theorem q_41 (p0 : Int32) (s : SS) : ev 41 0 [some (.inr (.inr (11, 0))), some (.inl p0), none] [] s = ev 41 2 [some (.inr (.inr (11, 0))), some (.inl p0), some (.inl 0)] [] s := (ev_go [2] 41 41 0 [some (.inr (.inr (11, 0))), some (.inl p0), none] [] s).trans rfl
set_option maxRecDepth 20000 in
theorem q_41_at2 (l1 : Int32) (l2 : Int32) (s : SS) : ev 41 2 [some (.inr (.inr (11, 0))), some (.inl l1), some (.inl l2)] [] s = (if l2 < (s.1 11 0 0) then (if ((s.1 11 0 0) + l2) < 1024 then (if ixB l2 1024 = true then (if ixB ((s.1 11 0 0) + l2) 1024 = true then ev 41 2 [some (.inr (.inr (11, 0))), some (.inl l1), some (.inl (l2 + 1))] [] (wI s 18 0 ((s.1 11 0 0) + l2).toNatClampNeg ((s.1 18 0 l2.toNatClampNeg) ||| ((1 : Int32) <<< (l1 &&& 31)))) else none) else none) else some (none, (wI s 11 0 0 (2 * (s.1 11 0 0))))) else some (none, (wI s 11 0 0 (2 * (s.1 11 0 0))))) := (ev_go [2] 41 41 2 [some (.inr (.inr (11, 0))), some (.inl l1), some (.inl l2)] [] s).trans rfl
set_option maxRecDepth 20000 in
theorem q_42 (p0 : Int32) (j : Nat) (p2 : Int32) (s : SS) : ev 42 0 [some (.inr (.inr (11, 0))), some (.inl p0), some (.inr (.inr (13, j))), some (.inl p2), none, none] [] s = cI (ev 31 0 [some (.inr (.inr (13, j)))] [] s) (fun x1 s1 => (if x1 = 0 then ev 42 18 [some (.inr (.inr (11, 0))), some (.inl p0), some (.inr (.inr (13, j))), some (.inl p2), some (.inl 0), none] [] s1 else cV (ev 43 0 [some (.inr (.inr (11, 0))), some (.inl p0), some (.inr (.inr (13, j))), some (.inl p2), none] [] s1) (fun s2 => some (none, s2)))) := (ev_go [18, 32] 48 42 0 [some (.inr (.inr (11, 0))), some (.inl p0), some (.inr (.inr (13, j))), some (.inl p2), none, none] [] s).trans rfl
set_option maxRecDepth 20000 in
theorem q_42_at18 (l1 : Int32) (j : Nat) (l3 : Int32) (l4 : Int32) (s : SS) : ev 42 18 [some (.inr (.inr (11, 0))), some (.inl l1), some (.inr (.inr (13, j))), some (.inl l3), some (.inl l4), none] [] s = cI (ev 34 0 [some (.inr (.inr (13, j))), some (.inl 0), some (.inl l3)] [] s) (fun x1 s1 => (if l4 < x1 then ev 42 32 [some (.inr (.inr (11, 0))), some (.inl l1), some (.inr (.inr (13, j))), some (.inl l3), some (.inl l4), some (.inl 0)] [] s1 else some (none, s1))) := (ev_go [18, 32] 48 42 18 [some (.inr (.inr (11, 0))), some (.inl l1), some (.inr (.inr (13, j))), some (.inl l3), some (.inl l4), none] [] s).trans rfl
set_option maxRecDepth 20000 in
theorem q_42_at32 (l1 : Int32) (j : Nat) (l3 : Int32) (l4 : Int32) (l5 : Int32) (s : SS) : ev 42 32 [some (.inr (.inr (11, 0))), some (.inl l1), some (.inr (.inr (13, j))), some (.inl l3), some (.inl l4), some (.inl l5)] [] s = cI (ev 34 0 [some (.inr (.inr (13, j))), some (.inl 1), some (.inl l3)] [] s) (fun x1 s1 => (if l5 < x1 then cI (ev 37 0 [some (.inr (.inr (13, j))), some (.inl 0), some (.inl l4), some (.inl l5), none, none] [] s1) (fun x2 s2 => cI (ev 37 0 [some (.inr (.inr (13, j))), some (.inl 1), some (.inl l4), some (.inl l5), none, none] [] s2) (fun x3 s3 => cV (ev 44 0 [some (.inr (.inr (11, 0))), some (.inl l1), some (.inl x2), some (.inl x3), none, none, none] [] s3) (fun s4 => ev 42 32 [some (.inr (.inr (11, 0))), some (.inl l1), some (.inr (.inr (13, j))), some (.inl l3), some (.inl l4), some (.inl (l5 + 1))] [] s4))) else ev 42 18 [some (.inr (.inr (11, 0))), some (.inl l1), some (.inr (.inr (13, j))), some (.inl l3), some (.inl (l4 + 1)), none] [] s1)) := (ev_go [18, 32] 48 42 32 [some (.inr (.inr (11, 0))), some (.inl l1), some (.inr (.inr (13, j))), some (.inl l3), some (.inl l4), some (.inl l5)] [] s).trans rfl
set_option maxRecDepth 20000 in
theorem q_43 (p0 : Int32) (j : Nat) (p2 : Int32) (s : SS) : ev 43 0 [some (.inr (.inr (11, 0))), some (.inl p0), some (.inr (.inr (13, j))), some (.inl p2), none] [] s = ev 43 3 [some (.inr (.inr (11, 0))), some (.inl p0), some (.inr (.inr (13, j))), some (.inl p2), some (.inl 0)] [] s := (ev_go [3] 40 43 0 [some (.inr (.inr (11, 0))), some (.inl p0), some (.inr (.inr (13, j))), some (.inl p2), none] [] s).trans rfl
set_option maxRecDepth 20000 in
theorem q_43_at3 (l1 : Int32) (j : Nat) (l3 : Int32) (l4 : Int32) (s : SS) : ev 43 3 [some (.inr (.inr (11, 0))), some (.inl l1), some (.inr (.inr (13, j))), some (.inl l3), some (.inl l4)] [] s = (if l4 < (s.1 11 0 0) then (if ixB l4 1024 = true then cI (ev 38 0 [some (.inr (.inr (13, j))), some (.inl (s.1 18 0 l4.toNatClampNeg)), some (.inl l3), none, none, none] [] s) (fun x1 s1 => (if x1 = 0 then ev 43 3 [some (.inr (.inr (11, 0))), some (.inl l1), some (.inr (.inr (13, j))), some (.inl l3), some (.inl (l4 + 1))] [] s1 else (if ixB l4 1024 = true then (if ixB l4 1024 = true then ev 43 3 [some (.inr (.inr (11, 0))), some (.inl l1), some (.inr (.inr (13, j))), some (.inl l3), some (.inl (l4 + 1))] [] (wL s1 19 0 l4.toNatClampNeg ((s1.2.1 19 0 l4.toNatClampNeg) + ((1 : Int64) <<< ((l1 * 8).toInt64 &&& 63)))) else none) else none))) else none) else some (none, s)) := (ev_go [3] 40 43 3 [some (.inr (.inr (11, 0))), some (.inl l1), some (.inr (.inr (13, j))), some (.inl l3), some (.inl l4)] [] s).trans rfl
set_option maxRecDepth 20000 in
theorem q_44 (p0 : Int32) (p1 : Int32) (p2 : Int32) (s : SS) : ev 44 0 [some (.inr (.inr (11, 0))), some (.inl p0), some (.inl p1), some (.inl p2), none, none, none] [] s = (if ixB (0 : Int32) 1024 = true then (if ((s.1 18 0 (0 : Int32).toNatClampNeg) &&& p1) = 0 then (if ((((s.1 18 0 (0 : Int32).toNatClampNeg) ^^^ (-1)) &&& ((s.1 11 0 1) ^^^ (-1))) &&& p2) = 0 then (if (0 : Int32) = 0 then ev 44 47 [some (.inr (.inr (11, 0))), some (.inl p0), some (.inl p1), some (.inl p2), none, none, some (.inl 0)] [] s else some (none, s)) else (if (1 : Int32) = 0 then ev 44 47 [some (.inr (.inr (11, 0))), some (.inl p0), some (.inl p1), some (.inl p2), none, none, some (.inl 0)] [] s else some (none, s))) else (if (1 : Int32) = 0 then ev 44 47 [some (.inr (.inr (11, 0))), some (.inl p0), some (.inl p1), some (.inl p2), none, none, some (.inl 0)] [] s else some (none, s))) else none) := (ev_go [47] 68 44 0 [some (.inr (.inr (11, 0))), some (.inl p0), some (.inl p1), some (.inl p2), none, none, none] [] s).trans rfl
set_option maxRecDepth 20000 in
theorem q_44_at47 (l1 : Int32) (l2 : Int32) (l3 : Int32) (l6 : Int32) (s : SS) : ev 44 47 [some (.inr (.inr (11, 0))), some (.inl l1), some (.inl l2), some (.inl l3), none, none, some (.inl l6)] [] s = (if l6 < (s.1 11 0 0) then (if ixB l6 1024 = true then (if ((s.1 18 0 l6.toNatClampNeg) &&& l2) = 0 then (if ixB l6 1024 = true then (if ((s.1 18 0 l6.toNatClampNeg) &&& l3) = l3 then (if ixB l6 1024 = true then (if ixB l6 1024 = true then ev 44 47 [some (.inr (.inr (11, 0))), some (.inl l1), some (.inl l2), some (.inl l3), none, none, some (.inl (l6 + 1))] [] (wL s 19 0 l6.toNatClampNeg ((s.2.1 19 0 l6.toNatClampNeg) + ((1 : Int64) <<< ((l1 * 8).toInt64 &&& 63)))) else none) else none) else ev 44 47 [some (.inr (.inr (11, 0))), some (.inl l1), some (.inl l2), some (.inl l3), none, none, some (.inl (l6 + 1))] [] s) else none) else ev 44 47 [some (.inr (.inr (11, 0))), some (.inl l1), some (.inl l2), some (.inl l3), none, none, some (.inl (l6 + 1))] [] s) else none) else some (none, s)) := (ev_go [47] 68 44 47 [some (.inr (.inr (11, 0))), some (.inl l1), some (.inl l2), some (.inl l3), none, none, some (.inl l6)] [] s).trans rfl
set_option maxRecDepth 20000 in
theorem q_45 (p1 : Int32) (s : SS) : ev 45 0 [some (.inr (.inr (11, 0))), some (.inr (.inr (10, 0))), some (.inl p1), none, none, none, none] [] s = ev 45 5 [some (.inr (.inr (11, 0))), some (.inr (.inr (10, 0))), some (.inl p1), some (.inr (.inl 0)), none, some (.inl 0), none] [] s := (ev_go [5, 36, 73, 124, 164] 114 45 0 [some (.inr (.inr (11, 0))), some (.inr (.inr (10, 0))), some (.inl p1), none, none, none, none] [] s).trans rfl
set_option maxRecDepth 20000 in
theorem q_45_at5 (l2 : Int32) (l3 : Int64) (l5 : Int32) (s : SS) : ev 45 5 [some (.inr (.inr (11, 0))), some (.inr (.inr (10, 0))), some (.inl l2), some (.inr (.inl l3)), none, some (.inl l5), none] [] s = (if l5 < 8 then (if ixB l5 8 = true then (if (s.1 13 (s.2.2 l5.toNatClampNeg) 0) = 0 then ev 45 36 [some (.inr (.inr (11, 0))), some (.inr (.inr (10, 0))), some (.inl l2), some (.inr (.inl l3)), none, some (.inl l5), none] [(.inl 0)] s else (if ((l2 >>> (l5 &&& 31)) &&& 1) = 0 then ev 45 36 [some (.inr (.inr (11, 0))), some (.inr (.inr (10, 0))), some (.inl l2), some (.inr (.inl l3)), none, some (.inl l5), none] [(.inl 1)] s else ev 45 36 [some (.inr (.inr (11, 0))), some (.inr (.inr (10, 0))), some (.inl l2), some (.inr (.inl l3)), none, some (.inl l5), none] [(.inl 0)] s)) else none) else ev 45 124 [some (.inr (.inr (11, 0))), none, none, some (.inr (.inl l3)), none, some (.inl 0), none] [] (wI (wI s 11 0 7 0) 11 0 8 1000000)) := (ev_go [5, 36, 73, 124, 164] 114 45 5 [some (.inr (.inr (11, 0))), some (.inr (.inr (10, 0))), some (.inl l2), some (.inr (.inl l3)), none, some (.inl l5), none] [] s).trans rfl
set_option maxRecDepth 20000 in
theorem q_45_at36 (l2 : Int32) (l3 : Int64) (l5 : Int32) (t0 : Int32) (s : SS) : ev 45 36 [some (.inr (.inr (11, 0))), some (.inr (.inr (10, 0))), some (.inl l2), some (.inr (.inl l3)), none, some (.inl l5), none] [(.inl t0)] s = (if t0 = 0 then ev 45 73 [some (.inr (.inr (11, 0))), some (.inr (.inr (10, 0))), some (.inl l2), some (.inr (.inl l3)), none, some (.inl l5), some (.inl t0)] [(.inl 0), (.inl l5), (.inr (.inr (22, 0)))] s else (if ixB l5 8 = true then cI (ev 118 0 [some (.inl (s.1 13 (s.2.2 l5.toNatClampNeg) 1))] [] s) (fun x1 s1 => (if x1 = 0 then ev 45 73 [some (.inr (.inr (11, 0))), some (.inr (.inr (10, 0))), some (.inl l2), some (.inr (.inl l3)), none, some (.inl l5), some (.inl t0)] [(.inl 0), (.inl l5), (.inr (.inr (22, 0)))] s1 else (if ixB l5 8 = true then ev 45 73 [some (.inr (.inr (11, 0))), some (.inr (.inr (10, 0))), some (.inl l2), some (.inr (.inl l3)), none, some (.inl l5), some (.inl t0)] [(.inl (s1.1 13 (s1.2.2 l5.toNatClampNeg) 2)), (.inl l5), (.inr (.inr (22, 0)))] s1 else none))) else none)) := (ev_go [5, 36, 73, 124, 164] 114 45 36 [some (.inr (.inr (11, 0))), some (.inr (.inr (10, 0))), some (.inl l2), some (.inr (.inl l3)), none, some (.inl l5), none] [(.inl t0)] s).trans rfl
set_option maxRecDepth 20000 in
theorem q_45_at73 (l2 : Int32) (l3 : Int64) (l5 : Int32) (l6 : Int32) (t0 : Int32) (t1 : Int32) (s : SS) : ev 45 73 [some (.inr (.inr (11, 0))), some (.inr (.inr (10, 0))), some (.inl l2), some (.inr (.inl l3)), none, some (.inl l5), some (.inl l6)] [(.inl t0), (.inl t1), (.inr (.inr (22, 0)))] s = (if ixB t1 8 = true then (if l6 = 0 then ev 45 5 [some (.inr (.inr (11, 0))), some (.inr (.inr (10, 0))), some (.inl l2), some (.inr (.inl l3)), none, some (.inl (l5 + 1)), none] [] (wI s 22 0 t1.toNatClampNeg t0) else (if ixB l5 8 = true then cI (ev 117 0 [some (.inl ((wI s 22 0 t1.toNatClampNeg t0).1 13 ((wI s 22 0 t1.toNatClampNeg t0).2.2 l5.toNatClampNeg) 1))] [] (wI s 22 0 t1.toNatClampNeg t0)) (fun x1 s1 => (if x1 = 0 then ev 45 5 [some (.inr (.inr (11, 0))), some (.inr (.inr (10, 0))), some (.inl l2), some (.inr (.inl l3)), none, some (.inl (l5 + 1)), none] [] s1 else ev 45 5 [some (.inr (.inr (11, 0))), some (.inr (.inr (10, 0))), some (.inl l2), some (.inr (.inl (l3 ||| ((255 : Int64) <<< ((l5 * 8).toInt64 &&& 63))))), none, some (.inl (l5 + 1)), none] [] s1)) else none)) else none) := (ev_go [5, 36, 73, 124, 164] 114 45 73 [some (.inr (.inr (11, 0))), some (.inr (.inr (10, 0))), some (.inl l2), some (.inr (.inl l3)), none, some (.inl l5), some (.inl l6)] [(.inl t0), (.inl t1), (.inr (.inr (22, 0)))] s).trans rfl
set_option maxRecDepth 20000 in
theorem q_45_at124 (l3 : Int64) (l5 : Int32) (s : SS) : ev 45 124 [some (.inr (.inr (11, 0))), none, none, some (.inr (.inl l3)), none, some (.inl l5), none] [] s = (if l5 < (s.1 11 0 0) then (if ixB l5 1024 = true then (if (lg_cmp ((s.2.1 19 0 l5.toNatClampNeg) &&& l3) 0) = 0 then cI (ev 47 0 [some (.inr (.inr (11, 0))), some (.inl l5), none, none] [] s) (fun x1 s1 => ev 45 164 [some (.inr (.inr (11, 0))), none, none, some (.inr (.inl l3)), none, some (.inl l5), none] [(.inl x1), (.inl l5), (.inr (.inr (20, 0)))] s1) else ev 45 164 [some (.inr (.inr (11, 0))), none, none, some (.inr (.inl l3)), none, some (.inl l5), none] [(.inl 1000000), (.inl l5), (.inr (.inr (20, 0)))] s) else none) else cV (ev 46 0 [some (.inr (.inr (11, 0))), none, none] [] s) (fun s2 => some (none, s2))) := (ev_go [5, 36, 73, 124, 164] 114 45 124 [some (.inr (.inr (11, 0))), none, none, some (.inr (.inl l3)), none, some (.inl l5), none] [] s).trans rfl
set_option maxRecDepth 20000 in
theorem q_45_at164 (l3 : Int64) (l5 : Int32) (t0 : Int32) (t1 : Int32) (s : SS) : ev 45 164 [some (.inr (.inr (11, 0))), none, none, some (.inr (.inl l3)), none, some (.inl l5), none] [(.inl t0), (.inl t1), (.inr (.inr (20, 0)))] s = (if ixB t1 1024 = true then (if ixB l5 1024 = true then (if ((wI s 20 0 t1.toNatClampNeg t0).1 20 0 l5.toNatClampNeg) < ((wI s 20 0 t1.toNatClampNeg t0).1 11 0 8) then (if ixB l5 1024 = true then ev 45 124 [some (.inr (.inr (11, 0))), none, none, some (.inr (.inl l3)), none, some (.inl (l5 + 1)), none] [] (wI (wI (wI s 20 0 t1.toNatClampNeg t0) 11 0 7 l5) 11 0 8 ((wI (wI s 20 0 t1.toNatClampNeg t0) 11 0 7 l5).1 20 0 l5.toNatClampNeg)) else none) else ev 45 124 [some (.inr (.inr (11, 0))), none, none, some (.inr (.inl l3)), none, some (.inl (l5 + 1)), none] [] (wI s 20 0 t1.toNatClampNeg t0)) else none) else none) := (ev_go [5, 36, 73, 124, 164] 114 45 164 [some (.inr (.inr (11, 0))), none, none, some (.inr (.inl l3)), none, some (.inl l5), none] [(.inl t0), (.inl t1), (.inr (.inr (20, 0)))] s).trans rfl
set_option maxRecDepth 20000 in
theorem q_46  (s : SS) : ev 46 0 [some (.inr (.inr (11, 0))), none, none] [] s = ev 46 7 [some (.inr (.inr (11, 0))), some (.inl 0), none] [] (wL s 11 0 9 0) := (ev_go [7, 37] 41 46 0 [some (.inr (.inr (11, 0))), none, none] [] s).trans rfl
set_option maxRecDepth 20000 in
theorem q_46_at7 (l1 : Int32) (s : SS) : ev 46 7 [some (.inr (.inr (11, 0))), some (.inl l1), none] [] s = (if l1 < (s.1 11 0 0) then cI (ev 54 0 [some (.inr (.inr (11, 0))), some (.inl l1), none] [] s) (fun x1 s1 => (if x1 < 0 then ev 46 37 [some (.inr (.inr (11, 0))), some (.inl l1), none] [(.inr (.inl 0)), (.inl l1), (.inr (.inr (21, 0)))] s1 else ev 46 37 [some (.inr (.inr (11, 0))), some (.inl l1), none] [(.inr (.inl ((1 : Int64) <<< (x1.toInt64 &&& 63)))), (.inl l1), (.inr (.inr (21, 0)))] s1)) else some (none, s)) := (ev_go [7, 37] 41 46 7 [some (.inr (.inr (11, 0))), some (.inl l1), none] [] s).trans rfl
set_option maxRecDepth 20000 in
theorem q_46_at37 (l1 : Int32) (t0 : Int64) (t1 : Int32) (s : SS) : ev 46 37 [some (.inr (.inr (11, 0))), some (.inl l1), none] [(.inr (.inl t0)), (.inl t1), (.inr (.inr (21, 0)))] s = (if ixB t1 1024 = true then (if ixB l1 1024 = true then ev 46 7 [some (.inr (.inr (11, 0))), some (.inl (l1 + 1)), none] [] (wL (wL s 21 0 t1.toNatClampNeg t0) 11 0 9 (((wL s 21 0 t1.toNatClampNeg t0).2.1 11 0 9) + ((wL s 21 0 t1.toNatClampNeg t0).2.1 21 0 l1.toNatClampNeg))) else none) else none) := (ev_go [7, 37] 41 46 37 [some (.inr (.inr (11, 0))), some (.inl l1), none] [(.inr (.inl t0)), (.inl t1), (.inr (.inr (21, 0)))] s).trans rfl
set_option maxRecDepth 20000 in
theorem q_47 (p0 : Int32) (s : SS) : ev 47 0 [some (.inr (.inr (11, 0))), some (.inl p0), none, none] [] s = ev 47 4 [some (.inr (.inr (11, 0))), some (.inl p0), some (.inl 0), some (.inl 0)] [] s := (ev_go [4] 40 47 0 [some (.inr (.inr (11, 0))), some (.inl p0), none, none] [] s).trans rfl
set_option maxRecDepth 20000 in
theorem q_47_at4 (l1 : Int32) (l2 : Int32) (l3 : Int32) (s : SS) : ev 47 4 [some (.inr (.inr (11, 0))), some (.inl l1), some (.inl l2), some (.inl l3)] [] s = (if l3 < 8 then (if ixB l3 8 = true then (if (s.1 22 0 l3.toNatClampNeg) = 0 then ev 47 4 [some (.inr (.inr (11, 0))), some (.inl l1), some (.inl l2), some (.inl (l3 + 1))] [] s else (if ixB l3 8 = true then cI (ev 49 0 [some (.inr (.inr (11, 0))), some (.inl l3), some (.inl l1)] [] s) (fun x1 s1 => ev 47 4 [some (.inr (.inr (11, 0))), some (.inl l1), some (.inl (l2 + ((s.1 22 0 l3.toNatClampNeg) * x1))), some (.inl (l3 + 1))] [] s1) else none)) else none) else some (some (.inl l2), s)) := (ev_go [4] 40 47 4 [some (.inr (.inr (11, 0))), some (.inl l1), some (.inl l2), some (.inl l3)] [] s).trans rfl
set_option maxRecDepth 20000 in
theorem q_48 (p0 : Int32) (s : SS) : ev 48 0 [some (.inr (.inr (11, 0))), some (.inl p0), some (.inr (.inr (10, 0))), none, none] [] s = ev 48 5 [some (.inr (.inr (11, 0))), some (.inl p0), some (.inr (.inr (10, 0))), some (.inl 0), some (.inl 0)] [] s := (ev_go [5] 40 48 0 [some (.inr (.inr (11, 0))), some (.inl p0), some (.inr (.inr (10, 0))), none, none] [] s).trans rfl
set_option maxRecDepth 20000 in
theorem q_48_at5 (l1 : Int32) (l3 : Int32) (l4 : Int32) (s : SS) : ev 48 5 [some (.inr (.inr (11, 0))), some (.inl l1), some (.inr (.inr (10, 0))), some (.inl l3), some (.inl l4)] [] s = (if l4 < 8 then (if ixB l4 8 = true then (if (s.1 13 (s.2.2 l4.toNatClampNeg) 0) = 0 then ev 48 5 [some (.inr (.inr (11, 0))), some (.inl l1), some (.inr (.inr (10, 0))), some (.inl l3), some (.inl (l4 + 1))] [] s else (if ixB l4 8 = true then cI (ev 117 0 [some (.inl (s.1 13 (s.2.2 l4.toNatClampNeg) 1))] [] s) (fun x1 s1 => (if x1 = 0 then ev 48 5 [some (.inr (.inr (11, 0))), some (.inl l1), some (.inr (.inr (10, 0))), some (.inl l3), some (.inl (l4 + 1))] [] s1 else cI (ev 49 0 [some (.inr (.inr (11, 0))), some (.inl l4), some (.inl l1)] [] s1) (fun x2 s2 => ev 48 5 [some (.inr (.inr (11, 0))), some (.inl l1), some (.inr (.inr (10, 0))), some (.inl (l3 + x2)), some (.inl (l4 + 1))] [] s2))) else none)) else none) else some (some (.inl l3), s)) := (ev_go [5] 40 48 5 [some (.inr (.inr (11, 0))), some (.inl l1), some (.inr (.inr (10, 0))), some (.inl l3), some (.inl l4)] [] s).trans rfl
set_option maxRecDepth 20000 in
theorem q_49 (p0 : Int32) (p1 : Int32) (s : SS) : ev 49 0 [some (.inr (.inr (11, 0))), some (.inl p0), some (.inl p1)] [] s = (if ixB p1 1024 = true then some (some (.inl (((((s.2.1 19 0 p1.toNatClampNeg).toUInt64 >>> ((p0 * 8).toInt64.toUInt64 &&& Int64.toUInt64 63)).toInt64) &&& 255).toInt32)), s) else none) := (ev_go [] 40 49 0 [some (.inr (.inr (11, 0))), some (.inl p0), some (.inl p1)] [] s).trans rfl
set_option maxRecDepth 20000 in
theorem q_50  (s : SS) : ev 50 0 [some (.inr (.inr (11, 0)))] [] s = (if (s.1 11 0 8) = 1000000 then some (some (.inl 1), s) else some (some (.inl 0), s)) := (ev_go [] 40 50 0 [some (.inr (.inr (11, 0)))] [] s).trans rfl
set_option maxRecDepth 20000 in
theorem q_51 (p0 : Int32) (s : SS) : ev 51 0 [some (.inr (.inr (11, 0))), some (.inl p0)] [] s = (if ixB p0 1024 = true then (if (s.1 20 0 p0.toNatClampNeg) = 1000000 then some (some (.inl 1), s) else some (some (.inl 0), s)) else none) := (ev_go [] 40 51 0 [some (.inr (.inr (11, 0))), some (.inl p0)] [] s).trans rfl
set_option maxRecDepth 20000 in
theorem q_52 (p0 : Int32) (p1 : Int32) (s : SS) : ev 52 0 [some (.inr (.inr (11, 0))), some (.inl p0), some (.inl p1)] [] s = (if ixB p0 1024 = true then (if (((s.1 18 0 p0.toNatClampNeg) >>> (p1 &&& 31)) &&& 1) = 0 then some (some (.inl 0), s) else some (some (.inl 1), s)) else none) := (ev_go [] 40 52 0 [some (.inr (.inr (11, 0))), some (.inl p0), some (.inl p1)] [] s).trans rfl
set_option maxRecDepth 20000 in
theorem q_53 (p0 : Int32) (s : SS) : ev 53 0 [some (.inr (.inr (11, 0))), some (.inl p0), none, none] [] s = ev 53 4 [some (.inr (.inr (11, 0))), some (.inl p0), some (.inl 0), some (.inl 0)] [] s := (ev_go [4] 40 53 0 [some (.inr (.inr (11, 0))), some (.inl p0), none, none] [] s).trans rfl
set_option maxRecDepth 20000 in
theorem q_53_at4 (l1 : Int32) (l2 : Int32) (l3 : Int32) (s : SS) : ev 53 4 [some (.inr (.inr (11, 0))), some (.inl l1), some (.inl l2), some (.inl l3)] [] s = (if l3 < (s.1 11 0 0) then cI (ev 51 0 [some (.inr (.inr (11, 0))), some (.inl l3)] [] s) (fun x1 s1 => (if x1 = 0 then (if ixB l3 1024 = true then (if l1 < ((s1.1 20 0 l3.toNatClampNeg) - (s1.1 11 0 8)) then ev 53 4 [some (.inr (.inr (11, 0))), some (.inl l1), some (.inl l2), some (.inl (l3 + 1))] [] s1 else ev 53 4 [some (.inr (.inr (11, 0))), some (.inl l1), some (.inl (l2 + 1)), some (.inl (l3 + 1))] [] s1) else none) else ev 53 4 [some (.inr (.inr (11, 0))), some (.inl l1), some (.inl l2), some (.inl (l3 + 1))] [] s1)) else some (some (.inl l2), s)) := (ev_go [4] 40 53 4 [some (.inr (.inr (11, 0))), some (.inl l1), some (.inl l2), some (.inl l3)] [] s).trans rfl
set_option maxRecDepth 20000 in
theorem q_54 (p0 : Int32) (s : SS) : ev 54 0 [some (.inr (.inr (11, 0))), some (.inl p0), none] [] s = (if ixB p0 1024 = true then cI (ev 51 0 [some (.inr (.inr (11, 0))), some (.inl p0)] [] s) (fun x1 s1 => (if x1 = 0 then (if 20 < ((s.1 20 0 p0.toNatClampNeg) - (s.1 11 0 8)) then some (some (.inl (-1000)), s1) else some (some (.inl (20 - ((s.1 20 0 p0.toNatClampNeg) - (s.1 11 0 8)))), s1)) else some (some (.inl (-1000)), s1))) else none) := (ev_go [] 40 54 0 [some (.inr (.inr (11, 0))), some (.inl p0), none] [] s).trans rfl
set_option maxRecDepth 20000 in
theorem q_55 (p0 : Int32) (s : SS) : ev 55 0 [some (.inr (.inr (11, 0))), some (.inl p0)] [] s = (if ixB p0 1024 = true then some (some (.inr (.inl (s.2.1 21 0 p0.toNatClampNeg))), s) else none) := (ev_go [] 40 55 0 [some (.inr (.inr (11, 0))), some (.inl p0)] [] s).trans rfl
set_option maxRecDepth 20000 in
theorem q_56 (p0 : Int32) (s : SS) : ev 56 0 [some (.inr (.inr (11, 0))), some (.inl p0), none, none, none] [] s = ev 56 5 [some (.inr (.inr (11, 0))), some (.inl p0), some (.inr (.inl 0)), none, some (.inl 0)] [] s := (ev_go [5] 40 56 0 [some (.inr (.inr (11, 0))), some (.inl p0), none, none, none] [] s).trans rfl
set_option maxRecDepth 20000 in
theorem q_56_at5 (l1 : Int32) (l2 : Int64) (l4 : Int32) (s : SS) : ev 56 5 [some (.inr (.inr (11, 0))), some (.inl l1), some (.inr (.inl l2)), none, some (.inl l4)] [] s = (if l4 < (s.1 11 0 0) then (if ixB l4 1024 = true then (if ((s.1 18 0 l4.toNatClampNeg) &&& l1) = l1 then (if ixB l4 1024 = true then ev 56 5 [some (.inr (.inr (11, 0))), some (.inl l1), some (.inr (.inl (l2 + (s.2.1 21 0 l4.toNatClampNeg)))), none, some (.inl (l4 + 1))] [] s else none) else ev 56 5 [some (.inr (.inr (11, 0))), some (.inl l1), some (.inr (.inl l2)), none, some (.inl (l4 + 1))] [] s) else none) else some (some (.inr (.inl l2)), s)) := (ev_go [5] 40 56 5 [some (.inr (.inr (11, 0))), some (.inl l1), some (.inr (.inl l2)), none, some (.inl l4)] [] s).trans rfl
set_option maxRecDepth 20000 in
theorem q_57 (p0 : Int64) (s : SS) : ev 57 0 [some (.inr (.inr (11, 0))), some (.inr (.inl p0)), none, none, none, none] [] s = ev 57 5 [some (.inr (.inr (11, 0))), some (.inr (.inl p0)), none, some (.inr (.inl 0)), none, some (.inl 0)] [] s := (ev_go [5] 40 57 0 [some (.inr (.inr (11, 0))), some (.inr (.inl p0)), none, none, none, none] [] s).trans rfl
set_option maxRecDepth 20000 in
theorem q_57_at5 (l1 : Int64) (l3 : Int64) (l5 : Int32) (s : SS) : ev 57 5 [some (.inr (.inr (11, 0))), some (.inr (.inl l1)), none, some (.inr (.inl l3)), none, some (.inl l5)] [] s = (if l5 < (s.1 11 0 0) then (if ixB l5 1024 = true then (if 0 < (lg_cmp (l3 + (s.2.1 21 0 l5.toNatClampNeg)) l1) then some (some (.inl l5), s) else ev 57 5 [some (.inr (.inr (11, 0))), some (.inr (.inl l1)), none, some (.inr (.inl (l3 + (s.2.1 21 0 l5.toNatClampNeg)))), none, some (.inl (l5 + 1))] [] s) else none) else some (some (.inl 0), s)) := (ev_go [5] 40 57 5 [some (.inr (.inr (11, 0))), some (.inr (.inl l1)), none, some (.inr (.inl l3)), none, some (.inl l5)] [] s).trans rfl
end
section
set_option maxRecDepth 20000 in
theorem q_58 (p0 : Int32) (p1 : Int32) (s : SS) : ev 58 0 [some (.inr (.inr (0, 0))), some (.inl p0), some (.inl p1)] [] s = cI (ev 101 0 [some (.inr (.inr (0, 0))), some (.inr (.inr (1, 0))), some (.inl p0), some (.inl p1), some (.inl 0)] [] s) (fun x1 s1 => some (some (.inl x1), s1)) := (ev_go [] 40 58 0 [some (.inr (.inr (0, 0))), some (.inl p0), some (.inl p1)] [] s).trans rfl
set_option maxRecDepth 20000 in
theorem q_59 (p0 : Int32) (p1 : Int32) (p2 : Int32) (s : SS) : ev 59 0 [some (.inr (.inr (0, 0))), some (.inl p0), some (.inl p1), some (.inl p2), none] [] s = cI (ev 102 0 [some (.inr (.inr (0, 0))), some (.inr (.inr (1, 0))), some (.inl p0), some (.inl p1)] [] s) (fun x1 s1 => (if x1 = 0 then cI (ev 15 0 [some (.inr (.inr (1, 0))), some (.inl p0), some (.inl p1)] [] s1) (fun x2 s2 => cV (ev 16 0 [some (.inr (.inr (1, 0))), some (.inl p0), some (.inl p1), some (.inl p2)] [] (wI s2 0 0 9 x2)) (fun s3 => some (some (.inl 1), s3))) else some (some (.inl x1), s1))) := (ev_go [] 40 59 0 [some (.inr (.inr (0, 0))), some (.inl p0), some (.inl p1), some (.inl p2), none] [] s).trans rfl
set_option maxRecDepth 20000 in
theorem q_60 (p0 : Int32) (p1 : Int32) (s : SS) : ev 60 0 [some (.inr (.inr (0, 0))), some (.inl p0), some (.inl p1), none] [] s = cI (ev 102 0 [some (.inr (.inr (0, 0))), some (.inr (.inr (1, 0))), some (.inl p0), some (.inl p1)] [] s) (fun x1 s1 => (if x1 = 0 then cI (ev 15 0 [some (.inr (.inr (1, 0))), some (.inl p0), some (.inl p1)] [] s1) (fun x2 s2 => some (some (.inl 1), (wI s2 0 0 9 x2))) else some (some (.inl x1), s1))) := (ev_go [] 40 60 0 [some (.inr (.inr (0, 0))), some (.inl p0), some (.inl p1), none] [] s).trans rfl
set_option maxRecDepth 20000 in
theorem q_61 (p0 : Int32) (s : SS) : ev 61 0 [some (.inr (.inr (0, 0))), some (.inl p0)] [] s = cI (ev 9 0 [some (.inr (.inr (1, 0))), some (.inl p0)] [] s) (fun x1 s1 => (if x1 = 0 then some (some (.inl (-1)), s1) else cI (ev 10 0 [some (.inr (.inr (1, 0))), some (.inl p0)] [] s1) (fun x2 s2 => (if x2 = 0 then cI (ev 100 0 [some (.inr (.inr (0, 0))), some (.inl 1)] [] s2) (fun x3 s3 => some (some (.inl x3), s3)) else cV (ev 14 0 [some (.inr (.inr (1, 0))), some (.inl p0)] [] s2) (fun s4 => some (some (.inl 1), s4)))))) := (ev_go [] 40 61 0 [some (.inr (.inr (0, 0))), some (.inl p0)] [] s).trans rfl
set_option maxRecDepth 20000 in
theorem q_62 (p0 : Int32) (p1 : Int32) (p2 : Int32) (p3 : Int32) (p4 : Int32) (s : SS) : ev 62 0 [some (.inr (.inr (0, 0))), some (.inl p0), some (.inl p1), some (.inl p2), some (.inl p3), some (.inl p4)] [] s = cI (ev 9 0 [some (.inr (.inr (1, 0))), some (.inl p0)] [] s) (fun x1 s1 => (if x1 = 0 then some (some (.inl (-1)), s1) else cI (ev 9 0 [some (.inr (.inr (1, 0))), some (.inl p2)] [] s1) (fun x2 s2 => (if x2 = 0 then some (some (.inl (-1)), s2) else (if p4 < 0 then cI (ev 100 0 [some (.inr (.inr (0, 0))), some (.inl 5)] [] s2) (fun x3 s3 => some (some (.inl x3), s3)) else cI (ev 10 0 [some (.inr (.inr (1, 0))), some (.inl p0)] [] s2) (fun x4 s4 => (if x4 = 0 then cI (ev 100 0 [some (.inr (.inr (0, 0))), some (.inl 1)] [] s4) (fun x5 s5 => some (some (.inl x5), s5)) else cI (ev 10 0 [some (.inr (.inr (1, 0))), some (.inl p2)] [] s4) (fun x6 s6 => (if x6 = 0 then cI (ev 100 0 [some (.inr (.inr (0, 0))), some (.inl 1)] [] s6) (fun x7 s7 => some (some (.inl x7), s7)) else cI (ev 12 0 [some (.inr (.inr (1, 0))), some (.inl p0), some (.inl p1), some (.inl p4)] [] s6) (fun x8 s8 => (if x8 = 0 then cI (ev 100 0 [some (.inr (.inr (0, 0))), some (.inl 2)] [] s8) (fun x9 s9 => some (some (.inl x9), s9)) else cI (ev 12 0 [some (.inr (.inr (1, 0))), some (.inl p2), some (.inl p3), some (.inl p4)] [] s8) (fun x10 s10 => (if x10 = 0 then cI (ev 100 0 [some (.inr (.inr (0, 0))), some (.inl 2)] [] s10) (fun x11 s11 => some (some (.inl x11), s11)) else cV (ev 17 0 [some (.inr (.inr (1, 0))), some (.inl p0), some (.inl p1), some (.inl p2), some (.inl p3), some (.inl p4)] [] s10) (fun s12 => some (some (.inl 1), s12))))))))))))))) := (ev_go [] 65 62 0 [some (.inr (.inr (0, 0))), some (.inl p0), some (.inl p1), some (.inl p2), some (.inl p3), some (.inl p4)] [] s).trans rfl
set_option maxRecDepth 20000 in
theorem q_63 (p0 : Int32) (s : SS) : ev 63 0 [some (.inr (.inr (0, 0))), some (.inl p0), none] [] s = cI (ev 9 0 [some (.inr (.inr (1, 0))), some (.inl p0)] [] s) (fun x1 s1 => (if x1 = 0 then some (some (.inl (-1)), s1) else cI (ev 10 0 [some (.inr (.inr (1, 0))), some (.inl p0)] [] s1) (fun x2 s2 => (if x2 = 0 then cI (ev 100 0 [some (.inr (.inr (0, 0))), some (.inl 1)] [] s2) (fun x3 s3 => some (some (.inl x3), s3)) else cI (ev 11 0 [some (.inr (.inr (1, 0))), some (.inl p0)] [] s2) (fun x4 s4 => (if 0 < x4 then cL (ev 18 0 [some (.inr (.inr (1, 0))), some (.inl p0), none, none, none] [] s4) (fun x5 s5 => (if (x4.toInt64 : Int64) = 0 then none else some (some (.inl 1), (wI s5 0 0 9 ((x5 / x4.toInt64).toInt32))))) else cI (ev 100 0 [some (.inr (.inr (0, 0))), some (.inl 4)] [] s4) (fun x6 s6 => some (some (.inl x6), s6)))))))) := (ev_go [] 44 63 0 [some (.inr (.inr (0, 0))), some (.inl p0), none] [] s).trans rfl
set_option maxRecDepth 20000 in
theorem q_64 (p0 : Int32) (p1 : Int32) (s : SS) : ev 64 0 [some (.inr (.inr (0, 0))), some (.inl p0), some (.inl p1)] [] s = cI (ev 101 0 [some (.inr (.inr (0, 0))), some (.inr (.inr (2, 0))), some (.inl p0), some (.inl p1), some (.inl 32)] [] s) (fun x1 s1 => some (some (.inl x1), s1)) := (ev_go [] 40 64 0 [some (.inr (.inr (0, 0))), some (.inl p0), some (.inl p1)] [] s).trans rfl
set_option maxRecDepth 20000 in
theorem q_65 (p0 : Int32) (p1 : Int32) (p2 : Int32) (s : SS) : ev 65 0 [some (.inr (.inr (0, 0))), some (.inl p0), some (.inl p1), some (.inl p2), none, none] [] s = cI (ev 102 0 [some (.inr (.inr (0, 0))), some (.inr (.inr (2, 0))), some (.inl p0), some (.inl p1)] [] s) (fun x1 s1 => (if x1 = 0 then cI (ev 15 0 [some (.inr (.inr (2, 0))), some (.inl p0), some (.inl p1)] [] s1) (fun x2 s2 => cV (ev 16 0 [some (.inr (.inr (2, 0))), some (.inl p0), some (.inl p1), some (.inl p2.toInt8.toInt32)] [] s2) (fun s3 => some (some (.inl (x2 + 1000)), s3))) else some (some (.inl x1), s1))) := (ev_go [] 40 65 0 [some (.inr (.inr (0, 0))), some (.inl p0), some (.inl p1), some (.inl p2), none, none] [] s).trans rfl
set_option maxRecDepth 20000 in
theorem q_66 (p0 : Int32) (s : SS) : ev 66 0 [some (.inr (.inr (0, 0))), some (.inl p0), none] [] s = (if p0 < 1 then some (some (.inl (-1)), s) else (if 4 < p0 then some (some (.inl (-1)), s) else ev 66 14 [some (.inr (.inr (0, 0))), some (.inl p0), some (.inl 0)] [] s)) := (ev_go [14] 42 66 0 [some (.inr (.inr (0, 0))), some (.inl p0), none] [] s).trans rfl
set_option maxRecDepth 20000 in
theorem q_66_at14 (l1 : Int32) (l2 : Int32) (s : SS) : ev 66 14 [some (.inr (.inr (0, 0))), some (.inl l1), some (.inl l2)] [] s = (if l2 < 28 then (if ixB l2 28 = true then (if (s.1 9 0 l2.toNatClampNeg) = 0 then ev 66 14 [some (.inr (.inr (0, 0))), some (.inl l1), some (.inl (l2 + 1))] [] s else cI (ev 109 0 [some (.inl l2), some (.inl l1), none] [] s) (fun x1 s1 => (if x1 = 0 then some (some (.inl (-4)), s1) else ev 66 14 [some (.inr (.inr (0, 0))), some (.inl l1), some (.inl (l2 + 1))] [] s1))) else none) else some (some (.inl (s.1 0 0 7)), (wI (wI s 0 0 7 l1) 0 0 8 1))) := (ev_go [14] 42 66 14 [some (.inr (.inr (0, 0))), some (.inl l1), some (.inl l2)] [] s).trans rfl
set_option maxRecDepth 20000 in
theorem q_67 (p0 : Int32) (p1 : Int32) (s : SS) : ev 67 0 [some (.inr (.inr (0, 0))), some (.inl p0), some (.inl p1), none] [] s = cI (ev 106 0 [some (.inl p0)] [] s) (fun x1 s1 => (if x1 = 0 then some (some (.inl (-1)), s1) else cI (ev 107 0 [some (.inl p1)] [] s1) (fun x2 s2 => (if x2 = 0 then some (some (.inl (-1)), s2) else cI (ev 109 0 [some (.inl p0), some (.inl (s2.1 0 0 7)), none] [] s2) (fun x3 s3 => (if x3 = 0 then some (some (.inl (-1)), s3) else cI (ev 112 0 [some (.inr (.inr (0, 0))), some (.inl p0), some (.inl p1)] [] s3) (fun x4 s4 => (if x4 = 0 then (if ixB p0 28 = true then (if ixB p0 28 = true then some (some (.inl (s4.1 9 0 p0.toNatClampNeg)), (wI (wI s4 9 0 p0.toNatClampNeg p1) 0 0 8 1)) else none) else none) else some (some (.inl (-2)), s4))))))))) := (ev_go [] 40 67 0 [some (.inr (.inr (0, 0))), some (.inl p0), some (.inl p1), none] [] s).trans rfl
set_option maxRecDepth 20000 in
theorem q_68 (p0 : Int32) (s : SS) : ev 68 0 [some (.inr (.inr (0, 0))), some (.inl p0)] [] s = cI (ev 106 0 [some (.inl p0)] [] s) (fun x1 s1 => (if x1 = 0 then some (some (.inl (-1)), s1) else (if ixB p0 28 = true then some (some (.inl (s1.1 9 0 p0.toNatClampNeg)), s1) else none))) := (ev_go [] 40 68 0 [some (.inr (.inr (0, 0))), some (.inl p0)] [] s).trans rfl
set_option maxRecDepth 20000 in
theorem q_69 (p0 : Int32) (p1 : Int32) (s : SS) : ev 69 0 [some (.inr (.inr (0, 0))), some (.inl p0), some (.inl p1)] [] s = cI (ev 9 0 [some (.inr (.inr (2, 0))), some (.inl p0)] [] s) (fun x1 s1 => (if x1 = 0 then some (some (.inl (-1)), s1) else cI (ev 115 0 [some (.inl p1)] [] s1) (fun x2 s2 => (if x2 = 0 then some (some (.inl (-1)), s2) else cI (ev 10 0 [some (.inr (.inr (2, 0))), some (.inl p0)] [] s2) (fun x3 s3 => (if x3 = 0 then cI (ev 100 0 [some (.inr (.inr (0, 0))), some (.inl 1)] [] s3) (fun x4 s4 => some (some (.inl x4), s4)) else cI (ev 21 0 [some (.inr (.inr (13, s3.2.2 8))), some (.inr (.inr (2, 0))), some (.inl p0), some (.inl p1), none, none, none] [] s3) (fun x5 s5 => some (some (.inl x5), s5)))))))) := (ev_go [] 40 69 0 [some (.inr (.inr (0, 0))), some (.inl p0), some (.inl p1)] [] s).trans rfl
set_option maxRecDepth 20000 in
theorem q_70 (p0 : Int32) (p1 : Int32) (p2 : Int32) (p3 : Int32) (s : SS) : ev 70 0 [some (.inr (.inr (0, 0))), some (.inl p0), some (.inl p1), some (.inl p2), some (.inl p3), none] [] s = cI (ev 114 0 [some (.inl p0)] [] s) (fun x1 s1 => (if x1 = 0 then some (some (.inl (-1)), s1) else cI (ev 9 0 [some (.inr (.inr (2, 0))), some (.inl p1)] [] s1) (fun x2 s2 => (if x2 = 0 then some (some (.inl (-1)), s2) else cI (ev 115 0 [some (.inl p2)] [] s2) (fun x3 s3 => (if x3 = 0 then some (some (.inl (-1)), s3) else cI (ev 118 0 [some (.inl p2)] [] s3) (fun x4 s4 => (if x4 = 0 then ev 70 44 [some (.inr (.inr (0, 0))), some (.inl p0), some (.inl p1), some (.inl p2), some (.inl p3), none] [] s4 else cI (ev 116 0 [some (.inl p3)] [] s4) (fun x5 s5 => (if x5 = 0 then some (some (.inl (-1)), s5) else ev 70 44 [some (.inr (.inr (0, 0))), some (.inl p0), some (.inl p1), some (.inl p2), some (.inl p3), none] [] s5)))))))))) := (ev_go [44, 140] 88 70 0 [some (.inr (.inr (0, 0))), some (.inl p0), some (.inl p1), some (.inl p2), some (.inl p3), none] [] s).trans rfl
set_option maxRecDepth 20000 in
theorem q_70_at44 (l1 : Int32) (l2 : Int32) (l3 : Int32) (l4 : Int32) (s : SS) : ev 70 44 [some (.inr (.inr (0, 0))), some (.inl l1), some (.inl l2), some (.inl l3), some (.inl l4), none] [] s = cI (ev 10 0 [some (.inr (.inr (2, 0))), some (.inl l2)] [] s) (fun x1 s1 => (if x1 = 0 then cI (ev 100 0 [some (.inr (.inr (0, 0))), some (.inl 1)] [] s1) (fun x2 s2 => some (some (.inl x2), s2)) else cI (ev 21 0 [some (.inr (.inr (13, s1.2.2 8))), some (.inr (.inr (2, 0))), some (.inl l2), some (.inl l3), none, none, none] [] s1) (fun x3 s3 => (if x3 = (-9) then (if ixB l1 8 = true then (if ixB l1 8 = true then (if ixB l1 8 = true then (if ixB l1 8 = true then cI (ev 118 0 [some (.inl l3)] [] (wI (wR (wR s3 l1.toNatClampNeg (s3.2.2 8)) 8 (s3.2.2 l1.toNatClampNeg)) 13 ((wR (wR s3 l1.toNatClampNeg (s3.2.2 8)) 8 (s3.2.2 l1.toNatClampNeg)).2.2 l1.toNatClampNeg) 0 1)) (fun x4 s4 => (if x4 = 0 then ev 70 140 [some (.inr (.inr (0, 0))), some (.inl l1), none, none, none, none] [(.inl 1), (.inr (.inr (0, 0)))] (wI s4 13 ((wI (wR (wR s3 l1.toNatClampNeg (s3.2.2 8)) 8 (s3.2.2 l1.toNatClampNeg)) 13 ((wR (wR s3 l1.toNatClampNeg (s3.2.2 8)) 8 (s3.2.2 l1.toNatClampNeg)).2.2 l1.toNatClampNeg) 0 1).2.2 l1.toNatClampNeg) 2 0) else ev 70 140 [some (.inr (.inr (0, 0))), some (.inl l1), none, none, none, none] [(.inl 1), (.inr (.inr (0, 0)))] (wI s4 13 ((wI (wR (wR s3 l1.toNatClampNeg (s3.2.2 8)) 8 (s3.2.2 l1.toNatClampNeg)) 13 ((wR (wR s3 l1.toNatClampNeg (s3.2.2 8)) 8 (s3.2.2 l1.toNatClampNeg)).2.2 l1.toNatClampNeg) 0 1).2.2 l1.toNatClampNeg) 2 l4))) else none) else none) else none) else none) else some (some (.inl (-4)), s3))))) := (ev_go [44, 140] 88 70 44 [some (.inr (.inr (0, 0))), some (.inl l1), some (.inl l2), some (.inl l3), some (.inl l4), none] [] s).trans rfl
set_option maxRecDepth 20000 in
theorem q_70_at140 (l1 : Int32) (t0 : Int32) (s : SS) : ev 70 140 [some (.inr (.inr (0, 0))), some (.inl l1), none, none, none, none] [(.inl t0), (.inr (.inr (0, 0)))] s = (bif isZ t0 then (if ixB l1 8 = true then cI (ev 33 0 [some (.inr (.inr (13, (wI s 0 0 8 t0).2.2 l1.toNatClampNeg))), some (.inl ((wI s 0 0 8 t0).1 0 0 7))] [] (wI s 0 0 8 t0)) (fun x1 s1 => some (some (.inl x1), s1)) else none) else none) := (ev_go [44, 140] 88 70 140 [some (.inr (.inr (0, 0))), some (.inl l1), none, none, none, none] [(.inl t0), (.inr (.inr (0, 0)))] s).trans rfl
set_option maxRecDepth 20000 in
theorem q_71 (p0 : Int32) (s : SS) : ev 71 0 [some (.inr (.inr (0, 0))), some (.inl p0)] [] s = cI (ev 114 0 [some (.inl p0)] [] s) (fun x1 s1 => (if x1 = 0 then some (some (.inl (-1)), s1) else (if ixB p0 8 = true then (if (s1.1 13 (s1.2.2 p0.toNatClampNeg) 0) = 0 then cI (ev 100 0 [some (.inr (.inr (0, 0))), some (.inl 1)] [] s1) (fun x2 s2 => some (some (.inl x2), s2)) else (if ixB p0 8 = true then some (some (.inl 1), (wI (wI s1 13 (s1.2.2 p0.toNatClampNeg) 0 0) 0 0 8 1)) else none)) else none))) := (ev_go [] 40 71 0 [some (.inr (.inr (0, 0))), some (.inl p0)] [] s).trans rfl
set_option maxRecDepth 20000 in
theorem q_72 (p0 : Int32) (p1 : Int32) (s : SS) : ev 72 0 [some (.inr (.inr (0, 0))), some (.inl p0), some (.inl p1), none] [] s = cI (ev 114 0 [some (.inl p0)] [] s) (fun x1 s1 => (if x1 = 0 then some (some (.inl (-1)), s1) else cI (ev 116 0 [some (.inl p1)] [] s1) (fun x2 s2 => (if x2 = 0 then some (some (.inl (-1)), s2) else (if ixB p0 8 = true then (if (s2.1 13 (s2.2.2 p0.toNatClampNeg) 0) = 0 then cI (ev 100 0 [some (.inr (.inr (0, 0))), some (.inl 1)] [] s2) (fun x3 s3 => some (some (.inl x3), s3)) else (if ixB p0 8 = true then cI (ev 118 0 [some (.inl (s2.1 13 (s2.2.2 p0.toNatClampNeg) 1))] [] s2) (fun x4 s4 => (if x4 = 0 then cI (ev 100 0 [some (.inr (.inr (0, 0))), some (.inl 3)] [] s4) (fun x5 s5 => some (some (.inl x5), s5)) else (if ixB p0 8 = true then (if ixB p0 8 = true then some (some (.inl (s4.1 13 (s4.2.2 p0.toNatClampNeg) 2)), (wI s4 13 (s4.2.2 p0.toNatClampNeg) 2 p1)) else none) else none))) else none)) else none))))) := (ev_go [] 48 72 0 [some (.inr (.inr (0, 0))), some (.inl p0), some (.inl p1), none] [] s).trans rfl
set_option maxRecDepth 20000 in
theorem q_73 (p0 : Int32) (p1 : Int32) (s : SS) : ev 73 0 [some (.inr (.inr (0, 0))), some (.inl p0), some (.inl p1)] [] s = cI (ev 114 0 [some (.inl p0)] [] s) (fun x1 s1 => (if x1 = 0 then some (some (.inl (-1)), s1) else (if p1 < 0 then some (some (.inl (-1)), s1) else (if 2 < p1 then some (some (.inl (-1)), s1) else (if ixB p0 8 = true then (if (s1.1 13 (s1.2.2 p0.toNatClampNeg) 0) = 0 then cI (ev 100 0 [some (.inr (.inr (0, 0))), some (.inl 1)] [] s1) (fun x2 s2 => some (some (.inl x2), s2)) else (if ixB p0 8 = true then cI (ev 121 0 [some (.inr (.inr (0, 0))), some (.inr (.inr (13, s1.2.2 p0.toNatClampNeg))), some (.inl p1)] [] s1) (fun x3 s3 => some (some (.inl 1), (wI s3 0 0 9 x3))) else none)) else none))))) := (ev_go [] 40 73 0 [some (.inr (.inr (0, 0))), some (.inl p0), some (.inl p1)] [] s).trans rfl
set_option maxRecDepth 20000 in
theorem q_74 (p0 : Int32) (p1 : Int32) (s : SS) : ev 74 0 [some (.inr (.inr (0, 0))), some (.inl p0), some (.inl p1)] [] s = cI (ev 114 0 [some (.inl p0)] [] s) (fun x1 s1 => (if x1 = 0 then some (some (.inl (-1)), s1) else cI (ev 115 0 [some (.inl p1)] [] s1) (fun x2 s2 => (if x2 = 0 then some (some (.inl (-1)), s2) else (if p1 = 0 then some (some (.inl (-1)), s2) else (if ixB p0 8 = true then (if (s2.1 13 (s2.2.2 p0.toNatClampNeg) 0) = 0 then cI (ev 100 0 [some (.inr (.inr (0, 0))), some (.inl 1)] [] s2) (fun x3 s3 => some (some (.inl x3), s3)) else (if ixB p0 8 = true then cI (ev 119 0 [some (.inr (.inr (13, s2.2.2 p0.toNatClampNeg))), some (.inl p1)] [] s2) (fun x4 s4 => (if x4 = 0 then cI (ev 100 0 [some (.inr (.inr (0, 0))), some (.inl 3)] [] s4) (fun x5 s5 => some (some (.inl x5), s5)) else (if ixB p0 8 = true then cI (ev 120 0 [some (.inr (.inr (13, s4.2.2 p0.toNatClampNeg))), some (.inl p1)] [] s4) (fun x6 s6 => some (some (.inl x6), s6)) else none))) else none)) else none)))))) := (ev_go [] 43 74 0 [some (.inr (.inr (0, 0))), some (.inl p0), some (.inl p1)] [] s).trans rfl
set_option maxRecDepth 20000 in
theorem q_75  (s : SS) : ev 75 0 [some (.inr (.inr (0, 0)))] [] s = cI (ev 113 0 [some (.inr (.inr (0, 0))), some (.inl 3), some (.inl 3), none, none] [] s) (fun x1 s1 => some (some (.inl ((1 : Int32) <<< (x1 &&& 31))), s1)) := (ev_go [] 40 75 0 [some (.inr (.inr (0, 0)))] [] s).trans rfl
set_option maxRecDepth 20000 in
theorem q_76 (p0 : Int32) (s : SS) : ev 76 0 [some (.inr (.inr (0, 0))), some (.inl p0)] [] s = cI (ev 125 0 [some (.inr (.inr (0, 0))), some (.inl p0)] [] s) (fun x1 s1 => (if x1 = 0 then some (some (.inl (-1)), s1) else cV (ev 126 0 [some (.inr (.inr (0, 0))), some (.inl 0)] [] s1) (fun s2 => cI (ev 48 0 [some (.inr (.inr (11, 0))), some (.inl p0), some (.inr (.inr (10, 0))), none, none] [] s2) (fun x3 s3 => cI (ev 47 0 [some (.inr (.inr (11, 0))), some (.inl p0), none, none] [] (wI s3 0 0 9 x3)) (fun x4 s4 => some (some (.inl x4), s4)))))) := (ev_go [] 40 76 0 [some (.inr (.inr (0, 0))), some (.inl p0)] [] s).trans rfl
set_option maxRecDepth 20000 in
theorem q_77 (p0 : Int32) (p1 : Int32) (s : SS) : ev 77 0 [some (.inr (.inr (0, 0))), some (.inl p0), some (.inl p1)] [] s = cI (ev 114 0 [some (.inl p0)] [] s) (fun x1 s1 => (if x1 = 0 then some (some (.inl (-1)), s1) else cI (ev 125 0 [some (.inr (.inr (0, 0))), some (.inl p1)] [] s1) (fun x2 s2 => (if x2 = 0 then some (some (.inl (-1)), s2) else (if ixB p0 8 = true then (if (s2.1 13 (s2.2.2 p0.toNatClampNeg) 0) = 0 then cI (ev 100 0 [some (.inr (.inr (0, 0))), some (.inl 1)] [] s2) (fun x3 s3 => some (some (.inl x3), s3)) else cV (ev 126 0 [some (.inr (.inr (0, 0))), some (.inl 0)] [] s2) (fun s4 => cI (ev 49 0 [some (.inr (.inr (11, 0))), some (.inl p0), some (.inl p1)] [] s4) (fun x5 s5 => some (some (.inl x5), s5)))) else none))))) := (ev_go [] 40 77 0 [some (.inr (.inr (0, 0))), some (.inl p0), some (.inl p1)] [] s).trans rfl
set_option maxRecDepth 20000 in
theorem q_78  (s : SS) : ev 78 0 [some (.inr (.inr (0, 0)))] [] s = cV (ev 126 0 [some (.inr (.inr (0, 0))), some (.inl 0)] [] s) (fun s1 => cI (ev 50 0 [some (.inr (.inr (11, 0)))] [] s1) (fun x2 s2 => (if x2 = 0 then some (some (.inl ((wI s2 0 0 9 (s2.1 11 0 8)).1 11 0 7)), (wI s2 0 0 9 (s2.1 11 0 8))) else some (some (.inl (-9)), s2)))) := (ev_go [] 40 78 0 [some (.inr (.inr (0, 0)))] [] s).trans rfl
set_option maxRecDepth 20000 in
theorem q_79 (p0 : Int32) (s : SS) : ev 79 0 [some (.inr (.inr (0, 0))), some (.inl p0)] [] s = (if p0 < 0 then some (some (.inl (-1)), s) else (if 999 < p0 then some (some (.inl (-1)), s) else cV (ev 126 0 [some (.inr (.inr (0, 0))), some (.inl 0)] [] s) (fun s1 => cI (ev 53 0 [some (.inr (.inr (11, 0))), some (.inl p0), none, none] [] s1) (fun x2 s2 => some (some (.inl x2), s2))))) := (ev_go [] 40 79 0 [some (.inr (.inr (0, 0))), some (.inl p0)] [] s).trans rfl
set_option maxRecDepth 20000 in
theorem q_80 (p0 : Int32) (s : SS) : ev 80 0 [some (.inr (.inr (0, 0))), some (.inl p0)] [] s = cI (ev 106 0 [some (.inl p0)] [] s) (fun x1 s1 => (if x1 = 0 then some (some (.inl (-1)), s1) else cV (ev 126 0 [some (.inr (.inr (0, 0))), some (.inl 0)] [] s1) (fun s2 => cL (ev 56 0 [some (.inr (.inr (11, 0))), some (.inl ((1 : Int32) <<< (p0 &&& 31))), none, none, none] [] s2) (fun x3 s3 => cI (ev 103 0 [some (.inr (.inr (0, 0))), some (.inr (.inl x3)), none, some (.inr (.inl (s3.2.1 11 0 9))), none] [] s3) (fun x4 s4 => some (some (.inl x4), s4)))))) := (ev_go [] 40 80 0 [some (.inr (.inr (0, 0))), some (.inl p0)] [] s).trans rfl
set_option maxRecDepth 20000 in
theorem q_81 (p0 : Int32) (p1 : Int32) (s : SS) : ev 81 0 [some (.inr (.inr (0, 0))), some (.inl p0), some (.inl p1)] [] s = cI (ev 106 0 [some (.inl p0)] [] s) (fun x1 s1 => (if x1 = 0 then some (some (.inl (-1)), s1) else cI (ev 106 0 [some (.inl p1)] [] s1) (fun x2 s2 => (if x2 = 0 then some (some (.inl (-1)), s2) else cV (ev 126 0 [some (.inr (.inr (0, 0))), some (.inl 0)] [] s2) (fun s3 => cL (ev 56 0 [some (.inr (.inr (11, 0))), some (.inl (((1 : Int32) <<< (p0 &&& 31)) ||| ((1 : Int32) <<< (p1 &&& 31)))), none, none, none] [] s3) (fun x4 s4 => cI (ev 103 0 [some (.inr (.inr (0, 0))), some (.inr (.inl x4)), none, some (.inr (.inl (s4.2.1 11 0 9))), none] [] s4) (fun x5 s5 => some (some (.inl x5), s5)))))))) := (ev_go [] 40 81 0 [some (.inr (.inr (0, 0))), some (.inl p0), some (.inl p1)] [] s).trans rfl
set_option maxRecDepth 20000 in
theorem q_82 (p0 : Int32) (p1 : Int32) (s : SS) : ev 82 0 [some (.inr (.inr (0, 0))), some (.inl p0), some (.inl p1)] [] s = cI (ev 106 0 [some (.inl p0)] [] s) (fun x1 s1 => (if x1 = 0 then some (some (.inl (-1)), s1) else cI (ev 106 0 [some (.inl p1)] [] s1) (fun x2 s2 => (if x2 = 0 then some (some (.inl (-1)), s2) else cV (ev 126 0 [some (.inr (.inr (0, 0))), some (.inl 0)] [] s2) (fun s3 => cL (ev 56 0 [some (.inr (.inr (11, 0))), some (.inl (((1 : Int32) <<< (p0 &&& 31)) ||| ((1 : Int32) <<< (p1 &&& 31)))), none, none, none] [] s3) (fun x4 s4 => cL (ev 56 0 [some (.inr (.inr (11, 0))), some (.inl ((1 : Int32) <<< (p1 &&& 31))), none, none, none] [] s4) (fun x5 s5 => cI (ev 103 0 [some (.inr (.inr (0, 0))), some (.inr (.inl x4)), none, some (.inr (.inl x5)), none] [] s5) (fun x6 s6 => some (some (.inl x6), s6))))))))) := (ev_go [] 40 82 0 [some (.inr (.inr (0, 0))), some (.inl p0), some (.inl p1)] [] s).trans rfl
set_option maxRecDepth 20000 in
theorem q_83 (p0 : Int32) (p1 : Int32) (s : SS) : ev 83 0 [some (.inr (.inr (0, 0))), some (.inl p0), some (.inl p1), none] [] s = cI (ev 108 0 [some (.inr (.inr (0, 0))), some (.inl p0)] [] s) (fun x1 s1 => (if x1 = 0 then some (some (.inl (-1)), s1) else cI (ev 108 0 [some (.inr (.inr (0, 0))), some (.inl p1)] [] s1) (fun x2 s2 => (if x2 = 0 then some (some (.inl (-1)), s2) else ev 83 20 [some (.inr (.inr (0, 0))), some (.inl p0), some (.inl p1), some (.inl 0)] [] s2)))) := (ev_go [20] 40 83 0 [some (.inr (.inr (0, 0))), some (.inl p0), some (.inl p1), none] [] s).trans rfl
set_option maxRecDepth 20000 in
theorem q_83_at20 (l1 : Int32) (l2 : Int32) (l3 : Int32) (s : SS) : ev 83 20 [some (.inr (.inr (0, 0))), some (.inl l1), some (.inl l2), some (.inl l3)] [] s = (if l3 < 28 then (if ixB l3 28 = true then cI (ev 110 0 [some (.inl l3), some (.inl l1), some (.inl l2), none, none, none] [] s) (fun x1 s1 => (if ixB x1 28 = true then (if (s.1 9 0 l3.toNatClampNeg) = (s1.1 9 0 x1.toNatClampNeg) then ev 83 20 [some (.inr (.inr (0, 0))), some (.inl l1), some (.inl l2), some (.inl (l3 + 1))] [] s1 else some (some (.inl 0), s1)) else none)) else none) else some (some (.inl 1), s)) := (ev_go [20] 40 83 20 [some (.inr (.inr (0, 0))), some (.inl l1), some (.inl l2), some (.inl l3)] [] s).trans rfl
set_option maxRecDepth 20000 in
theorem q_84 (p0 : Int32) (p1 : Int32) (p2 : Int32) (s : SS) : ev 84 0 [some (.inr (.inr (0, 0))), some (.inl p0), some (.inl p1), some (.inl p2), none, none, none, none, none, none, none] [] s = (if p1 < 1 then some (some (.inl (-1)), s) else (if 200 < p1 then some (some (.inl (-1)), s) else cI (ev 106 0 [some (.inl p2)] [] s) (fun x1 s1 => (if x1 = 0 then some (some (.inl (-1)), s1) else cV (ev 126 0 [some (.inr (.inr (0, 0))), some (.inl 0)] [] s1) (fun s2 => cI (ev 50 0 [some (.inr (.inr (11, 0)))] [] s2) (fun x3 s3 => (if x3 = 0 then ev 84 54 [some (.inr (.inr (0, 0))), none, some (.inl p1), some (.inl p2), some (.inl 0), some (.inl 0), some (.inl p0), some (.inl 0), none, none, none] [] s3 else cI (ev 100 0 [some (.inr (.inr (0, 0))), some (.inl 4)] [] s3) (fun x4 s4 => some (some (.inl x4), s4))))))))) := (ev_go [54] 79 84 0 [some (.inr (.inr (0, 0))), some (.inl p0), some (.inl p1), some (.inl p2), none, none, none, none, none, none, none] [] s).trans rfl
set_option maxRecDepth 20000 in
theorem q_84_at54 (l2 : Int32) (l3 : Int32) (l4 : Int32) (l5 : Int32) (l6 : Int32) (l7 : Int32) (s : SS) : ev 84 54 [some (.inr (.inr (0, 0))), none, some (.inl l2), some (.inl l3), some (.inl l4), some (.inl l5), some (.inl l6), some (.inl l7), none, none, none] [] s = (if l7 < l2 then cI (ev 130 0 [some (.inl l6)] [] s) (fun x1 s1 => cI (ev 130 0 [some (.inl x1)] [] s1) (fun x2 s2 => cI (ev 131 0 [some (.inl x1)] [] s2) (fun x3 s3 => cI (ev 131 0 [some (.inl x2)] [] s3) (fun x4 s4 => cI (ev 57 0 [some (.inr (.inr (11, 0))), some (.inr (.inl ((((x3.toInt64 * 32768) + x4.toInt64) * (s4.2.1 11 0 9)) >>> ((30 : Int32).toInt64 &&& 63)))), none, none, none, none] [] s4) (fun x5 s5 => cI (ev 52 0 [some (.inr (.inr (11, 0))), some (.inl x5), some (.inl l3)] [] s5) (fun x6 s6 => (if x6 = 0 then ev 84 54 [some (.inr (.inr (0, 0))), none, some (.inl l2), some (.inl l3), some (.inl l4), some (.inl x5), some (.inl x2), some (.inl (l7 + 1)), none, none, none] [] s6 else ev 84 54 [some (.inr (.inr (0, 0))), none, some (.inl l2), some (.inl l3), some (.inl (l4 + 1)), some (.inl x5), some (.inl x2), some (.inl (l7 + 1)), none, none, none] [] s6))))))) else some (some (.inl l4), (wI s 0 0 9 l5))) := (ev_go [54] 79 84 54 [some (.inr (.inr (0, 0))), none, some (.inl l2), some (.inl l3), some (.inl l4), some (.inl l5), some (.inl l6), some (.inl l7), none, none, none] [] s).trans rfl
set_option maxRecDepth 20000 in
theorem q_85 (p0 : Int32) (p1 : Int32) (p2 : Int32) (s : SS) : ev 85 0 [some (.inr (.inr (0, 0))), some (.inl p0), some (.inl p1), some (.inl p2), none, none] [] s = cI (ev 125 0 [some (.inr (.inr (0, 0))), some (.inl p0)] [] s) (fun x1 s1 => (if x1 = 0 then some (some (.inl (-1)), s1) else (if p1 < 1 then some (some (.inl (-1)), s1) else (if 255 < p1 then some (some (.inl (-1)), s1) else cI (ev 1 0 [some (.inl p1)] [] s1) (fun x2 s2 => (if 3 < x2 then some (some (.inl (-1)), s2) else (if p2 < 0 then some (some (.inl (-1)), s2) else (if 2 < p2 then some (some (.inl (-1)), s2) else cI (ev 132 0 [some (.inr (.inr (0, 0))), some (.inl p1), none] [] s2) (fun x3 s3 => (if x3 = 0 then cV (ev 126 0 [some (.inr (.inr (0, 0))), some (.inl 0)] [] s3) (fun s4 => cI (ev 50 0 [some (.inr (.inr (11, 0)))] [] s4) (fun x5 s5 => (if x5 = 0 then cI (ev 51 0 [some (.inr (.inr (11, 0))), some (.inl p0)] [] s5) (fun x6 s6 => (if x6 = 0 then cI (ev 133 0 [some (.inr (.inr (0, 0))), some (.inl p0), some (.inl p1), some (.inl p2), none, none, none, none, none, none, none, none] [] s6) (fun x7 s7 => cV (ev 135 0 [some (.inr (.inr (0, 0))), some (.inl p1), some (.inl x7), none, none] [] s7) (fun s8 => ev 85 111 [some (.inr (.inr (0, 0))), some (.inl p0), none, none, none, some (.inl x7)] [] s8)) else some (some (.inl (-4)), s6))) else cI (ev 100 0 [some (.inr (.inr (0, 0))), some (.inl 4)] [] s5) (fun x9 s9 => some (some (.inl x9), s9))))) else cI (ev 100 0 [some (.inr (.inr (0, 0))), some (.inl x3)] [] s3) (fun x10 s10 => some (some (.inl x10), s10)))))))))))) := (ev_go [111] 81 85 0 [some (.inr (.inr (0, 0))), some (.inl p0), some (.inl p1), some (.inl p2), none, none] [] s).trans rfl
set_option maxRecDepth 20000 in
theorem q_85_at111 (l1 : Int32) (l5 : Int32) (s : SS) : ev 85 111 [some (.inr (.inr (0, 0))), some (.inl l1), none, none, none, some (.inl l5)] [] s = cV (ev 126 0 [some (.inr (.inr (0, 0))), some (.inl 0)] [] s) (fun s1 => cL (ev 55 0 [some (.inr (.inr (11, 0))), some (.inl l1)] [] s1) (fun x2 s2 => cV (ev 104 0 [some (.inr (.inr (0, 0))), some (.inr (.inl x2)), none, some (.inr (.inl (s2.2.1 11 0 9))), none, none, none] [] s2) (fun s3 => cI (ev 137 0 [some (.inl l5)] [] s3) (fun x4 s4 => some (some (.inl x4), s4))))) := (ev_go [111] 81 85 111 [some (.inr (.inr (0, 0))), some (.inl l1), none, none, none, some (.inl l5)] [] s).trans rfl
set_option maxRecDepth 20000 in
theorem q_86 (p0 : Int32) (p1 : Int32) (s : SS) : ev 86 0 [some (.inr (.inr (0, 0))), some (.inl p0), some (.inl p1), none, none, none, none, none, none, none, none] [] s = cI (ev 114 0 [some (.inl p0)] [] s) (fun x1 s1 => (if x1 = 0 then some (some (.inl (-1)), s1) else cI (ev 106 0 [some (.inl p1)] [] s1) (fun x2 s2 => (if x2 = 0 then some (some (.inl (-1)), s2) else (if ixB p0 8 = true then (if (s2.1 13 (s2.2.2 p0.toNatClampNeg) 0) = 0 then cI (ev 100 0 [some (.inr (.inr (0, 0))), some (.inl 1)] [] s2) (fun x3 s3 => some (some (.inl x3), s3)) else cV (ev 126 0 [some (.inr (.inr (0, 0))), some (.inl 0)] [] s2) (fun s4 => cL (ev 56 0 [some (.inr (.inr (11, 0))), some (.inl ((1 : Int32) <<< (p1 &&& 31))), none, none, none] [] s4) (fun x5 s5 => cV (ev 126 0 [some (.inr (.inr (0, 0))), some (.inl ((1 : Int32) <<< (p0 &&& 31)))] [] s5) (fun s6 => cL (ev 56 0 [some (.inr (.inr (11, 0))), some (.inl ((1 : Int32) <<< (p1 &&& 31))), none, none, none] [] s6) (fun x7 s7 => (if 0 < (lg_cmp (s5.2.1 11 0 9) 0) then ev 86 94 [some (.inr (.inr (0, 0))), none, none, some (.inr (.inl x5)), none, some (.inr (.inl (s5.2.1 11 0 9))), none, some (.inr (.inl x7)), none, some (.inr (.inl (s7.2.1 11 0 9))), none] [] s7 else cI (ev 100 0 [some (.inr (.inr (0, 0))), some (.inl 4)] [] s7) (fun x8 s8 => some (some (.inl x8), s8)))))))) else none))))) := (ev_go [94] 79 86 0 [some (.inr (.inr (0, 0))), some (.inl p0), some (.inl p1), none, none, none, none, none, none, none, none] [] s).trans rfl
set_option maxRecDepth 20000 in
theorem q_86_at94 (l3 : Int64) (l5 : Int64) (l7 : Int64) (l9 : Int64) (s : SS) : ev 86 94 [some (.inr (.inr (0, 0))), none, none, some (.inr (.inl l3)), none, some (.inr (.inl l5)), none, some (.inr (.inl l7)), none, some (.inr (.inl l9)), none] [] s = (if 0 < (lg_cmp l9 0) then cV (ev 104 0 [some (.inr (.inr (0, 0))), some (.inr (.inl ((l3 * l9) - (l7 * l5)))), none, some (.inr (.inl (l5 * l9))), none, none, none] [] s) (fun s1 => some (some (.inl 1), s1)) else cI (ev 100 0 [some (.inr (.inr (0, 0))), some (.inl 4)] [] s) (fun x2 s2 => some (some (.inl x2), s2))) := (ev_go [94] 79 86 94 [some (.inr (.inr (0, 0))), none, none, some (.inr (.inl l3)), none, some (.inr (.inl l5)), none, some (.inr (.inl l7)), none, some (.inr (.inl l9)), none] [] s).trans rfl
set_option maxRecDepth 20000 in
theorem q_87 (p0 : Int32) (s : SS) : ev 87 0 [some (.inr (.inr (0, 0))), some (.inl p0), none, none] [] s = cI (ev 106 0 [some (.inl p0)] [] s) (fun x1 s1 => (if x1 = 0 then some (some (.inl (-1)), s1) else cV (ev 126 0 [some (.inr (.inr (0, 0))), some (.inl 0)] [] s1) (fun s2 => cI (ev 50 0 [some (.inr (.inr (11, 0)))] [] s2) (fun x3 s3 => (if x3 = 0 then ev 87 32 [some (.inr (.inr (0, 0))), some (.inl p0), some (.inl 0), none] [] s3 else cI (ev 100 0 [some (.inr (.inr (0, 0))), some (.inl 4)] [] s3) (fun x4 s4 => some (some (.inl x4), s4))))))) := (ev_go [32, 40] 52 87 0 [some (.inr (.inr (0, 0))), some (.inl p0), none, none] [] s).trans rfl
set_option maxRecDepth 20000 in
theorem q_87_at32 (l1 : Int32) (l2 : Int32) (s : SS) : ev 87 32 [some (.inr (.inr (0, 0))), some (.inl l1), some (.inl l2), none] [] s = (if 8 < l2 then some (some (.inl (-9)), s) else ev 87 40 [some (.inr (.inr (0, 0))), some (.inl l1), some (.inl l2), some (.inl 0)] [] s) := (ev_go [32, 40] 52 87 32 [some (.inr (.inr (0, 0))), some (.inl l1), some (.inl l2), none] [] s).trans rfl
set_option maxRecDepth 20000 in
theorem q_87_at40 (l1 : Int32) (l2 : Int32) (l3 : Int32) (s : SS) : ev 87 40 [some (.inr (.inr (0, 0))), some (.inl l1), some (.inl l2), some (.inl l3)] [] s = (if 255 < l3 then ev 87 32 [some (.inr (.inr (0, 0))), some (.inl l1), some (.inl (l2 + 1)), none] [] s else cI (ev 1 0 [some (.inl l3)] [] s) (fun x1 s1 => (if x1 = l2 then cI (ev 124 0 [some (.inr (.inr (0, 0))), some (.inl l3), none] [] s1) (fun x2 s2 => (if x2 = 0 then ev 87 40 [some (.inr (.inr (0, 0))), some (.inl l1), some (.inl l2), some (.inl (l3 + 1))] [] s2 else cI (ev 129 0 [some (.inr (.inr (0, 0))), some (.inl l3), some (.inl l1)] [] s2) (fun x3 s3 => (if x3 = 0 then ev 87 40 [some (.inr (.inr (0, 0))), some (.inl l1), some (.inl l2), some (.inl (l3 + 1))] [] s3 else some (some (.inl l3), s3))))) else ev 87 40 [some (.inr (.inr (0, 0))), some (.inl l1), some (.inl l2), some (.inl (l3 + 1))] [] s1))) := (ev_go [32, 40] 52 87 40 [some (.inr (.inr (0, 0))), some (.inl l1), some (.inl l2), some (.inl l3)] [] s).trans rfl
set_option maxRecDepth 20000 in
theorem q_88 (p0 : Int32) (p1 : Int32) (p2 : Int32) (s : SS) : ev 88 0 [some (.inr (.inr (0, 0))), some (.inl p0), some (.inl p1), some (.inl p2)] [] s = cI (ev 106 0 [some (.inl p0)] [] s) (fun x1 s1 => (if x1 = 0 then some (some (.inl (-1)), s1) else cI (ev 107 0 [some (.inl p1)] [] s1) (fun x2 s2 => (if x2 = 0 then some (some (.inl (-1)), s2) else cI (ev 106 0 [some (.inl p2)] [] s2) (fun x3 s3 => (if x3 = 0 then some (some (.inl (-1)), s3) else cI (ev 109 0 [some (.inl p0), some (.inl (s3.1 0 0 7)), none] [] s3) (fun x4 s4 => (if x4 = 0 then some (some (.inl (-1)), s4) else cI (ev 112 0 [some (.inr (.inr (0, 0))), some (.inl p0), some (.inl p1)] [] s4) (fun x5 s5 => (if x5 = 0 then cV (ev 127 0 [some (.inr (.inr (0, 0))), some (.inl p0), some (.inl p1), none] [] s5) (fun s6 => cL (ev 56 0 [some (.inr (.inr (11, 0))), some (.inl ((1 : Int32) <<< (p2 &&& 31))), none, none, none] [] s6) (fun x7 s7 => cI (ev 103 0 [some (.inr (.inr (0, 0))), some (.inr (.inl x7)), none, some (.inr (.inl (s7.2.1 11 0 9))), none] [] s7) (fun x8 s8 => some (some (.inl x8), s8)))) else some (some (.inl (-2)), s5))))))))))) := (ev_go [] 46 88 0 [some (.inr (.inr (0, 0))), some (.inl p0), some (.inl p1), some (.inl p2)] [] s).trans rfl
set_option maxRecDepth 20000 in
theorem q_89 (p0 : Int32) (p1 : Int32) (s : SS) : ev 89 0 [some (.inr (.inr (0, 0))), some (.inl p0), some (.inl p1), none, none, none, none, none, none] [] s = cI (ev 106 0 [some (.inl p0)] [] s) (fun x1 s1 => (if x1 = 0 then some (some (.inl (-1)), s1) else cI (ev 9 0 [some (.inr (.inr (1, 0))), some (.inl p1)] [] s1) (fun x2 s2 => (if x2 = 0 then some (some (.inl (-1)), s2) else cI (ev 138 0 [some (.inr (.inr (0, 0))), some (.inl p1), none] [] s2) (fun x3 s3 => (if x3 = 0 then cL (ev 56 0 [some (.inr (.inr (11, 0))), some (.inl ((1 : Int32) <<< (p0 &&& 31))), none, none, none] [] s3) (fun x4 s4 => cI (ev 142 0 [some (.inr (.inr (0, 0))), some (.inl p1), some (.inr (.inl x4)), none, some (.inr (.inl ((s4.2.1 11 0 9) - x4))), none, none, none] [] s4) (fun x5 s5 => cL (ev 141 0 [some (.inr (.inr (0, 0))), some (.inl p1), some (.inl x5), some (.inr (.inl x4)), none, some (.inr (.inl ((s4.2.1 11 0 9) - x4))), none] [] s5) (fun x6 s6 => cV (ev 104 0 [some (.inr (.inr (0, 0))), some (.inr (.inl x6)), none, some (.inr (.inl (s6.2.1 11 0 9))), none, none, none] [] s6) (fun s7 => some (some (.inl x5), s7))))) else cI (ev 100 0 [some (.inr (.inr (0, 0))), some (.inl x3)] [] s3) (fun x8 s8 => some (some (.inl x8), s8)))))))) := (ev_go [] 57 89 0 [some (.inr (.inr (0, 0))), some (.inl p0), some (.inl p1), none, none, none, none, none, none] [] s).trans rfl
set_option maxRecDepth 20000 in
theorem q_90 (p0 : Int32) (p1 : Int32) (p2 : Int32) (s : SS) : ev 90 0 [some (.inr (.inr (0, 0))), some (.inl p0), some (.inl p1), some (.inl p2), none, none, none, none, none, none, none, none, none, none, none] [] s = cI (ev 106 0 [some (.inl p0)] [] s) (fun x1 s1 => (if x1 = 0 then some (some (.inl (-1)), s1) else cI (ev 9 0 [some (.inr (.inr (1, 0))), some (.inl p1)] [] s1) (fun x2 s2 => (if x2 = 0 then some (some (.inl (-1)), s2) else cI (ev 106 0 [some (.inl p2)] [] s2) (fun x3 s3 => (if x3 = 0 then some (some (.inl (-1)), s3) else cI (ev 138 0 [some (.inr (.inr (0, 0))), some (.inl p1), none] [] s3) (fun x4 s4 => (if x4 = 0 then cL (ev 56 0 [some (.inr (.inr (11, 0))), some (.inl ((1 : Int32) <<< (p0 &&& 31))), none, none, none] [] s4) (fun x5 s5 => cL (ev 56 0 [some (.inr (.inr (11, 0))), some (.inl (((1 : Int32) <<< (p0 &&& 31)) ||| ((1 : Int32) <<< (p2 &&& 31)))), none, none, none] [] s5) (fun x6 s6 => cL (ev 56 0 [some (.inr (.inr (11, 0))), some (.inl ((1 : Int32) <<< (p2 &&& 31))), none, none, none] [] s6) (fun x7 s7 => ev 90 101 [some (.inr (.inr (0, 0))), none, some (.inl p1), none, none, some (.inr (.inl x5)), none, some (.inr (.inl ((s5.2.1 11 0 9) - x5))), none, some (.inr (.inl x6)), none, some (.inr (.inl (x7 - x6))), none, none, none] [] s7))) else cI (ev 100 0 [some (.inr (.inr (0, 0))), some (.inl x4)] [] s4) (fun x8 s8 => some (some (.inl x8), s8)))))))))) := (ev_go [101] 91 90 0 [some (.inr (.inr (0, 0))), some (.inl p0), some (.inl p1), some (.inl p2), none, none, none, none, none, none, none, none, none, none, none] [] s).trans rfl
set_option maxRecDepth 20000 in
theorem q_90_at101 (l2 : Int32) (l5 : Int64) (l7 : Int64) (l9 : Int64) (l11 : Int64) (s : SS) : ev 90 101 [some (.inr (.inr (0, 0))), none, some (.inl l2), none, none, some (.inr (.inl l5)), none, some (.inr (.inl l7)), none, some (.inr (.inl l9)), none, some (.inr (.inl l11)), none, none, none] [] s = cL (ev 143 0 [some (.inr (.inr (0, 0))), some (.inl l2), some (.inr (.inl l9)), none, some (.inr (.inl l11)), none] [] s) (fun x1 s1 => cL (ev 143 0 [some (.inr (.inr (0, 0))), some (.inl l2), some (.inr (.inl (l5 - l9))), none, some (.inr (.inl (l7 - l11))), none] [] s1) (fun x2 s2 => cL (ev 143 0 [some (.inr (.inr (0, 0))), some (.inl l2), some (.inr (.inl l5)), none, some (.inr (.inl l7)), none] [] s2) (fun x3 s3 => cV (ev 104 0 [some (.inr (.inr (0, 0))), some (.inr (.inl ((x1 + x2) - x3))), none, some (.inr (.inl (s3.2.1 11 0 9))), none, none, none] [] s3) (fun s4 => some (some (.inl 1), s4))))) := (ev_go [101] 91 90 101 [some (.inr (.inr (0, 0))), none, some (.inl l2), none, none, some (.inr (.inl l5)), none, some (.inr (.inl l7)), none, some (.inr (.inl l9)), none, some (.inr (.inl l11)), none, none, none] [] s).trans rfl
set_option maxRecDepth 20000 in
theorem q_91  (s : SS) : ev 91 0 [some (.inr (.inr (0, 0))), none, none, none, none, none] [] s = cV (ev 126 0 [some (.inr (.inr (0, 0))), some (.inl 0)] [] s) (fun s1 => ev 91 21 [some (.inr (.inr (0, 0))), some (.inl (s1.1 11 0 8)), some (.inl (-9)), some (.inl 0), some (.inl 0), none] [] s1) := (ev_go [21, 50, 69] 68 91 0 [some (.inr (.inr (0, 0))), none, none, none, none, none] [] s).trans rfl
set_option maxRecDepth 20000 in
theorem q_91_at21 (l1 : Int32) (l2 : Int32) (l3 : Int32) (l4 : Int32) (s : SS) : ev 91 21 [some (.inr (.inr (0, 0))), some (.inl l1), some (.inl l2), some (.inl l3), some (.inl l4), none] [] s = (if l4 < 28 then (if ixB l4 28 = true then (if (s.1 9 0 l4.toNatClampNeg) = 1 then ev 91 50 [some (.inr (.inr (0, 0))), some (.inl l1), some (.inl l2), some (.inl l3), some (.inl l4), none] [] s else (if ixB l4 28 = true then (if (s.1 9 0 l4.toNatClampNeg) = 2 then ev 91 50 [some (.inr (.inr (0, 0))), some (.inl l1), some (.inl l2), some (.inl l3), some (.inl l4), none] [] s else ev 91 21 [some (.inr (.inr (0, 0))), some (.inl l1), some (.inl l2), some (.inl l3), some (.inl (l4 + 1)), none] [] s) else none)) else none) else (if l2 = (-9) then some (some (.inl l2), s) else some (some (.inl l2), (wI s 0 0 9 l3)))) := (ev_go [21, 50, 69] 68 91 21 [some (.inr (.inr (0, 0))), some (.inl l1), some (.inl l2), some (.inl l3), some (.inl l4), none] [] s).trans rfl
set_option maxRecDepth 20000 in
theorem q_91_at50 (l1 : Int32) (l2 : Int32) (l3 : Int32) (l4 : Int32) (s : SS) : ev 91 50 [some (.inr (.inr (0, 0))), some (.inl l1), some (.inl l2), some (.inl l3), some (.inl l4), none] [] s = (if ixB l4 28 = true then (if (s.1 9 0 l4.toNatClampNeg) = 1 then ev 91 69 [some (.inr (.inr (0, 0))), some (.inl l1), some (.inl l2), some (.inl l3), some (.inl l4), none] [(.inl 2), (.inl l4), (.inr (.inr (0, 0)))] s else ev 91 69 [some (.inr (.inr (0, 0))), some (.inl l1), some (.inl l2), some (.inl l3), some (.inl l4), none] [(.inl 1), (.inl l4), (.inr (.inr (0, 0)))] s) else none) := (ev_go [21, 50, 69] 68 91 50 [some (.inr (.inr (0, 0))), some (.inl l1), some (.inl l2), some (.inl l3), some (.inl l4), none] [] s).trans rfl
set_option maxRecDepth 20000 in
theorem q_91_at69 (l1 : Int32) (l2 : Int32) (l3 : Int32) (l4 : Int32) (t0 : Int32) (t1 : Int32) (s : SS) : ev 91 69 [some (.inr (.inr (0, 0))), some (.inl l1), some (.inl l2), some (.inl l3), some (.inl l4), none] [(.inl t0), (.inl t1), (.inr (.inr (0, 0)))] s = cV (ev 127 0 [some (.inr (.inr (0, 0))), some (.inl t1), some (.inl t0), none] [] s) (fun s1 => cI (ev 128 0 [some (.inl l1), some (.inl (s1.1 11 0 8))] [] s1) (fun x2 s2 => (if l3 < x2 then ev 91 21 [some (.inr (.inr (0, 0))), some (.inl l1), some (.inl l4), some (.inl x2), some (.inl (l4 + 1)), none] [] s2 else ev 91 21 [some (.inr (.inr (0, 0))), some (.inl l1), some (.inl l2), some (.inl l3), some (.inl (l4 + 1)), none] [] s2))) := (ev_go [21, 50, 69] 68 91 69 [some (.inr (.inr (0, 0))), some (.inl l1), some (.inl l2), some (.inl l3), some (.inl l4), none] [(.inl t0), (.inl t1), (.inr (.inr (0, 0)))] s).trans rfl
set_option maxRecDepth 20000 in
theorem q_92 (p0 : Int32) (p1 : Int32) (s : SS) : ev 92 0 [some (.inr (.inr (0, 0))), some (.inl p0), some (.inl p1), none, none, none, none] [] s = cI (ev 9 0 [some (.inr (.inr (1, 0))), some (.inl p0)] [] s) (fun x1 s1 => (if x1 = 0 then some (some (.inl (-1)), s1) else (if p1 < 0 then some (some (.inl (-1)), s1) else (if 10 < p1 then some (some (.inl (-1)), s1) else cI (ev 140 0 [some (.inr (.inr (0, 0))), some (.inl p0), none, none] [] s1) (fun x2 s2 => (if x2 = 0 then ev 92 48 [some (.inr (.inr (0, 0))), some (.inl p0), some (.inl p1), none, some (.inl 0), some (.inl 0), some (.inl 0)] [] s2 else cI (ev 100 0 [some (.inr (.inr (0, 0))), some (.inl x2)] [] s2) (fun x3 s3 => some (some (.inl x3), s3)))))))) := (ev_go [48] 66 92 0 [some (.inr (.inr (0, 0))), some (.inl p0), some (.inl p1), none, none, none, none] [] s).trans rfl
set_option maxRecDepth 20000 in
theorem q_92_at48 (l1 : Int32) (l2 : Int32) (l4 : Int32) (l5 : Int32) (l6 : Int32) (s : SS) : ev 92 48 [some (.inr (.inr (0, 0))), some (.inl l1), some (.inl l2), none, some (.inl l4), some (.inl l5), some (.inl l6)] [] s = cI (ev 11 0 [some (.inr (.inr (1, 0))), some (.inl l1)] [] s) (fun x1 s1 => (if (l6 + 1) < x1 then cI (ev 15 0 [some (.inr (.inr (1, 0))), some (.inl l1), some (.inl l6)] [] s1) (fun x2 s2 => (if x2 = l2 then cI (ev 15 0 [some (.inr (.inr (1, 0))), some (.inl l1), some (.inl (l6 + 1))] [] s2) (fun x3 s3 => ev 92 48 [some (.inr (.inr (0, 0))), some (.inl l1), some (.inl l2), none, some (.inl (l4 + x3)), some (.inl (l5 + 1)), some (.inl (l6 + 2))] [] s3) else ev 92 48 [some (.inr (.inr (0, 0))), some (.inl l1), some (.inl l2), none, some (.inl l4), some (.inl l5), some (.inl (l6 + 2))] [] s2)) else some (some (.inl l4), (wI s1 0 0 9 l5)))) := (ev_go [48] 66 92 48 [some (.inr (.inr (0, 0))), some (.inl l1), some (.inl l2), none, some (.inl l4), some (.inl l5), some (.inl l6)] [] s).trans rfl
set_option maxRecDepth 20000 in
theorem q_93  (s : SS) : ev 93 0 [some (.inr (.inr (0, 0)))] [] s = some (some (.inl (s.1 0 0 9)), s) := (ev_go [] 40 93 0 [some (.inr (.inr (0, 0)))] [] s).trans rfl
set_option maxRecDepth 20000 in
theorem q_94  (s : SS) : ev 94 0 [some (.inr (.inr (0, 0)))] [] s = some (some (.inr (.inl (s.2.1 0 0 10))), s) := (ev_go [] 40 94 0 [some (.inr (.inr (0, 0)))] [] s).trans rfl
set_option maxRecDepth 20000 in
theorem q_95  (s : SS) : ev 95 0 [some (.inr (.inr (0, 0)))] [] s = some (some (.inr (.inl (s.2.1 0 0 11))), s) := (ev_go [] 40 95 0 [some (.inr (.inr (0, 0)))] [] s).trans rfl
set_option maxRecDepth 20000 in
theorem q_96 (p0 : Int32) (s : SS) : ev 96 0 [some (.inr (.inr (0, 0))), some (.inl p0)] [] s = (if p0 = 0 then some (some (.inl (s.1 0 0 7)), s) else (if p0 = 1 then cI (ev 113 0 [some (.inr (.inr (0, 0))), some (.inl 3), some (.inl 3), none, none] [] s) (fun x6 s6 => some (some (.inl x6), s6)) else (if p0 = 2 then cI (ev 113 0 [some (.inr (.inr (0, 0))), some (.inl 1), some (.inl 2), none, none] [] s) (fun x5 s5 => some (some (.inl x5), s5)) else (if p0 = 3 then cI (ev 122 0 [some (.inr (.inr (0, 0))), some (.inl 0), none, none] [] s) (fun x4 s4 => some (some (.inl x4), s4)) else (if p0 = 4 then cI (ev 122 0 [some (.inr (.inr (0, 0))), some (.inl 1), none, none] [] s) (fun x3 s3 => some (some (.inl x3), s3)) else (if p0 = 5 then cI (ev 19 0 [some (.inr (.inr (1, 0))), none, none] [] s) (fun x2 s2 => some (some (.inl x2), s2)) else (if p0 = 6 then cI (ev 19 0 [some (.inr (.inr (2, 0))), none, none] [] s) (fun x1 s1 => some (some (.inl x1), s1)) else some (some (.inl (-1)), s)))))))) := (ev_go [] 40 96 0 [some (.inr (.inr (0, 0))), some (.inl p0)] [] s).trans rfl
set_option maxRecDepth 20000 in
theorem q_97  (s : SS) : ev 97 0 [some (.inr (.inr (0, 0)))] [] s = some (some (.inl (s.1 0 0 12)), s) := (ev_go [] 40 97 0 [some (.inr (.inr (0, 0)))] [] s).trans rfl
set_option maxRecDepth 20000 in
theorem q_98 (p0 : Int32) (s : SS) : ev 98 0 [some (.inr (.inr (0, 0))), some (.inl p0)] [] s = (if p0 < 1 then some (some (.inl (-1)), s) else (if 5 < p0 then some (some (.inl (-1)), s) else (if ixB p0 6 = true then some (some (.inl (s.1 12 0 p0.toNatClampNeg)), s) else none))) := (ev_go [] 40 98 0 [some (.inr (.inr (0, 0))), some (.inl p0)] [] s).trans rfl
set_option maxRecDepth 20000 in
theorem q_99  (s : SS) : ev 99 0 [some (.inr (.inr (0, 0))), none, none, none] [] s = ev 99 6 [some (.inr (.inr (0, 0))), some (.inr (.inl 17)), none, some (.inl 0)] [] s := (ev_go [6, 33, 61] 63 99 0 [some (.inr (.inr (0, 0))), none, none, none] [] s).trans rfl
set_option maxRecDepth 20000 in
theorem q_99_at6 (l1 : Int64) (l3 : Int32) (s : SS) : ev 99 6 [some (.inr (.inr (0, 0))), some (.inr (.inl l1)), none, some (.inl l3)] [] s = (if 6 < l3 then ev 99 33 [some (.inr (.inr (0, 0))), some (.inr (.inl l1)), none, some (.inl 0)] [] s else cI (ev 96 0 [some (.inr (.inr (0, 0))), some (.inl l3)] [] s) (fun x1 s1 => ev 99 6 [some (.inr (.inr (0, 0))), some (.inr (.inl ((31 * l1) + x1.toInt64))), none, some (.inl (l3 + 1))] [] s1)) := (ev_go [6, 33, 61] 63 99 6 [some (.inr (.inr (0, 0))), some (.inr (.inl l1)), none, some (.inl l3)] [] s).trans rfl
set_option maxRecDepth 20000 in
theorem q_99_at33 (l1 : Int64) (l3 : Int32) (s : SS) : ev 99 33 [some (.inr (.inr (0, 0))), some (.inr (.inl l1)), none, some (.inl l3)] [] s = (if l3 < 28 then (if ixB l3 28 = true then ev 99 33 [some (.inr (.inr (0, 0))), some (.inr (.inl ((31 * l1) + ((s.1 9 0 l3.toNatClampNeg).toInt64)))), none, some (.inl (l3 + 1))] [] s else none) else ev 99 61 [some (.inr (.inr (0, 0))), some (.inr (.inl l1)), none, some (.inl 0)] [] s) := (ev_go [6, 33, 61] 63 99 33 [some (.inr (.inr (0, 0))), some (.inr (.inl l1)), none, some (.inl l3)] [] s).trans rfl
set_option maxRecDepth 20000 in
theorem q_99_at61 (l1 : Int64) (l3 : Int32) (s : SS) : ev 99 61 [some (.inr (.inr (0, 0))), some (.inr (.inl l1)), none, some (.inl l3)] [] s = (if l3 < 8 then (if ixB l3 8 = true then cL (ev 123 0 [some (.inr (.inr (0, 0))), some (.inr (.inl l1)), none, some (.inr (.inr (13, s.2.2 l3.toNatClampNeg))), none, none, none] [] s) (fun x1 s1 => ev 99 61 [some (.inr (.inr (0, 0))), some (.inr (.inl x1)), none, some (.inl (l3 + 1))] [] s1) else none) else cL (ev 20 0 [some (.inr (.inr (1, 0))), some (.inr (.inl l1)), none, none, none, none, none] [] s) (fun x2 s2 => cL (ev 20 0 [some (.inr (.inr (2, 0))), some (.inr (.inl x2)), none, none, none, none, none] [] s2) (fun x3 s3 => some (some (.inr (.inl x3)), s3)))) := (ev_go [6, 33, 61] 63 99 61 [some (.inr (.inr (0, 0))), some (.inr (.inl l1)), none, some (.inl l3)] [] s).trans rfl
end
section
set_option maxRecDepth 20000 in
theorem q_100 (p0 : Int32) (s : SS) : ev 100 0 [some (.inr (.inr (0, 0))), some (.inl p0)] [] s = (if p0 < 1 then some (some (.inl (-3)), s) else (if 5 < p0 then some (some (.inl (-3)), s) else (if ixB p0 6 = true then (if ixB p0 6 = true then some (some (.inl (-3)), (wI (wI s 0 0 12 p0) 12 0 p0.toNatClampNeg (((wI s 0 0 12 p0).1 12 0 p0.toNatClampNeg) + 1))) else none) else none))) := (ev_go [] 40 100 0 [some (.inr (.inr (0, 0))), some (.inl p0)] [] s).trans rfl
set_option maxRecDepth 20000 in
theorem q_101_1 (p1 : Int32) (p2 : Int32) (p3 : Int32) (s : SS) : ev 101 0 [some (.inr (.inr (0, 0))), some (.inr (.inr (1, 0))), some (.inl p1), some (.inl p2), some (.inl p3)] [] s = cI (ev 9 0 [some (.inr (.inr (1, 0))), some (.inl p1)] [] s) (fun x1 s1 => (if x1 = 0 then some (some (.inl (-1)), s1) else (if 40 < p2 then some (some (.inl (-1)), s1) else (if p2 < 0 then cI (ev 100 0 [some (.inr (.inr (0, 0))), some (.inl 5)] [] s1) (fun x2 s2 => some (some (.inl x2), s2)) else cV (ev 13 0 [some (.inr (.inr (1, 0))), some (.inl p1), some (.inl p2), some (.inl p3)] [] s1) (fun s3 => some (some (.inl p2), s3)))))) := (ev_go [] 40 101 0 [some (.inr (.inr (0, 0))), some (.inr (.inr (1, 0))), some (.inl p1), some (.inl p2), some (.inl p3)] [] s).trans rfl
set_option maxRecDepth 20000 in
theorem q_101_2 (p1 : Int32) (p2 : Int32) (p3 : Int32) (s : SS) : ev 101 0 [some (.inr (.inr (0, 0))), some (.inr (.inr (2, 0))), some (.inl p1), some (.inl p2), some (.inl p3)] [] s = cI (ev 9 0 [some (.inr (.inr (2, 0))), some (.inl p1)] [] s) (fun x1 s1 => (if x1 = 0 then some (some (.inl (-1)), s1) else (if 40 < p2 then some (some (.inl (-1)), s1) else (if p2 < 0 then cI (ev 100 0 [some (.inr (.inr (0, 0))), some (.inl 5)] [] s1) (fun x2 s2 => some (some (.inl x2), s2)) else cV (ev 13 0 [some (.inr (.inr (2, 0))), some (.inl p1), some (.inl p2), some (.inl p3)] [] s1) (fun s3 => some (some (.inl p2), s3)))))) := (ev_go [] 40 101 0 [some (.inr (.inr (0, 0))), some (.inr (.inr (2, 0))), some (.inl p1), some (.inl p2), some (.inl p3)] [] s).trans rfl
set_option maxRecDepth 20000 in
theorem q_102_1 (p1 : Int32) (p2 : Int32) (s : SS) : ev 102 0 [some (.inr (.inr (0, 0))), some (.inr (.inr (1, 0))), some (.inl p1), some (.inl p2)] [] s = cI (ev 9 0 [some (.inr (.inr (1, 0))), some (.inl p1)] [] s) (fun x1 s1 => (if x1 = 0 then some (some (.inl (-1)), s1) else cI (ev 10 0 [some (.inr (.inr (1, 0))), some (.inl p1)] [] s1) (fun x2 s2 => (if x2 = 0 then cI (ev 100 0 [some (.inr (.inr (0, 0))), some (.inl 1)] [] s2) (fun x3 s3 => some (some (.inl x3), s3)) else cI (ev 12 0 [some (.inr (.inr (1, 0))), some (.inl p1), some (.inl p2), some (.inl 1)] [] s2) (fun x4 s4 => (if x4 = 0 then cI (ev 100 0 [some (.inr (.inr (0, 0))), some (.inl 2)] [] s4) (fun x5 s5 => some (some (.inl x5), s5)) else some (some (.inl 0), s4))))))) := (ev_go [] 40 102 0 [some (.inr (.inr (0, 0))), some (.inr (.inr (1, 0))), some (.inl p1), some (.inl p2)] [] s).trans rfl
set_option maxRecDepth 20000 in
theorem q_102_2 (p1 : Int32) (p2 : Int32) (s : SS) : ev 102 0 [some (.inr (.inr (0, 0))), some (.inr (.inr (2, 0))), some (.inl p1), some (.inl p2)] [] s = cI (ev 9 0 [some (.inr (.inr (2, 0))), some (.inl p1)] [] s) (fun x1 s1 => (if x1 = 0 then some (some (.inl (-1)), s1) else cI (ev 10 0 [some (.inr (.inr (2, 0))), some (.inl p1)] [] s1) (fun x2 s2 => (if x2 = 0 then cI (ev 100 0 [some (.inr (.inr (0, 0))), some (.inl 1)] [] s2) (fun x3 s3 => some (some (.inl x3), s3)) else cI (ev 12 0 [some (.inr (.inr (2, 0))), some (.inl p1), some (.inl p2), some (.inl 1)] [] s2) (fun x4 s4 => (if x4 = 0 then cI (ev 100 0 [some (.inr (.inr (0, 0))), some (.inl 2)] [] s4) (fun x5 s5 => some (some (.inl x5), s5)) else some (some (.inl 0), s4))))))) := (ev_go [] 40 102 0 [some (.inr (.inr (0, 0))), some (.inr (.inr (2, 0))), some (.inl p1), some (.inl p2)] [] s).trans rfl
set_option maxRecDepth 20000 in
theorem q_103 (p0 : Int64) (p1 : Int64) (s : SS) : ev 103 0 [some (.inr (.inr (0, 0))), some (.inr (.inl p0)), none, some (.inr (.inl p1)), none] [] s = (if 0 < (lg_cmp p1 0) then cV (ev 104 0 [some (.inr (.inr (0, 0))), some (.inr (.inl p0)), none, some (.inr (.inl p1)), none, none, none] [] s) (fun s1 => some (some (.inl 1), s1)) else cI (ev 100 0 [some (.inr (.inr (0, 0))), some (.inl 4)] [] s) (fun x2 s2 => some (some (.inl x2), s2))) := (ev_go [] 40 103 0 [some (.inr (.inr (0, 0))), some (.inr (.inl p0)), none, some (.inr (.inl p1)), none] [] s).trans rfl
set_option maxRecDepth 20000 in
theorem q_104 (p0 : Int64) (p1 : Int64) (s : SS) : ev 104 0 [some (.inr (.inr (0, 0))), some (.inr (.inl p0)), none, some (.inr (.inl p1)), none, none, none] [] s = cL (ev 105 0 [some (.inr (.inl (if 0 < p0 then p0 else -p0))), none, some (.inr (.inl p1)), none, none, none, none, none, none, none, none] [] s) (fun x1 s1 => (if 0 < (lg_cmp x1 0) then (if (x1 : Int64) = 0 then none else (if (x1 : Int64) = 0 then none else some (none, (wL (wL s1 0 0 10 (p0 / x1)) 0 0 11 (p1 / x1))))) else some (none, s1))) := (ev_go [] 40 104 0 [some (.inr (.inr (0, 0))), some (.inr (.inl p0)), none, some (.inr (.inl p1)), none, none, none] [] s).trans rfl
set_option maxRecDepth 20000 in
theorem q_105 (p0 : Int64) (p1 : Int64) (s : SS) : ev 105 0 [some (.inr (.inl p0)), none, some (.inr (.inl p1)), none, none, none, none, none, none, none, none] [] s = ev 105 9 [none, none, none, none, some (.inr (.inl p0)), none, some (.inr (.inl p1)), none, some (.inl 0), none, none] [] s := (ev_go [9] 40 105 0 [some (.inr (.inl p0)), none, some (.inr (.inl p1)), none, none, none, none, none, none, none, none] [] s).trans rfl
set_option maxRecDepth 20000 in
theorem q_105_at9 (l4 : Int64) (l6 : Int64) (l8 : Int32) (s : SS) : ev 105 9 [none, none, none, none, some (.inr (.inl l4)), none, some (.inr (.inl l6)), none, some (.inl l8), none, none] [] s = (if l8 < 200 then (if (lg_cmp l6 0) = 0 then some (some (.inr (.inl l4)), s) else (if (l6 : Int64) = 0 then none else ev 105 9 [none, none, none, none, some (.inr (.inl l6)), none, some (.inr (.inl (l4 - l4 / l6 * l6))), none, some (.inl (l8 + 1)), none, none] [] s)) else some (some (.inr (.inl l4)), s)) := (ev_go [9] 40 105 9 [none, none, none, none, some (.inr (.inl l4)), none, some (.inr (.inl l6)), none, some (.inl l8), none, none] [] s).trans rfl
set_option maxRecDepth 20000 in
theorem q_106 (p0 : Int32) (s : SS) : ev 106 0 [some (.inl p0)] [] s = (if p0 < 0 then some (some (.inl 0), s) else (if p0 < 28 then some (some (.inl 1), s) else some (some (.inl 0), s))) := (ev_go [] 40 106 0 [some (.inl p0)] [] s).trans rfl
set_option maxRecDepth 20000 in
theorem q_107 (p0 : Int32) (s : SS) : ev 107 0 [some (.inl p0)] [] s = (if p0 < 0 then some (some (.inl 0), s) else (if 3 < p0 then some (some (.inl 0), s) else some (some (.inl 1), s))) := (ev_go [] 40 107 0 [some (.inl p0)] [] s).trans rfl
set_option maxRecDepth 20000 in
theorem q_108 (p0 : Int32) (s : SS) : ev 108 0 [some (.inr (.inr (0, 0))), some (.inl p0)] [] s = (if p0 < 0 then some (some (.inl 0), s) else (if p0 < (s.1 0 0 7) then some (some (.inl 1), s) else some (some (.inl 0), s))) := (ev_go [] 40 108 0 [some (.inr (.inr (0, 0))), some (.inl p0)] [] s).trans rfl
set_option maxRecDepth 20000 in
theorem q_109 (p0 : Int32) (p1 : Int32) (s : SS) : ev 109 0 [some (.inl p0), some (.inl p1), none] [] s = (if (4 : Int32) = 0 then none else (if (p0 - p0 / 4 * 4) < p1 then ev 109 12 [some (.inl p0), some (.inl p1), none] [(.inl 1)] s else ev 109 12 [some (.inl p0), some (.inl p1), none] [(.inl 0)] s)) := (ev_go [12] 40 109 0 [some (.inl p0), some (.inl p1), none] [] s).trans rfl
set_option maxRecDepth 20000 in
theorem q_109_at12 (l0 : Int32) (l1 : Int32) (t0 : Int32) (s : SS) : ev 109 12 [some (.inl l0), some (.inl l1), none] [(.inl t0)] s = (if l0 < 12 then (bif isZ t0 then some (some (.inl t0), s) else none) else (if t0 = 0 then some (some (.inl 0), s) else (if (4 : Int32) = 0 then none else (if ((l0 - 12) / 4) < l1 then some (some (.inl 1), s) else some (some (.inl 0), s))))) := (ev_go [12] 40 109 12 [some (.inl l0), some (.inl l1), none] [(.inl t0)] s).trans rfl
set_option maxRecDepth 20000 in
theorem q_110 (p0 : Int32) (p1 : Int32) (p2 : Int32) (s : SS) : ev 110 0 [some (.inl p0), some (.inl p1), some (.inl p2), none, none, none] [] s = (if (4 : Int32) = 0 then none else cI (ev 111 0 [some (.inl (p0 - p0 / 4 * 4)), some (.inl p1), some (.inl p2)] [] s) (fun x1 s1 => (if p0 < 12 then some (some (.inl ((p0 - (p0 - p0 / 4 * 4)) + x1)), s1) else (if (4 : Int32) = 0 then none else cI (ev 111 0 [some (.inl ((p0 - 12) / 4)), some (.inl p1), some (.inl p2)] [] s1) (fun x2 s2 => some (some (.inl (((p0 - (p0 - p0 / 4 * 4)) + x1) + (4 * (x2 - ((p0 - 12) / 4))))), s2)))))) := (ev_go [] 40 110 0 [some (.inl p0), some (.inl p1), some (.inl p2), none, none, none] [] s).trans rfl
set_option maxRecDepth 20000 in
theorem q_111 (p0 : Int32) (p1 : Int32) (p2 : Int32) (s : SS) : ev 111 0 [some (.inl p0), some (.inl p1), some (.inl p2)] [] s = (if p0 = p1 then some (some (.inl p2), s) else (if p0 = p2 then some (some (.inl p1), s) else some (some (.inl p0), s))) := (ev_go [] 40 111 0 [some (.inl p0), some (.inl p1), some (.inl p2)] [] s).trans rfl
set_option maxRecDepth 20000 in
theorem q_112 (p0 : Int32) (p1 : Int32) (s : SS) : ev 112 0 [some (.inr (.inr (0, 0))), some (.inl p0), some (.inl p1)] [] s = (if p1 = 3 then (if ixB p0 28 = true then (if (s.1 9 0 p0.toNatClampNeg) = 3 then some (some (.inl 0), s) else cI (ev 113 0 [some (.inr (.inr (0, 0))), some (.inl 3), some (.inl 3), none, none] [] s) (fun x1 s1 => (if x1 < 10 then some (some (.inl 0), s1) else some (some (.inl 1), s1)))) else none) else some (some (.inl 0), s)) := (ev_go [] 40 112 0 [some (.inr (.inr (0, 0))), some (.inl p0), some (.inl p1)] [] s).trans rfl
set_option maxRecDepth 20000 in
theorem q_113 (p0 : Int32) (p1 : Int32) (s : SS) : ev 113 0 [some (.inr (.inr (0, 0))), some (.inl p0), some (.inl p1), none, none] [] s = ev 113 5 [some (.inr (.inr (0, 0))), some (.inl p0), some (.inl p1), some (.inl 0), some (.inl 0)] [] s := (ev_go [5] 40 113 0 [some (.inr (.inr (0, 0))), some (.inl p0), some (.inl p1), none, none] [] s).trans rfl
set_option maxRecDepth 20000 in
theorem q_113_at5 (l1 : Int32) (l2 : Int32) (l3 : Int32) (l4 : Int32) (s : SS) : ev 113 5 [some (.inr (.inr (0, 0))), some (.inl l1), some (.inl l2), some (.inl l3), some (.inl l4)] [] s = (if l4 < 28 then (if ixB l4 28 = true then (if (s.1 9 0 l4.toNatClampNeg) < l1 then ev 113 5 [some (.inr (.inr (0, 0))), some (.inl l1), some (.inl l2), some (.inl l3), some (.inl (l4 + 1))] [] s else (if ixB l4 28 = true then (if l2 < (s.1 9 0 l4.toNatClampNeg) then ev 113 5 [some (.inr (.inr (0, 0))), some (.inl l1), some (.inl l2), some (.inl l3), some (.inl (l4 + 1))] [] s else ev 113 5 [some (.inr (.inr (0, 0))), some (.inl l1), some (.inl l2), some (.inl (l3 + 1)), some (.inl (l4 + 1))] [] s) else none)) else none) else some (some (.inl l3), s)) := (ev_go [5] 40 113 5 [some (.inr (.inr (0, 0))), some (.inl l1), some (.inl l2), some (.inl l3), some (.inl l4)] [] s).trans rfl
set_option maxRecDepth 20000 in
theorem q_114 (p0 : Int32) (s : SS) : ev 114 0 [some (.inl p0)] [] s = (if p0 < 0 then some (some (.inl 0), s) else (if p0 < 8 then some (some (.inl 1), s) else some (some (.inl 0), s))) := (ev_go [] 40 114 0 [some (.inl p0)] [] s).trans rfl
set_option maxRecDepth 20000 in
theorem q_115 (p0 : Int32) (s : SS) : ev 115 0 [some (.inl p0)] [] s = (if p0 < 0 then some (some (.inl 0), s) else (if 4 < p0 then some (some (.inl 0), s) else some (some (.inl 1), s))) := (ev_go [] 40 115 0 [some (.inl p0)] [] s).trans rfl
set_option maxRecDepth 20000 in
theorem q_116 (p0 : Int32) (s : SS) : ev 116 0 [some (.inl p0)] [] s = (if p0 < 0 then some (some (.inl 0), s) else (if 9 < p0 then some (some (.inl 0), s) else some (some (.inl 1), s))) := (ev_go [] 40 116 0 [some (.inl p0)] [] s).trans rfl
set_option maxRecDepth 20000 in
theorem q_117 (p0 : Int32) (s : SS) : ev 117 0 [some (.inl p0)] [] s = (if p0 = 1 then some (some (.inl 1), s) else (if p0 = 4 then some (some (.inl 1), s) else some (some (.inl 0), s))) := (ev_go [] 40 117 0 [some (.inl p0)] [] s).trans rfl
set_option maxRecDepth 20000 in
theorem q_118 (p0 : Int32) (s : SS) : ev 118 0 [some (.inl p0)] [] s = (if p0 = 2 then some (some (.inl 1), s) else (if p0 = 3 then some (some (.inl 1), s) else some (some (.inl 0), s))) := (ev_go [] 40 118 0 [some (.inl p0)] [] s).trans rfl
set_option maxRecDepth 20000 in
theorem q_119 (j : Nat) (p1 : Int32) (s : SS) : ev 119 0 [some (.inr (.inr (13, j))), some (.inl p1)] [] s = (if p1 = 1 then cI (ev 117 0 [some (.inl (s.1 13 j 1))] [] s) (fun x2 s2 => (bif isZ x2 then some (some (.inl x2), s2) else none)) else (if p1 = 2 then cI (ev 118 0 [some (.inl (s.1 13 j 1))] [] s) (fun x1 s1 => (bif isZ x1 then some (some (.inl x1), s1) else none)) else (if (s.1 13 j 1) = p1 then some (some (.inl 1), s) else some (some (.inl 0), s)))) := (ev_go [] 40 119 0 [some (.inr (.inr (13, j))), some (.inl p1)] [] s).trans rfl
set_option maxRecDepth 20000 in
theorem q_120 (j : Nat) (p1 : Int32) (s : SS) : ev 120 0 [some (.inr (.inr (13, j))), some (.inl p1)] [] s = (if p1 = 1 then cI (ev 35 0 [some (.inr (.inr (13, j))), none, none] [] s) (fun x2 s2 => some (some (.inl x2), s2)) else (if p1 = 2 then some (some (.inl (s.1 13 j 2)), s) else (if p1 = 3 then some (some (.inl (s.1 13 j 3)), s) else (if p1 = 4 then cI (ev 36 0 [some (.inr (.inr (13, j))), some (.inl 0), some (.inl 0), some (.inl 0), none] [] s) (fun x1 s1 => some (some (.inl x1), s1)) else some (some (.inl 0), s))))) := (ev_go [] 40 120 0 [some (.inr (.inr (13, j))), some (.inl p1)] [] s).trans rfl
set_option maxRecDepth 20000 in
theorem q_121 (j : Nat) (p1 : Int32) (s : SS) : ev 121 0 [some (.inr (.inr (0, 0))), some (.inr (.inr (13, j))), some (.inl p1)] [] s = (if p1 = 0 then some (some (.inl (s.1 13 j 1)), s) else (if p1 = 1 then some (some (.inl (s.1 13 j 4)), s) else cI (ev 33 0 [some (.inr (.inr (13, j))), some (.inl (s.1 0 0 7))] [] s) (fun x1 s1 => some (some (.inl x1), s1)))) := (ev_go [] 40 121 0 [some (.inr (.inr (0, 0))), some (.inr (.inr (13, j))), some (.inl p1)] [] s).trans rfl
set_option maxRecDepth 20000 in
theorem q_122 (p0 : Int32) (s : SS) : ev 122 0 [some (.inr (.inr (0, 0))), some (.inl p0), none, none] [] s = ev 122 4 [some (.inr (.inr (0, 0))), some (.inl p0), some (.inl 0), some (.inl 0)] [] s := (ev_go [4] 40 122 0 [some (.inr (.inr (0, 0))), some (.inl p0), none, none] [] s).trans rfl
set_option maxRecDepth 20000 in
theorem q_122_at4 (l1 : Int32) (l2 : Int32) (l3 : Int32) (s : SS) : ev 122 4 [some (.inr (.inr (0, 0))), some (.inl l1), some (.inl l2), some (.inl l3)] [] s = (if l3 < 8 then (if ixB l3 8 = true then (if (s.1 13 (s.2.2 l3.toNatClampNeg) 0) = 0 then ev 122 4 [some (.inr (.inr (0, 0))), some (.inl l1), some (.inl l2), some (.inl (l3 + 1))] [] s else (if l1 = 0 then ev 122 4 [some (.inr (.inr (0, 0))), some (.inl l1), some (.inl (l2 + 1)), some (.inl (l3 + 1))] [] s else (if ixB l3 8 = true then cI (ev 117 0 [some (.inl (s.1 13 (s.2.2 l3.toNatClampNeg) 1))] [] s) (fun x1 s1 => (if x1 = 0 then ev 122 4 [some (.inr (.inr (0, 0))), some (.inl l1), some (.inl l2), some (.inl (l3 + 1))] [] s1 else ev 122 4 [some (.inr (.inr (0, 0))), some (.inl l1), some (.inl (l2 + 1)), some (.inl (l3 + 1))] [] s1)) else none))) else none) else some (some (.inl l2), s)) := (ev_go [4] 40 122 4 [some (.inr (.inr (0, 0))), some (.inl l1), some (.inl l2), some (.inl l3)] [] s).trans rfl
set_option maxRecDepth 20000 in
theorem q_123 (p0 : Int64) (j : Nat) (s : SS) : ev 123 0 [some (.inr (.inr (0, 0))), some (.inr (.inl p0)), none, some (.inr (.inr (13, j))), none, none, none] [] s = (if (s.1 13 j 0) = 0 then some (some (.inr (.inl ((31 * p0) - 1))), s) else ev 123 21 [some (.inr (.inr (0, 0))), none, none, some (.inr (.inr (13, j))), some (.inr (.inl p0)), none, some (.inl 0)] [] s) := (ev_go [21] 43 123 0 [some (.inr (.inr (0, 0))), some (.inr (.inl p0)), none, some (.inr (.inr (13, j))), none, none, none] [] s).trans rfl
set_option maxRecDepth 20000 in
theorem q_123_at21 (j : Nat) (l4 : Int64) (l6 : Int32) (s : SS) : ev 123 21 [some (.inr (.inr (0, 0))), none, none, some (.inr (.inr (13, j))), some (.inr (.inl l4)), none, some (.inl l6)] [] s = (if 2 < l6 then cI (ev 120 0 [some (.inr (.inr (13, j))), some (.inl (s.1 13 j 1))] [] s) (fun x1 s1 => some (some (.inr (.inl ((31 * l4) + x1.toInt64))), s1)) else cI (ev 121 0 [some (.inr (.inr (0, 0))), some (.inr (.inr (13, j))), some (.inl l6)] [] s) (fun x2 s2 => ev 123 21 [some (.inr (.inr (0, 0))), none, none, some (.inr (.inr (13, j))), some (.inr (.inl ((31 * l4) + x2.toInt64))), none, some (.inl (l6 + 1))] [] s2)) := (ev_go [21] 43 123 21 [some (.inr (.inr (0, 0))), none, none, some (.inr (.inr (13, j))), some (.inr (.inl l4)), none, some (.inl l6)] [] s).trans rfl
set_option maxRecDepth 20000 in
theorem q_124 (p0 : Int32) (s : SS) : ev 124 0 [some (.inr (.inr (0, 0))), some (.inl p0), none] [] s = ev 124 2 [some (.inr (.inr (0, 0))), some (.inl p0), some (.inl 0)] [] s := (ev_go [2] 40 124 0 [some (.inr (.inr (0, 0))), some (.inl p0), none] [] s).trans rfl
set_option maxRecDepth 20000 in
theorem q_124_at2 (l1 : Int32) (l2 : Int32) (s : SS) : ev 124 2 [some (.inr (.inr (0, 0))), some (.inl l1), some (.inl l2)] [] s = (if l2 < 8 then (if ((l1 >>> (l2 &&& 31)) &&& 1) = 0 then ev 124 2 [some (.inr (.inr (0, 0))), some (.inl l1), some (.inl (l2 + 1))] [] s else (if ixB l2 8 = true then (if (s.1 13 (s.2.2 l2.toNatClampNeg) 0) = 0 then some (some (.inl 0), s) else ev 124 2 [some (.inr (.inr (0, 0))), some (.inl l1), some (.inl (l2 + 1))] [] s) else none)) else some (some (.inl 1), s)) := (ev_go [2] 40 124 2 [some (.inr (.inr (0, 0))), some (.inl l1), some (.inl l2)] [] s).trans rfl
set_option maxRecDepth 20000 in
theorem q_125 (p0 : Int32) (s : SS) : ev 125 0 [some (.inr (.inr (0, 0))), some (.inl p0)] [] s = (if p0 < 0 then some (some (.inl 0), s) else cI (ev 113 0 [some (.inr (.inr (0, 0))), some (.inl 3), some (.inl 3), none, none] [] s) (fun x1 s1 => (if p0 < ((1 : Int32) <<< (x1 &&& 31)) then some (some (.inl 1), s1) else some (some (.inl 0), s1)))) := (ev_go [] 40 125 0 [some (.inr (.inr (0, 0))), some (.inl p0)] [] s).trans rfl
set_option maxRecDepth 20000 in
theorem q_126 (p0 : Int32) (s : SS) : ev 126 0 [some (.inr (.inr (0, 0))), some (.inl p0)] [] s = (if (s.1 0 0 8) = 0 then cV (ev 45 0 [some (.inr (.inr (11, 0))), some (.inr (.inr (10, 0))), some (.inl p0), none, none, none, none] [] s) (fun s1 => some (none, s1)) else cV (ev 39 0 [some (.inr (.inr (11, 0))), some (.inr (.inr (9, 0))), some (.inl (s.1 0 0 7)), some (.inr (.inr (10, 0))), none] [] s) (fun s2 => cV (ev 45 0 [some (.inr (.inr (11, 0))), some (.inr (.inr (10, 0))), some (.inl p0), none, none, none, none] [] (wI s2 0 0 8 0)) (fun s3 => some (none, s3)))) := (ev_go [] 40 126 0 [some (.inr (.inr (0, 0))), some (.inl p0)] [] s).trans rfl
set_option maxRecDepth 20000 in
theorem q_127 (p0 : Int32) (p1 : Int32) (s : SS) : ev 127 0 [some (.inr (.inr (0, 0))), some (.inl p0), some (.inl p1), none] [] s = (if ixB p0 28 = true then (if ixB p0 28 = true then cV (ev 126 0 [some (.inr (.inr (0, 0))), some (.inl 0)] [] (wI (wI s 9 0 p0.toNatClampNeg p1) 0 0 8 1)) (fun s1 => (if ixB p0 28 = true then some (none, (wI (wI s1 9 0 p0.toNatClampNeg (s.1 9 0 p0.toNatClampNeg)) 0 0 8 1)) else none)) else none) else none) := (ev_go [] 40 127 0 [some (.inr (.inr (0, 0))), some (.inl p0), some (.inl p1), none] [] s).trans rfl
set_option maxRecDepth 20000 in
theorem q_128 (p0 : Int32) (p1 : Int32) (s : SS) : ev 128 0 [some (.inl p0), some (.inl p1)] [] s = (if p0 = 1000000 then (if p1 = 1000000 then some (some (.inl (p0 - p1)), s) else some (some (.inl 1000), s)) else some (some (.inl (p0 - p1)), s)) := (ev_go [] 40 128 0 [some (.inl p0), some (.inl p1)] [] s).trans rfl
set_option maxRecDepth 20000 in
theorem q_129 (p0 : Int32) (p1 : Int32) (s : SS) : ev 129 0 [some (.inr (.inr (0, 0))), some (.inl p0), some (.inl p1)] [] s = cV (ev 126 0 [some (.inr (.inr (0, 0))), some (.inl p0)] [] s) (fun s1 => cL (ev 56 0 [some (.inr (.inr (11, 0))), some (.inl ((1 : Int32) <<< (p1 &&& 31))), none, none, none] [] s1) (fun x2 s2 => (if 0 < (lg_cmp (2 * x2) (s2.2.1 11 0 9)) then some (some (.inl 0), s2) else some (some (.inl 1), s2)))) := (ev_go [] 40 129 0 [some (.inr (.inr (0, 0))), some (.inl p0), some (.inl p1)] [] s).trans rfl
set_option maxRecDepth 20000 in
theorem q_130 (p0 : Int32) (s : SS) : ev 130 0 [some (.inl p0)] [] s = some (some (.inl ((p0 * 1103515245) + 12345)), s) := (ev_go [] 40 130 0 [some (.inl p0)] [] s).trans rfl
set_option maxRecDepth 20000 in
theorem q_131 (p0 : Int32) (s : SS) : ev 131 0 [some (.inl p0)] [] s = some (some (.inl (((p0.toUInt32 >>> ((16 : Int32).toUInt32 &&& Int32.toUInt32 31)).toInt32) &&& 32767)), s) := (ev_go [] 40 131 0 [some (.inl p0)] [] s).trans rfl
set_option maxRecDepth 20000 in
theorem q_132 (p0 : Int32) (s : SS) : ev 132 0 [some (.inr (.inr (0, 0))), some (.inl p0), none] [] s = cI (ev 124 0 [some (.inr (.inr (0, 0))), some (.inl p0), none] [] s) (fun x1 s1 => (if x1 = 0 then some (some (.inl 1), s1) else ev 132 12 [some (.inr (.inr (0, 0))), some (.inl p0), some (.inl 0)] [] s1)) := (ev_go [12] 40 132 0 [some (.inr (.inr (0, 0))), some (.inl p0), none] [] s).trans rfl
set_option maxRecDepth 20000 in
theorem q_132_at12 (l1 : Int32) (l2 : Int32) (s : SS) : ev 132 12 [some (.inr (.inr (0, 0))), some (.inl l1), some (.inl l2)] [] s = (if l2 < 8 then (if ((l1 >>> (l2 &&& 31)) &&& 1) = 0 then ev 132 12 [some (.inr (.inr (0, 0))), some (.inl l1), some (.inl (l2 + 1))] [] s else (if ixB l2 8 = true then cI (ev 118 0 [some (.inl (s.1 13 (s.2.2 l2.toNatClampNeg) 1))] [] s) (fun x1 s1 => (if x1 = 0 then some (some (.inl 3), s1) else ev 132 12 [some (.inr (.inr (0, 0))), some (.inl l1), some (.inl (l2 + 1))] [] s1)) else none)) else some (some (.inl 0), s)) := (ev_go [12] 40 132 12 [some (.inr (.inr (0, 0))), some (.inl l1), some (.inl l2)] [] s).trans rfl
set_option maxRecDepth 20000 in
theorem q_133 (p0 : Int32) (p1 : Int32) (p2 : Int32) (s : SS) : ev 133 0 [some (.inr (.inr (0, 0))), some (.inl p0), some (.inl p1), some (.inl p2), none, none, none, none, none, none, none, none] [] s = cI (ev 1 0 [some (.inl p1)] [] s) (fun x1 s1 => ev 133 22 [some (.inr (.inr (0, 0))), some (.inl p0), some (.inl p1), some (.inl p2), some (.inl 0), some (.inl 0), some (.inr (.inl 0)), none, some (.inl ((1 : Int32) <<< ((2 * x1) &&& 31))), some (.inl 0), none, none] [] s1) := (ev_go [22, 71, 96] 78 133 0 [some (.inr (.inr (0, 0))), some (.inl p0), some (.inl p1), some (.inl p2), none, none, none, none, none, none, none, none] [] s).trans rfl
set_option maxRecDepth 20000 in
theorem q_133_at22 (l1 : Int32) (l2 : Int32) (l3 : Int32) (l4 : Int32) (l5 : Int32) (l6 : Int64) (l8 : Int32) (l9 : Int32) (s : SS) : ev 133 22 [some (.inr (.inr (0, 0))), some (.inl l1), some (.inl l2), some (.inl l3), some (.inl l4), some (.inl l5), some (.inr (.inl l6)), none, some (.inl l8), some (.inl l9), none, none] [] s = (if l9 < l8 then cV (ev 135 0 [some (.inr (.inr (0, 0))), some (.inl l2), some (.inl l9), none, none] [] s) (fun s1 => cV (ev 126 0 [some (.inr (.inr (0, 0))), some (.inl 0)] [] s1) (fun s2 => cI (ev 54 0 [some (.inr (.inr (11, 0))), some (.inl l1), none] [] s2) (fun x3 s3 => (if x3 = (-1000) then ev 133 71 [some (.inr (.inr (0, 0))), some (.inl l1), some (.inl l2), some (.inl l3), some (.inl l4), some (.inl l5), some (.inr (.inl l6)), none, some (.inl l8), some (.inl l9), some (.inl x3), none] [] s3 else cI (ev 136 0 [some (.inl l9)] [] s3) (fun x4 s4 => ev 133 71 [some (.inr (.inr (0, 0))), some (.inl l1), some (.inl l2), some (.inl l3), some (.inl l4), some (.inl l5), some (.inr (.inl l6)), none, some (.inl l8), some (.inl l9), some (.inl (x3 - (l3 * x4))), none] [] s4))))) else some (some (.inl l4), s)) := (ev_go [22, 71, 96] 78 133 22 [some (.inr (.inr (0, 0))), some (.inl l1), some (.inl l2), some (.inl l3), some (.inl l4), some (.inl l5), some (.inr (.inl l6)), none, some (.inl l8), some (.inl l9), none, none] [] s).trans rfl
set_option maxRecDepth 20000 in
theorem q_133_at71 (l1 : Int32) (l2 : Int32) (l3 : Int32) (l4 : Int32) (l5 : Int32) (l6 : Int64) (l8 : Int32) (l9 : Int32) (l10 : Int32) (s : SS) : ev 133 71 [some (.inr (.inr (0, 0))), some (.inl l1), some (.inl l2), some (.inl l3), some (.inl l4), some (.inl l5), some (.inr (.inl l6)), none, some (.inl l8), some (.inl l9), some (.inl l10), none] [] s = (if l9 = 0 then ev 133 96 [some (.inr (.inr (0, 0))), some (.inl l1), some (.inl l2), some (.inl l3), some (.inl l4), some (.inl l5), some (.inr (.inl l6)), none, some (.inl l8), some (.inl l9), some (.inl l10), none] [(.inl 1)] s else cI (ev 134 0 [some (.inl l10), some (.inr (.inl (s.2.1 11 0 9))), none, some (.inl l5), some (.inr (.inl l6)), none, none] [] s) (fun x1 s1 => ev 133 96 [some (.inr (.inr (0, 0))), some (.inl l1), some (.inl l2), some (.inl l3), some (.inl l4), some (.inl l5), some (.inr (.inl l6)), none, some (.inl l8), some (.inl l9), some (.inl l10), none] [(.inl x1)] s1)) := (ev_go [22, 71, 96] 78 133 71 [some (.inr (.inr (0, 0))), some (.inl l1), some (.inl l2), some (.inl l3), some (.inl l4), some (.inl l5), some (.inr (.inl l6)), none, some (.inl l8), some (.inl l9), some (.inl l10), none] [] s).trans rfl
set_option maxRecDepth 20000 in
theorem q_133_at96 (l1 : Int32) (l2 : Int32) (l3 : Int32) (l4 : Int32) (l5 : Int32) (l6 : Int64) (l8 : Int32) (l9 : Int32) (l10 : Int32) (t0 : Int32) (s : SS) : ev 133 96 [some (.inr (.inr (0, 0))), some (.inl l1), some (.inl l2), some (.inl l3), some (.inl l4), some (.inl l5), some (.inr (.inl l6)), none, some (.inl l8), some (.inl l9), some (.inl l10), none] [(.inl t0)] s = (if 0 < t0 then ev 133 22 [some (.inr (.inr (0, 0))), some (.inl l1), some (.inl l2), some (.inl l3), some (.inl l9), some (.inl l10), some (.inr (.inl (s.2.1 11 0 9))), none, some (.inl l8), some (.inl (l9 + 1)), none, none] [] s else (if t0 = 0 then cI (ev 136 0 [some (.inl l9)] [] s) (fun x1 s1 => cI (ev 136 0 [some (.inl l4)] [] s1) (fun x2 s2 => (if x1 < x2 then ev 133 22 [some (.inr (.inr (0, 0))), some (.inl l1), some (.inl l2), some (.inl l3), some (.inl l9), some (.inl l10), some (.inr (.inl (s2.2.1 11 0 9))), none, some (.inl l8), some (.inl (l9 + 1)), none, none] [] s2 else ev 133 22 [some (.inr (.inr (0, 0))), some (.inl l1), some (.inl l2), some (.inl l3), some (.inl l4), some (.inl l5), some (.inr (.inl l6)), none, some (.inl l8), some (.inl (l9 + 1)), none, none] [] s2))) else ev 133 22 [some (.inr (.inr (0, 0))), some (.inl l1), some (.inl l2), some (.inl l3), some (.inl l4), some (.inl l5), some (.inr (.inl l6)), none, some (.inl l8), some (.inl (l9 + 1)), none, none] [] s)) := (ev_go [22, 71, 96] 78 133 96 [some (.inr (.inr (0, 0))), some (.inl l1), some (.inl l2), some (.inl l3), some (.inl l4), some (.inl l5), some (.inr (.inl l6)), none, some (.inl l8), some (.inl l9), some (.inl l10), none] [(.inl t0)] s).trans rfl
set_option maxRecDepth 20000 in
theorem q_134 (p0 : Int32) (p1 : Int64) (p2 : Int32) (p3 : Int64) (s : SS) : ev 134 0 [some (.inl p0), some (.inr (.inl p1)), none, some (.inl p2), some (.inr (.inl p3)), none, none] [] s = (if p0 = (-1000) then cI (ev 0 0 [some (.inl p0), some (.inl p2)] [] s) (fun x1 s1 => some (some (.inl x1), s1)) else (if p2 = (-1000) then cI (ev 0 0 [some (.inl p0), some (.inl p2)] [] s) (fun x2 s2 => some (some (.inl x2), s2)) else (if p0 < p2 then cI (ev 2 0 [some (.inr (.inl p3)), none, some (.inr (.inl (p1 <<< ((if 31 < (if 0 ≤ (p0 - p2) then (p0 - p2) else 0 - (p0 - p2)) then 31 else (if 0 ≤ (p0 - p2) then (p0 - p2) else 0 - (p0 - p2))).toInt64 &&& 63)))), none] [] s) (fun x3 s3 => some (some (.inl x3), s3)) else cI (ev 2 0 [some (.inr (.inl (p3 <<< ((if 31 < (if 0 ≤ (p0 - p2) then (p0 - p2) else 0 - (p0 - p2)) then 31 else (if 0 ≤ (p0 - p2) then (p0 - p2) else 0 - (p0 - p2))).toInt64 &&& 63)))), none, some (.inr (.inl p1)), none] [] s) (fun x4 s4 => some (some (.inl x4), s4))))) := (ev_go [] 40 134 0 [some (.inl p0), some (.inr (.inl p1)), none, some (.inl p2), some (.inr (.inl p3)), none, none] [] s).trans rfl
set_option maxRecDepth 20000 in
theorem q_135 (p0 : Int32) (p1 : Int32) (s : SS) : ev 135 0 [some (.inr (.inr (0, 0))), some (.inl p0), some (.inl p1), none, none] [] s = ev 135 6 [some (.inr (.inr (0, 0))), some (.inl p0), none, some (.inl p1), some (.inl 7)] [] s := (ev_go [6] 40 135 0 [some (.inr (.inr (0, 0))), some (.inl p0), some (.inl p1), none, none] [] s).trans rfl
set_option maxRecDepth 20000 in
theorem q_135_at6 (l1 : Int32) (l3 : Int32) (l4 : Int32) (s : SS) : ev 135 6 [some (.inr (.inr (0, 0))), some (.inl l1), none, some (.inl l3), some (.inl l4)] [] s = (if l4 < 0 then some (none, s) else (if ((l1 >>> (l4 &&& 31)) &&& 1) = 0 then ev 135 6 [some (.inr (.inr (0, 0))), some (.inl l1), none, some (.inl l3), some (.inl (l4 + (-1)))] [] s else (if ixB l4 8 = true then ev 135 6 [some (.inr (.inr (0, 0))), some (.inl l1), none, some (.inl (l3 >>> ((2 : Int32) &&& 31))), some (.inl (l4 + (-1)))] [] (wI s 13 (s.2.2 l4.toNatClampNeg) 2 (l3 &&& 3)) else none))) := (ev_go [6] 40 135 6 [some (.inr (.inr (0, 0))), some (.inl l1), none, some (.inl l3), some (.inl l4)] [] s).trans rfl
set_option maxRecDepth 20000 in
theorem q_136 (p0 : Int32) (s : SS) : ev 136 0 [some (.inl p0)] [] s = some (some (.inl (((p0 &&& 3) + ((p0 >>> ((2 : Int32) &&& 31)) &&& 3)) + ((p0 >>> ((4 : Int32) &&& 31)) &&& 3))), s) := (ev_go [] 40 136 0 [some (.inl p0)] [] s).trans rfl
set_option maxRecDepth 20000 in
theorem q_137 (p0 : Int32) (s : SS) : ev 137 0 [some (.inl p0)] [] s = some (some (.inl (((100 * ((p0 >>> ((4 : Int32) &&& 31)) &&& 3)) + (10 * ((p0 >>> ((2 : Int32) &&& 31)) &&& 3))) + (p0 &&& 3))), s) := (ev_go [] 40 137 0 [some (.inl p0)] [] s).trans rfl
set_option maxRecDepth 20000 in
theorem q_138 (p0 : Int32) (s : SS) : ev 138 0 [some (.inr (.inr (0, 0))), some (.inl p0), none] [] s = cI (ev 139 0 [some (.inr (.inr (0, 0))), some (.inl p0), none, none] [] s) (fun x1 s1 => (if x1 = 0 then cV (ev 126 0 [some (.inr (.inr (0, 0))), some (.inl 0)] [] s1) (fun s2 => cI (ev 50 0 [some (.inr (.inr (11, 0)))] [] s2) (fun x3 s3 => (if x3 = 0 then some (some (.inl 0), s3) else some (some (.inl 4), s3)))) else some (some (.inl x1), s1))) := (ev_go [] 40 138 0 [some (.inr (.inr (0, 0))), some (.inl p0), none] [] s).trans rfl
set_option maxRecDepth 20000 in
theorem q_139 (p0 : Int32) (s : SS) : ev 139 0 [some (.inr (.inr (0, 0))), some (.inl p0), none, none] [] s = cI (ev 10 0 [some (.inr (.inr (1, 0))), some (.inl p0)] [] s) (fun x1 s1 => (if x1 = 0 then some (some (.inl 1), s1) else cI (ev 11 0 [some (.inr (.inr (1, 0))), some (.inl p0)] [] s1) (fun x2 s2 => (if x2 = 0 then some (some (.inl 5), s2) else cI (ev 11 0 [some (.inr (.inr (1, 0))), some (.inl p0)] [] s2) (fun x3 s3 => (if (2 : Int32) = 0 then none else (if (x3 - x3 / 2 * 2) = 0 then ev 139 41 [some (.inr (.inr (0, 0))), some (.inl p0), some (.inl 0), none] [] s3 else some (some (.inl 5), s3)))))))) := (ev_go [41] 52 139 0 [some (.inr (.inr (0, 0))), some (.inl p0), none, none] [] s).trans rfl
set_option maxRecDepth 20000 in
theorem q_139_at41 (l1 : Int32) (l2 : Int32) (s : SS) : ev 139 41 [some (.inr (.inr (0, 0))), some (.inl l1), some (.inl l2), none] [] s = cI (ev 11 0 [some (.inr (.inr (1, 0))), some (.inl l1)] [] s) (fun x1 s1 => (if l2 < x1 then cI (ev 15 0 [some (.inr (.inr (1, 0))), some (.inl l1), some (.inl l2)] [] s1) (fun x2 s2 => (if x2 < (-99) then some (some (.inl 3), s2) else (if 99 < x2 then some (some (.inl 3), s2) else ev 139 41 [some (.inr (.inr (0, 0))), some (.inl l1), some (.inl (l2 + 1)), none] [] s2))) else some (some (.inl 0), s1))) := (ev_go [41] 52 139 41 [some (.inr (.inr (0, 0))), some (.inl l1), some (.inl l2), none] [] s).trans rfl
set_option maxRecDepth 20000 in
theorem q_140 (p0 : Int32) (s : SS) : ev 140 0 [some (.inr (.inr (0, 0))), some (.inl p0), none, none] [] s = cI (ev 10 0 [some (.inr (.inr (1, 0))), some (.inl p0)] [] s) (fun x1 s1 => (if x1 = 0 then some (some (.inl 1), s1) else cI (ev 11 0 [some (.inr (.inr (1, 0))), some (.inl p0)] [] s1) (fun x2 s2 => (if (2 : Int32) = 0 then none else (if (x2 - x2 / 2 * 2) = 0 then ev 140 30 [some (.inr (.inr (0, 0))), some (.inl p0), some (.inl 0), none] [] s2 else some (some (.inl 5), s2)))))) := (ev_go [30, 54] 56 140 0 [some (.inr (.inr (0, 0))), some (.inl p0), none, none] [] s).trans rfl
set_option maxRecDepth 20000 in
theorem q_140_at30 (l1 : Int32) (l2 : Int32) (s : SS) : ev 140 30 [some (.inr (.inr (0, 0))), some (.inl l1), some (.inl l2), none] [] s = cI (ev 11 0 [some (.inr (.inr (1, 0))), some (.inl l1)] [] s) (fun x1 s1 => (if l2 < x1 then (if (2 : Int32) = 0 then none else (if (l2 - l2 / 2 * 2) = 0 then ev 140 54 [some (.inr (.inr (0, 0))), some (.inl l1), some (.inl l2), none] [(.inl 10)] s1 else ev 140 54 [some (.inr (.inr (0, 0))), some (.inl l1), some (.inl l2), none] [(.inl 1)] s1)) else some (some (.inl 0), s1))) := (ev_go [30, 54] 56 140 30 [some (.inr (.inr (0, 0))), some (.inl l1), some (.inl l2), none] [] s).trans rfl
set_option maxRecDepth 20000 in
theorem q_140_at54 (l1 : Int32) (l2 : Int32) (t0 : Int32) (s : SS) : ev 140 54 [some (.inr (.inr (0, 0))), some (.inl l1), some (.inl l2), none] [(.inl t0)] s = cI (ev 15 0 [some (.inr (.inr (1, 0))), some (.inl l1), some (.inl l2)] [] s) (fun x1 s1 => (if x1 < 0 then some (some (.inl 3), s1) else cI (ev 15 0 [some (.inr (.inr (1, 0))), some (.inl l1), some (.inl l2)] [] s1) (fun x2 s2 => (if t0 < x2 then some (some (.inl 3), s2) else ev 140 30 [some (.inr (.inr (0, 0))), some (.inl l1), some (.inl (l2 + 1)), none] [] s2)))) := (ev_go [30, 54] 56 140 54 [some (.inr (.inr (0, 0))), some (.inl l1), some (.inl l2), none] [(.inl t0)] s).trans rfl
set_option maxRecDepth 20000 in
theorem q_141 (p0 : Int32) (p1 : Int32) (p2 : Int64) (p3 : Int64) (s : SS) : ev 141 0 [some (.inr (.inr (0, 0))), some (.inl p0), some (.inl p1), some (.inr (.inl p2)), none, some (.inr (.inl p3)), none] [] s = cI (ev 15 0 [some (.inr (.inr (1, 0))), some (.inl p0), some (.inl (2 * p1))] [] s) (fun x1 s1 => cI (ev 15 0 [some (.inr (.inr (1, 0))), some (.inl p0), some (.inl ((2 * p1) + 1))] [] s1) (fun x2 s2 => some (some (.inr (.inl ((x1.toInt64 * p2) + (x2.toInt64 * p3)))), s2))) := (ev_go [] 40 141 0 [some (.inr (.inr (0, 0))), some (.inl p0), some (.inl p1), some (.inr (.inl p2)), none, some (.inr (.inl p3)), none] [] s).trans rfl
set_option maxRecDepth 20000 in
theorem q_142 (p0 : Int32) (p1 : Int64) (p2 : Int64) (s : SS) : ev 142 0 [some (.inr (.inr (0, 0))), some (.inl p0), some (.inr (.inl p1)), none, some (.inr (.inl p2)), none, none, none] [] s = ev 142 6 [some (.inr (.inr (0, 0))), some (.inl p0), some (.inr (.inl p1)), none, some (.inr (.inl p2)), none, some (.inl 0), some (.inl 1)] [] s := (ev_go [6] 40 142 0 [some (.inr (.inr (0, 0))), some (.inl p0), some (.inr (.inl p1)), none, some (.inr (.inl p2)), none, none, none] [] s).trans rfl
set_option maxRecDepth 20000 in
theorem q_142_at6 (l1 : Int32) (l2 : Int64) (l4 : Int64) (l6 : Int32) (l7 : Int32) (s : SS) : ev 142 6 [some (.inr (.inr (0, 0))), some (.inl l1), some (.inr (.inl l2)), none, some (.inr (.inl l4)), none, some (.inl l6), some (.inl l7)] [] s = cI (ev 11 0 [some (.inr (.inr (1, 0))), some (.inl l1)] [] s) (fun x1 s1 => (if (2 : Int32) = 0 then none else (if l7 < (x1 / 2) then cL (ev 141 0 [some (.inr (.inr (0, 0))), some (.inl l1), some (.inl l7), some (.inr (.inl l2)), none, some (.inr (.inl l4)), none] [] s1) (fun x2 s2 => cL (ev 141 0 [some (.inr (.inr (0, 0))), some (.inl l1), some (.inl l6), some (.inr (.inl l2)), none, some (.inr (.inl l4)), none] [] s2) (fun x3 s3 => (if 0 < (lg_cmp x2 x3) then ev 142 6 [some (.inr (.inr (0, 0))), some (.inl l1), some (.inr (.inl l2)), none, some (.inr (.inl l4)), none, some (.inl l7), some (.inl (l7 + 1))] [] s3 else ev 142 6 [some (.inr (.inr (0, 0))), some (.inl l1), some (.inr (.inl l2)), none, some (.inr (.inl l4)), none, some (.inl l6), some (.inl (l7 + 1))] [] s3))) else some (some (.inl l6), s1)))) := (ev_go [6] 40 142 6 [some (.inr (.inr (0, 0))), some (.inl l1), some (.inr (.inl l2)), none, some (.inr (.inl l4)), none, some (.inl l6), some (.inl l7)] [] s).trans rfl
set_option maxRecDepth 20000 in
theorem q_143 (p0 : Int32) (p1 : Int64) (p2 : Int64) (s : SS) : ev 143 0 [some (.inr (.inr (0, 0))), some (.inl p0), some (.inr (.inl p1)), none, some (.inr (.inl p2)), none] [] s = cI (ev 142 0 [some (.inr (.inr (0, 0))), some (.inl p0), some (.inr (.inl p1)), none, some (.inr (.inl p2)), none, none, none] [] s) (fun x1 s1 => cL (ev 141 0 [some (.inr (.inr (0, 0))), some (.inl p0), some (.inl x1), some (.inr (.inl p1)), none, some (.inr (.inl p2)), none] [] s1) (fun x2 s2 => some (some (.inr (.inl x2)), s2))) := (ev_go [] 40 143 0 [some (.inr (.inr (0, 0))), some (.inl p0), some (.inr (.inl p1)), none, some (.inr (.inl p2)), none] [] s).trans rfl
end
section
set_option maxRecDepth 20000 in
theorem q_144 (p0 : Int32) (p1 : Int32) (p2 : Int32) (s : SS) : ev 144 0 [some (.inl p0), some (.inl p1), some (.inl p2)] [] s = (if p0 < p1 then some (some (.inl 0), s) else (if p2 < p0 then some (some (.inl 0), s) else some (some (.inl 1), s))) := (ev_go [] 40 144 0 [some (.inl p0), some (.inl p1), some (.inl p2)] [] s).trans rfl
set_option maxRecDepth 20000 in
theorem q_145 (p0 : Int32) (s : SS) : ev 145 0 [some (.inr (.inr (30, 0))), some (.inl p0)] [] s = (if ixB p0 6 = true then (if ixB p0 6 = true then some (some (.inl (-3)), (wI (wI s 30 0 0 p0) 31 0 p0.toNatClampNeg (((wI s 30 0 0 p0).1 31 0 p0.toNatClampNeg) + 1))) else none) else none) := (ev_go [] 40 145 0 [some (.inr (.inr (30, 0))), some (.inl p0)] [] s).trans rfl
set_option maxRecDepth 20000 in
theorem q_146 (p0 : Int32) (p1 : Int32) (s : SS) : ev 146 0 [some (.inr (.inr (30, 0))), some (.inl p0), some (.inl p1)] [] s = some (some (.inl p1), (wI s 30 0 2 p0)) := (ev_go [] 40 146 0 [some (.inr (.inr (30, 0))), some (.inl p0), some (.inl p1)] [] s).trans rfl
set_option maxRecDepth 20000 in
theorem q_147 (p0 : Int32) (p1 : Int32) (s : SS) : ev 147 0 [some (.inl p0), some (.inl p1)] [] s = (if ((p0 >>> (p1 &&& 31)) &&& 1) = 1 then some (some (.inl 1), s) else some (some (.inl 0), s)) := (ev_go [] 40 147 0 [some (.inl p0), some (.inl p1)] [] s).trans rfl
set_option maxRecDepth 20000 in
theorem q_148 (p0 : Int32) (s : SS) : ev 148 0 [some (.inl p0), none, none] [] s = ev 148 4 [some (.inl p0), some (.inl 0), some (.inl 0)] [] s := (ev_go [4] 40 148 0 [some (.inl p0), none, none] [] s).trans rfl
set_option maxRecDepth 20000 in
theorem q_148_at4 (l0 : Int32) (l1 : Int32) (l2 : Int32) (s : SS) : ev 148 4 [some (.inl l0), some (.inl l1), some (.inl l2)] [] s = (if l2 < 8 then ev 148 4 [some (.inl l0), some (.inl (l1 + ((l0 >>> (l2 &&& 31)) &&& 1))), some (.inl (l2 + 1))] [] s else some (some (.inl l1), s)) := (ev_go [4] 40 148 4 [some (.inl l0), some (.inl l1), some (.inl l2)] [] s).trans rfl
set_option maxRecDepth 20000 in
theorem q_149 (p0 : Int64) (p1 : Int64) (p2 : Int32) (s : SS) : ev 149 0 [some (.inr (.inr (30, 0))), some (.inr (.inl p0)), none, some (.inr (.inl p1)), none, some (.inl p2), none, none, none, none, none, none] [] s = (if (lg_cmp p0 0) < 0 then ev 149 17 [some (.inr (.inr (30, 0))), some (.inr (.inl p0)), none, some (.inr (.inl p1)), none, some (.inl p2), some (.inr (.inl (-p0))), none, some (.inr (.inl p1)), none, none, none] [] s else ev 149 17 [some (.inr (.inr (30, 0))), some (.inr (.inl p0)), none, some (.inr (.inl p1)), none, some (.inl p2), some (.inr (.inl p0)), none, some (.inr (.inl p1)), none, none, none] [] s) := (ev_go [17] 41 149 0 [some (.inr (.inr (30, 0))), some (.inr (.inl p0)), none, some (.inr (.inl p1)), none, some (.inl p2), none, none, none, none, none, none] [] s).trans rfl
set_option maxRecDepth 20000 in
theorem q_149_at17 (l1 : Int64) (l3 : Int64) (l5 : Int32) (l6 : Int64) (l8 : Int64) (s : SS) : ev 149 17 [some (.inr (.inr (30, 0))), some (.inr (.inl l1)), none, some (.inr (.inl l3)), none, some (.inl l5), some (.inr (.inl l6)), none, some (.inr (.inl l8)), none, none, none] [] s = (if (lg_cmp l8 0) = 0 then (if (l6 : Int64) = 0 then none else (if (l6 : Int64) = 0 then none else some (some (.inl l5), (wL (wL s 30 0 3 (l1 / l6)) 30 0 4 (l3 / l6))))) else (if (l8 : Int64) = 0 then none else ev 149 17 [some (.inr (.inr (30, 0))), some (.inr (.inl l1)), none, some (.inr (.inl l3)), none, some (.inl l5), some (.inr (.inl l8)), none, some (.inr (.inl (l6 - l6 / l8 * l8))), none, none, none] [] s)) := (ev_go [17] 41 149 17 [some (.inr (.inr (30, 0))), some (.inr (.inl l1)), none, some (.inr (.inl l3)), none, some (.inl l5), some (.inr (.inl l6)), none, some (.inr (.inl l8)), none, none, none] [] s).trans rfl
set_option maxRecDepth 20000 in
theorem q_150 (p0 : Int32) (s : SS) : ev 150 0 [some (.inl p0)] [] s = cI (ev 144 0 [some (.inl p0), some (.inl 0), some (.inl 5)] [] s) (fun x1 s1 => (bif isZ x1 then some (some (.inl x1), s1) else none)) := (ev_go [] 40 150 0 [some (.inl p0)] [] s).trans rfl
set_option maxRecDepth 20000 in
theorem q_151 (p0 : Int32) (s : SS) : ev 151 0 [some (.inl p0)] [] s = cI (ev 144 0 [some (.inl p0), some (.inl 0), some (.inl 3)] [] s) (fun x1 s1 => (bif isZ x1 then some (some (.inl x1), s1) else none)) := (ev_go [] 40 151 0 [some (.inl p0)] [] s).trans rfl
set_option maxRecDepth 20000 in
theorem q_152 (p0 : Int32) (s : SS) : ev 152 0 [some (.inr (.inr (30, 0))), some (.inl p0)] [] s = cI (ev 150 0 [some (.inl p0)] [] s) (fun x1 s1 => (if x1 = 0 then some (some (.inl (-1)), s1) else (if ixB p0 6 = true then (if (s1.1 32 0 p0.toNatClampNeg) < 0 then cI (ev 145 0 [some (.inr (.inr (30, 0))), some (.inl 1)] [] s1) (fun x2 s2 => some (some (.inl x2), s2)) else some (some (.inl 0), s1)) else none))) := (ev_go [] 40 152 0 [some (.inr (.inr (30, 0))), some (.inl p0)] [] s).trans rfl
set_option maxRecDepth 20000 in
theorem q_153 (p0 : Int32) (s : SS) : ev 153 0 [some (.inr (.inr (30, 0))), some (.inl p0)] [] s = cI (ev 151 0 [some (.inl p0)] [] s) (fun x1 s1 => (if x1 = 0 then some (some (.inl (-1)), s1) else (if ixB p0 4 = true then (if (s1.1 35 0 p0.toNatClampNeg) < 0 then cI (ev 145 0 [some (.inr (.inr (30, 0))), some (.inl 1)] [] s1) (fun x2 s2 => some (some (.inl x2), s2)) else some (some (.inl 0), s1)) else none))) := (ev_go [] 40 153 0 [some (.inr (.inr (30, 0))), some (.inl p0)] [] s).trans rfl
set_option maxRecDepth 20000 in
theorem q_154 (p0 : Int32) (p1 : Int32) (s : SS) : ev 154 0 [some (.inr (.inr (30, 0))), some (.inl p0), some (.inl p1)] [] s = (if ixB ((40 * p0) + p1) 240 = true then some (some (.inl (s.1 33 0 ((40 * p0) + p1).toNatClampNeg)), s) else none) := (ev_go [] 40 154 0 [some (.inr (.inr (30, 0))), some (.inl p0), some (.inl p1)] [] s).trans rfl
set_option maxRecDepth 20000 in
theorem q_155 (p0 : Int32) (p1 : Int32) (s : SS) : ev 155 0 [some (.inr (.inr (30, 0))), some (.inl p0), some (.inl p1), none] [] s = cI (ev 150 0 [some (.inl p0)] [] s) (fun x1 s1 => (if x1 = 0 then some (some (.inl (-1)), s1) else (if 40 < p1 then some (some (.inl (-1)), s1) else (if p1 < 0 then cI (ev 145 0 [some (.inr (.inr (30, 0))), some (.inl 5)] [] s1) (fun x2 s2 => some (some (.inl x2), s2)) else (if ixB p0 6 = true then ev 155 34 [some (.inr (.inr (30, 0))), some (.inl p0), some (.inl p1), some (.inl 0)] [] (wI s1 32 0 p0.toNatClampNeg p1) else none))))) := (ev_go [34] 42 155 0 [some (.inr (.inr (30, 0))), some (.inl p0), some (.inl p1), none] [] s).trans rfl
set_option maxRecDepth 20000 in
theorem q_155_at34 (l1 : Int32) (l2 : Int32) (l3 : Int32) (s : SS) : ev 155 34 [some (.inr (.inr (30, 0))), some (.inl l1), some (.inl l2), some (.inl l3)] [] s = (if l3 < 40 then (if ixB ((40 * l1) + l3) 240 = true then ev 155 34 [some (.inr (.inr (30, 0))), some (.inl l1), some (.inl l2), some (.inl (l3 + 1))] [] (wI s 33 0 ((40 * l1) + l3).toNatClampNeg 0) else none) else some (some (.inl l2), s)) := (ev_go [34] 42 155 34 [some (.inr (.inr (30, 0))), some (.inl l1), some (.inl l2), some (.inl l3)] [] s).trans rfl
set_option maxRecDepth 20000 in
theorem q_156 (p0 : Int32) (p1 : Int32) (s : SS) : ev 156 0 [some (.inr (.inr (30, 0))), some (.inl p0), some (.inl p1), none] [] s = cI (ev 152 0 [some (.inr (.inr (30, 0))), some (.inl p0)] [] s) (fun x1 s1 => (if x1 < 0 then some (some (.inl x1), s1) else (if ixB p0 6 = true then cI (ev 144 0 [some (.inl p1), some (.inl 0), some (.inl ((s1.1 32 0 p0.toNatClampNeg) - 1))] [] s1) (fun x2 s2 => (if x2 = 0 then cI (ev 145 0 [some (.inr (.inr (30, 0))), some (.inl 2)] [] s2) (fun x3 s3 => some (some (.inl x3), s3)) else cI (ev 154 0 [some (.inr (.inr (30, 0))), some (.inl p0), some (.inl p1)] [] s2) (fun x4 s4 => cI (ev 146 0 [some (.inr (.inr (30, 0))), some (.inl x4), some (.inl 1)] [] s4) (fun x5 s5 => some (some (.inl x5), s5))))) else none))) := (ev_go [] 40 156 0 [some (.inr (.inr (30, 0))), some (.inl p0), some (.inl p1), none] [] s).trans rfl
set_option maxRecDepth 20000 in
theorem q_157 (p0 : Int32) (p1 : Int32) (p2 : Int32) (s : SS) : ev 157 0 [some (.inr (.inr (30, 0))), some (.inl p0), some (.inl p1), some (.inl p2), none] [] s = cI (ev 156 0 [some (.inr (.inr (30, 0))), some (.inl p0), some (.inl p1), none] [] s) (fun x1 s1 => (if x1 < 0 then some (some (.inl x1), s1) else (if ixB ((40 * p0) + p1) 240 = true then some (some (.inl 1), (wI s1 33 0 ((40 * p0) + p1).toNatClampNeg p2)) else none))) := (ev_go [] 40 157 0 [some (.inr (.inr (30, 0))), some (.inl p0), some (.inl p1), some (.inl p2), none] [] s).trans rfl
set_option maxRecDepth 20000 in
theorem q_158 (p0 : Int32) (s : SS) : ev 158 0 [some (.inr (.inr (30, 0))), some (.inl p0), none] [] s = cI (ev 152 0 [some (.inr (.inr (30, 0))), some (.inl p0)] [] s) (fun x1 s1 => (if x1 < 0 then some (some (.inl x1), s1) else (if ixB p0 6 = true then some (some (.inl 1), (wI s1 32 0 p0.toNatClampNeg (-9))) else none))) := (ev_go [] 40 158 0 [some (.inr (.inr (30, 0))), some (.inl p0), none] [] s).trans rfl
set_option maxRecDepth 20000 in
theorem q_159 (p0 : Int32) (p1 : Int32) (p2 : Int32) (p3 : Int32) (p4 : Int32) (s : SS) : ev 159 0 [some (.inr (.inr (30, 0))), some (.inl p0), some (.inl p1), some (.inl p2), some (.inl p3), some (.inl p4), none] [] s = cI (ev 150 0 [some (.inl p0)] [] s) (fun x1 s1 => (if x1 = 0 then some (some (.inl (-1)), s1) else cI (ev 150 0 [some (.inl p2)] [] s1) (fun x2 s2 => (if x2 = 0 then some (some (.inl (-1)), s2) else (if p4 < 0 then cI (ev 145 0 [some (.inr (.inr (30, 0))), some (.inl 5)] [] s2) (fun x3 s3 => some (some (.inl x3), s3)) else (if ixB p0 6 = true then (if (s2.1 32 0 p0.toNatClampNeg) < 0 then cI (ev 145 0 [some (.inr (.inr (30, 0))), some (.inl 1)] [] s2) (fun x4 s4 => some (some (.inl x4), s4)) else (if ixB p2 6 = true then (if (s2.1 32 0 p2.toNatClampNeg) < 0 then cI (ev 145 0 [some (.inr (.inr (30, 0))), some (.inl 1)] [] s2) (fun x5 s5 => some (some (.inl x5), s5)) else (if p1 < 0 then cI (ev 145 0 [some (.inr (.inr (30, 0))), some (.inl 2)] [] s2) (fun x6 s6 => some (some (.inl x6), s6)) else (if p3 < 0 then cI (ev 145 0 [some (.inr (.inr (30, 0))), some (.inl 2)] [] s2) (fun x7 s7 => some (some (.inl x7), s7)) else (if ixB p0 6 = true then (if 0 < (lg_cmp (p1.toInt64 + p4.toInt64) ((s2.1 32 0 p0.toNatClampNeg).toInt64)) then cI (ev 145 0 [some (.inr (.inr (30, 0))), some (.inl 2)] [] s2) (fun x8 s8 => some (some (.inl x8), s8)) else (if ixB p2 6 = true then (if 0 < (lg_cmp (p3.toInt64 + p4.toInt64) ((s2.1 32 0 p2.toNatClampNeg).toInt64)) then cI (ev 145 0 [some (.inr (.inr (30, 0))), some (.inl 2)] [] s2) (fun x9 s9 => some (some (.inl x9), s9)) else ev 159 104 [some (.inr (.inr (30, 0))), some (.inl p0), some (.inl p1), some (.inl p2), some (.inl p3), some (.inl p4), some (.inl 0)] [] s2) else none)) else none)))) else none)) else none)))))) := (ev_go [104, 136] 105 159 0 [some (.inr (.inr (30, 0))), some (.inl p0), some (.inl p1), some (.inl p2), some (.inl p3), some (.inl p4), none] [] s).trans rfl
set_option maxRecDepth 20000 in
theorem q_159_at104 (l1 : Int32) (l2 : Int32) (l3 : Int32) (l4 : Int32) (l5 : Int32) (l6 : Int32) (s : SS) : ev 159 104 [some (.inr (.inr (30, 0))), some (.inl l1), some (.inl l2), some (.inl l3), some (.inl l4), some (.inl l5), some (.inl l6)] [] s = (if l6 < l5 then cI (ev 154 0 [some (.inr (.inr (30, 0))), some (.inl l1), some (.inl (l2 + l6))] [] s) (fun x1 s1 => (if ixB l6 40 = true then ev 159 104 [some (.inr (.inr (30, 0))), some (.inl l1), some (.inl l2), some (.inl l3), some (.inl l4), some (.inl l5), some (.inl (l6 + 1))] [] (wI s1 34 0 l6.toNatClampNeg x1) else none)) else ev 159 136 [some (.inr (.inr (30, 0))), none, none, some (.inl l3), some (.inl l4), some (.inl l5), some (.inl 0)] [] s) := (ev_go [104, 136] 105 159 104 [some (.inr (.inr (30, 0))), some (.inl l1), some (.inl l2), some (.inl l3), some (.inl l4), some (.inl l5), some (.inl l6)] [] s).trans rfl
set_option maxRecDepth 20000 in
theorem q_159_at136 (l3 : Int32) (l4 : Int32) (l5 : Int32) (l6 : Int32) (s : SS) : ev 159 136 [some (.inr (.inr (30, 0))), none, none, some (.inl l3), some (.inl l4), some (.inl l5), some (.inl l6)] [] s = (if l6 < l5 then (if ixB l6 40 = true then (if ixB (((40 * l3) + l4) + l6) 240 = true then ev 159 136 [some (.inr (.inr (30, 0))), none, none, some (.inl l3), some (.inl l4), some (.inl l5), some (.inl (l6 + 1))] [] (wI s 33 0 (((40 * l3) + l4) + l6).toNatClampNeg (s.1 34 0 l6.toNatClampNeg)) else none) else none) else some (some (.inl 1), s)) := (ev_go [104, 136] 105 159 136 [some (.inr (.inr (30, 0))), none, none, some (.inl l3), some (.inl l4), some (.inl l5), some (.inl l6)] [] s).trans rfl
set_option maxRecDepth 20000 in
theorem q_160 (p0 : Int32) (s : SS) : ev 160 0 [some (.inr (.inr (30, 0))), some (.inl p0), none, none, none, none] [] s = cI (ev 152 0 [some (.inr (.inr (30, 0))), some (.inl p0)] [] s) (fun x1 s1 => (if x1 < 0 then some (some (.inl x1), s1) else ev 160 17 [some (.inr (.inr (30, 0))), some (.inl p0), none, some (.inr (.inl 0)), none, some (.inl 0)] [] s1)) := (ev_go [17] 54 160 0 [some (.inr (.inr (30, 0))), some (.inl p0), none, none, none, none] [] s).trans rfl
set_option maxRecDepth 20000 in
theorem q_160_at17 (l1 : Int32) (l3 : Int64) (l5 : Int32) (s : SS) : ev 160 17 [some (.inr (.inr (30, 0))), some (.inl l1), none, some (.inr (.inl l3)), none, some (.inl l5)] [] s = (if ixB l1 6 = true then (if l5 < (s.1 32 0 l1.toNatClampNeg) then cI (ev 154 0 [some (.inr (.inr (30, 0))), some (.inl l1), some (.inl l5)] [] s) (fun x1 s1 => ev 160 17 [some (.inr (.inr (30, 0))), some (.inl l1), none, some (.inr (.inl (l3 + x1.toInt64))), none, some (.inl (l5 + 1))] [] s1) else (if ixB l1 6 = true then (if (s.1 32 0 l1.toNatClampNeg) = 0 then cI (ev 145 0 [some (.inr (.inr (30, 0))), some (.inl 4)] [] s) (fun x2 s2 => some (some (.inl x2), s2)) else (if ixB l1 6 = true then (if (((s.1 32 0 l1.toNatClampNeg).toInt64) : Int64) = 0 then none else cI (ev 146 0 [some (.inr (.inr (30, 0))), some (.inl ((l3 / ((s.1 32 0 l1.toNatClampNeg).toInt64)).toInt32)), some (.inl 1)] [] s) (fun x3 s3 => some (some (.inl x3), s3))) else none)) else none)) else none) := (ev_go [17] 54 160 17 [some (.inr (.inr (30, 0))), some (.inl l1), none, some (.inr (.inl l3)), none, some (.inl l5)] [] s).trans rfl
set_option maxRecDepth 20000 in
theorem q_161 (p0 : Int32) (p1 : Int32) (s : SS) : ev 161 0 [some (.inr (.inr (30, 0))), some (.inl p0), some (.inl p1), none] [] s = cI (ev 151 0 [some (.inl p0)] [] s) (fun x1 s1 => (if x1 = 0 then some (some (.inl (-1)), s1) else (if 40 < p1 then some (some (.inl (-1)), s1) else (if p1 < 0 then cI (ev 145 0 [some (.inr (.inr (30, 0))), some (.inl 5)] [] s1) (fun x2 s2 => some (some (.inl x2), s2)) else (if ixB p0 4 = true then ev 161 34 [some (.inr (.inr (30, 0))), some (.inl p0), some (.inl p1), some (.inl 0)] [] (wI s1 35 0 p0.toNatClampNeg p1) else none))))) := (ev_go [34] 42 161 0 [some (.inr (.inr (30, 0))), some (.inl p0), some (.inl p1), none] [] s).trans rfl
set_option maxRecDepth 20000 in
theorem q_161_at34 (l1 : Int32) (l2 : Int32) (l3 : Int32) (s : SS) : ev 161 34 [some (.inr (.inr (30, 0))), some (.inl l1), some (.inl l2), some (.inl l3)] [] s = (if l3 < 40 then (if ixB ((40 * l1) + l3) 160 = true then ev 161 34 [some (.inr (.inr (30, 0))), some (.inl l1), some (.inl l2), some (.inl (l3 + 1))] [] (wI s 36 0 ((40 * l1) + l3).toNatClampNeg 32) else none) else some (some (.inl l2), s)) := (ev_go [34] 42 161 34 [some (.inr (.inr (30, 0))), some (.inl l1), some (.inl l2), some (.inl l3)] [] s).trans rfl
set_option maxRecDepth 20000 in
theorem q_162 (p0 : Int32) (p1 : Int32) (p2 : Int32) (s : SS) : ev 162 0 [some (.inr (.inr (30, 0))), some (.inl p0), some (.inl p1), some (.inl p2), none, none] [] s = cI (ev 153 0 [some (.inr (.inr (30, 0))), some (.inl p0)] [] s) (fun x1 s1 => (if x1 < 0 then some (some (.inl x1), s1) else (if ixB p0 4 = true then cI (ev 144 0 [some (.inl p1), some (.inl 0), some (.inl ((s1.1 35 0 p0.toNatClampNeg) - 1))] [] s1) (fun x2 s2 => (if x2 = 0 then cI (ev 145 0 [some (.inr (.inr (30, 0))), some (.inl 2)] [] s2) (fun x3 s3 => some (some (.inl x3), s3)) else (if ixB ((40 * p0) + p1) 160 = true then (if ixB ((40 * p0) + p1) 160 = true then some (some (.inl ((s2.1 36 0 ((40 * p0) + p1).toNatClampNeg) + 1000)), (wI s2 36 0 ((40 * p0) + p1).toNatClampNeg p2.toInt8.toInt32)) else none) else none))) else none))) := (ev_go [] 50 162 0 [some (.inr (.inr (30, 0))), some (.inl p0), some (.inl p1), some (.inl p2), none, none] [] s).trans rfl
set_option maxRecDepth 20000 in
theorem q_163 (p0 : Int32) (s : SS) : ev 163 0 [some (.inl p0)] [] s = cI (ev 144 0 [some (.inl p0), some (.inl 0), some (.inl 27)] [] s) (fun x1 s1 => (bif isZ x1 then some (some (.inl x1), s1) else none)) := (ev_go [] 40 163 0 [some (.inl p0)] [] s).trans rfl
set_option maxRecDepth 20000 in
theorem q_164 (p0 : Int32) (s : SS) : ev 164 0 [some (.inl p0), none, none] [] s = (if p0 < 12 then (if (4 : Int32) = 0 then none else ev 164 18 [some (.inl p0), none, none] [(.inl (p0 - p0 / 4 * 4))] s) else (if (4 : Int32) = 0 then none else ev 164 18 [some (.inl p0), none, none] [(.inl ((p0 - 12) / 4))] s)) := (ev_go [18] 40 164 0 [some (.inl p0), none, none] [] s).trans rfl
set_option maxRecDepth 20000 in
theorem q_164_at18 (l0 : Int32) (t0 : Int32) (s : SS) : ev 164 18 [some (.inl l0), none, none] [(.inl t0)] s = (if l0 < 12 then (if 0 < t0 then some (some (.inl t0), s) else some (some (.inl 0), s)) else (if (4 : Int32) = 0 then none else (if ((l0 - 12) - (l0 - 12) / 4 * 4) < t0 then some (some (.inl t0), s) else some (some (.inl ((l0 - 12) - (l0 - 12) / 4 * 4)), s)))) := (ev_go [18] 40 164 18 [some (.inl l0), none, none] [(.inl t0)] s).trans rfl
set_option maxRecDepth 20000 in
theorem q_165 (p0 : Int32) (s : SS) : ev 165 0 [some (.inr (.inr (30, 0))), some (.inl p0), none] [] s = cI (ev 144 0 [some (.inl p0), some (.inl 1), some (.inl 4)] [] s) (fun x1 s1 => (if x1 = 0 then some (some (.inl (-1)), s1) else ev 165 13 [some (.inr (.inr (30, 0))), some (.inl p0), some (.inl 0)] [] s1)) := (ev_go [13] 40 165 0 [some (.inr (.inr (30, 0))), some (.inl p0), none] [] s).trans rfl
set_option maxRecDepth 20000 in
theorem q_165_at13 (l1 : Int32) (l2 : Int32) (s : SS) : ev 165 13 [some (.inr (.inr (30, 0))), some (.inl l1), some (.inl l2)] [] s = (if l2 < 28 then (if ixB l2 28 = true then (if (s.1 37 0 l2.toNatClampNeg) = 0 then ev 165 13 [some (.inr (.inr (30, 0))), some (.inl l1), some (.inl (l2 + 1))] [] s else cI (ev 164 0 [some (.inl l2), none, none] [] s) (fun x1 s1 => (if x1 < l1 then ev 165 13 [some (.inr (.inr (30, 0))), some (.inl l1), some (.inl (l2 + 1))] [] s1 else some (some (.inl (-4)), s1)))) else none) else some (some (.inl (s.1 30 0 10)), (wI s 30 0 10 l1))) := (ev_go [13] 40 165 13 [some (.inr (.inr (30, 0))), some (.inl l1), some (.inl l2)] [] s).trans rfl
set_option maxRecDepth 20000 in
theorem q_166 (p0 : Int32) (p1 : Int32) (s : SS) : ev 166 0 [some (.inr (.inr (30, 0))), some (.inl p0), some (.inl p1), none, none] [] s = ev 166 5 [some (.inr (.inr (30, 0))), some (.inl p0), some (.inl p1), some (.inl 0), some (.inl 0)] [] s := (ev_go [5] 40 166 0 [some (.inr (.inr (30, 0))), some (.inl p0), some (.inl p1), none, none] [] s).trans rfl
set_option maxRecDepth 20000 in
theorem q_166_at5 (l1 : Int32) (l2 : Int32) (l3 : Int32) (l4 : Int32) (s : SS) : ev 166 5 [some (.inr (.inr (30, 0))), some (.inl l1), some (.inl l2), some (.inl l3), some (.inl l4)] [] s = (if l4 < 28 then (if ixB l4 28 = true then cI (ev 144 0 [some (.inl (s.1 37 0 l4.toNatClampNeg)), some (.inl l1), some (.inl l2)] [] s) (fun x1 s1 => (if x1 = 0 then ev 166 5 [some (.inr (.inr (30, 0))), some (.inl l1), some (.inl l2), some (.inl (l3 + 0)), some (.inl (l4 + 1))] [] s1 else ev 166 5 [some (.inr (.inr (30, 0))), some (.inl l1), some (.inl l2), some (.inl (l3 + 1)), some (.inl (l4 + 1))] [] s1)) else none) else some (some (.inl l3), s)) := (ev_go [5] 40 166 5 [some (.inr (.inr (30, 0))), some (.inl l1), some (.inl l2), some (.inl l3), some (.inl l4)] [] s).trans rfl
set_option maxRecDepth 20000 in
theorem q_167 (p0 : Int32) (p1 : Int32) (s : SS) : ev 167 0 [some (.inr (.inr (30, 0))), some (.inl p0), some (.inl p1)] [] s = cI (ev 163 0 [some (.inl p0)] [] s) (fun x1 s1 => (if x1 = 0 then some (some (.inl (-1)), s1) else cI (ev 144 0 [some (.inl p1), some (.inl 0), some (.inl 3)] [] s1) (fun x2 s2 => (if x2 = 0 then some (some (.inl (-1)), s2) else cI (ev 164 0 [some (.inl p0), none, none] [] s2) (fun x3 s3 => (if x3 < (s3.1 30 0 10) then (if p1 = 3 then (if ixB p0 28 = true then (if (s3.1 37 0 p0.toNatClampNeg) = 3 then some (some (.inl 0), s3) else cI (ev 166 0 [some (.inr (.inr (30, 0))), some (.inl 3), some (.inl 3), none, none] [] s3) (fun x4 s4 => (if x4 = 10 then some (some (.inl (-2)), s4) else some (some (.inl 0), s4)))) else none) else some (some (.inl 0), s3)) else some (some (.inl (-1)), s3))))))) := (ev_go [] 40 167 0 [some (.inr (.inr (30, 0))), some (.inl p0), some (.inl p1)] [] s).trans rfl
set_option maxRecDepth 20000 in
theorem q_168 (p0 : Int32) (p1 : Int32) (s : SS) : ev 168 0 [some (.inr (.inr (30, 0))), some (.inl p0), some (.inl p1), none, none] [] s = cI (ev 167 0 [some (.inr (.inr (30, 0))), some (.inl p0), some (.inl p1)] [] s) (fun x1 s1 => (if x1 < 0 then some (some (.inl x1), s1) else (if ixB p0 28 = true then (if ixB p0 28 = true then some (some (.inl (s1.1 37 0 p0.toNatClampNeg)), (wI s1 37 0 p0.toNatClampNeg p1)) else none) else none))) := (ev_go [] 40 168 0 [some (.inr (.inr (30, 0))), some (.inl p0), some (.inl p1), none, none] [] s).trans rfl
set_option maxRecDepth 20000 in
theorem q_169 (p0 : Int32) (s : SS) : ev 169 0 [some (.inr (.inr (30, 0))), some (.inl p0)] [] s = cI (ev 163 0 [some (.inl p0)] [] s) (fun x1 s1 => (if x1 = 0 then some (some (.inl (-1)), s1) else (if ixB p0 28 = true then some (some (.inl (s1.1 37 0 p0.toNatClampNeg)), s1) else none))) := (ev_go [] 40 169 0 [some (.inr (.inr (30, 0))), some (.inl p0)] [] s).trans rfl
set_option maxRecDepth 20000 in
theorem q_170 (p0 : Int32) (s : SS) : ev 170 0 [some (.inr (.inr (30, 0))), some (.inl p0)] [] s = (if ixB p0 4 = true then (if (s.1 30 0 12) < (s.1 35 0 p0.toNatClampNeg) then (if ixB ((40 * p0) + (s.1 30 0 12)) 160 = true then some (some (.inl (s.1 36 0 ((40 * p0) + (s.1 30 0 12)).toNatClampNeg)), s) else none) else some (some (.inl (-9)), s)) else none) := (ev_go [] 40 170 0 [some (.inr (.inr (30, 0))), some (.inl p0)] [] s).trans rfl
set_option maxRecDepth 20000 in
theorem q_171 (p0 : Int32) (s : SS) : ev 171 0 [some (.inr (.inr (30, 0))), some (.inl p0)] [] s = cI (ev 170 0 [some (.inr (.inr (30, 0))), some (.inl p0)] [] s) (fun x1 s1 => (if x1 = 32 then ev 171 0 [some (.inr (.inr (30, 0))), some (.inl p0)] [] (wI s1 30 0 12 ((s1.1 30 0 12) + 1)) else some (none, s1))) := (ev_go [0] 40 171 0 [some (.inr (.inr (30, 0))), some (.inl p0)] [] s).trans rfl
set_option maxRecDepth 20000 in
theorem q_171_at0 (l1 : Int32) (s : SS) : ev 171 0 [some (.inr (.inr (30, 0))), some (.inl l1)] [] s = cI (ev 170 0 [some (.inr (.inr (30, 0))), some (.inl l1)] [] s) (fun x1 s1 => (if x1 = 32 then ev 171 0 [some (.inr (.inr (30, 0))), some (.inl l1)] [] (wI s1 30 0 12 ((s1.1 30 0 12) + 1)) else some (none, s1))) := (ev_go [0] 40 171 0 [some (.inr (.inr (30, 0))), some (.inl l1)] [] s).trans rfl
set_option maxRecDepth 20000 in
theorem q_172 (p0 : Int32) (p1 : Int32) (s : SS) : ev 172 0 [some (.inr (.inr (30, 0))), some (.inl p0), some (.inl p1), none] [] s = cI (ev 170 0 [some (.inr (.inr (30, 0))), some (.inl p0)] [] s) (fun x1 s1 => (if x1 = p1 then ev 172 14 [some (.inr (.inr (30, 0))), none, none, none] [(.inl 1)] s1 else ev 172 14 [some (.inr (.inr (30, 0))), none, none, none] [(.inl 0)] s1)) := (ev_go [14] 40 172 0 [some (.inr (.inr (30, 0))), some (.inl p0), some (.inl p1), none] [] s).trans rfl
set_option maxRecDepth 20000 in
theorem q_172_at14 (t0 : Int32) (s : SS) : ev 172 14 [some (.inr (.inr (30, 0))), none, none, none] [(.inl t0)] s = (if t0 = 0 then (bif isZ t0 then some (some (.inl t0), (wI s 30 0 12 ((s.1 30 0 12) + 0))) else none) else (bif isZ t0 then some (some (.inl t0), (wI s 30 0 12 ((s.1 30 0 12) + 1))) else none)) := (ev_go [14] 40 172 14 [some (.inr (.inr (30, 0))), none, none, none] [(.inl t0)] s).trans rfl
set_option maxRecDepth 20000 in
theorem q_173 (p0 : Int32) (p1 : Int32) (s : SS) : ev 173 0 [some (.inr (.inr (30, 0))), some (.inl p0), some (.inl p1)] [] s = cI (ev 172 0 [some (.inr (.inr (30, 0))), some (.inl p0), some (.inl 120), none] [] s) (fun x1 s1 => (if x1 = 0 then (if p1 = 0 then cI (ev 172 0 [some (.inr (.inr (30, 0))), some (.inl p0), some (.inl 121), none] [] s1) (fun x2 s2 => (if x2 = 0 then some (some (.inl (-9)), s2) else some (some (.inl 1), s2))) else some (some (.inl (-9)), s1)) else some (some (.inl 0), s1))) := (ev_go [] 40 173 0 [some (.inr (.inr (30, 0))), some (.inl p0), some (.inl p1)] [] s).trans rfl
set_option maxRecDepth 20000 in
theorem q_174 (p0 : Int32) (p1 : Int32) (s : SS) : ev 174 0 [some (.inr (.inr (30, 0))), some (.inl p0), some (.inl p1), none, none] [] s = cI (ev 172 0 [some (.inr (.inr (30, 0))), some (.inl p0), some (.inl 33), none] [] s) (fun x1 s1 => (if ixB (s.1 30 0 13) 6 = true then cI (ev 170 0 [some (.inr (.inr (30, 0))), some (.inl p0)] [] (wI s1 38 0 (s.1 30 0 13).toNatClampNeg (x1 &&& 1))) (fun x2 s2 => (if x2 = 65 then ev 174 76 [some (.inr (.inr (30, 0))), some (.inl p0), some (.inl p1), some (.inl (s.1 30 0 13)), none] [(.inl 0)] s2 else cI (ev 170 0 [some (.inr (.inr (30, 0))), some (.inl p0)] [] s2) (fun x3 s3 => (if x3 = 66 then ev 174 76 [some (.inr (.inr (30, 0))), some (.inl p0), some (.inl p1), some (.inl (s.1 30 0 13)), none] [(.inl 1)] s3 else cI (ev 170 0 [some (.inr (.inr (30, 0))), some (.inl p0)] [] s3) (fun x4 s4 => (if x4 = 67 then ev 174 76 [some (.inr (.inr (30, 0))), some (.inl p0), some (.inl p1), some (.inl (s.1 30 0 13)), none] [(.inl 2)] s4 else cI (ev 170 0 [some (.inr (.inr (30, 0))), some (.inl p0)] [] s4) (fun x5 s5 => (if x5 = 70 then ev 174 76 [some (.inr (.inr (30, 0))), some (.inl p0), some (.inl p1), some (.inl (s.1 30 0 13)), none] [(.inl 3)] s5 else ev 174 76 [some (.inr (.inr (30, 0))), some (.inl p0), some (.inl p1), some (.inl (s.1 30 0 13)), none] [(.inl (-9))] s5)))))))) else none)) := (ev_go [76, 147] 104 174 0 [some (.inr (.inr (30, 0))), some (.inl p0), some (.inl p1), none, none] [] s).trans rfl
set_option maxRecDepth 20000 in
theorem q_174_at76 (l1 : Int32) (l2 : Int32) (l3 : Int32) (t0 : Int32) (s : SS) : ev 174 76 [some (.inr (.inr (30, 0))), some (.inl l1), some (.inl l2), some (.inl l3), none] [(.inl t0)] s = (if t0 < 0 then some (some (.inl 0), s) else (if ixB l3 6 = true then cI (ev 173 0 [some (.inr (.inr (30, 0))), some (.inl l1), some (.inl l2)] [] (wI (wI s 30 0 12 ((s.1 30 0 12) + 1)) 39 0 l3.toNatClampNeg t0)) (fun x1 s1 => (if ixB l3 6 = true then (if ixB l3 6 = true then (if ((wI s1 40 0 l3.toNatClampNeg x1).1 40 0 l3.toNatClampNeg) < 0 then some (some (.inl 0), (wI s1 40 0 l3.toNatClampNeg x1)) else (if t0 = 3 then cI (ev 173 0 [some (.inr (.inr (30, 0))), some (.inl l1), some (.inl l2)] [] (wI s1 40 0 l3.toNatClampNeg x1)) (fun x2 s2 => ev 174 147 [some (.inr (.inr (30, 0))), none, none, some (.inl l3), none] [(.inl x2), (.inl l3), (.inr (.inr (41, 0)))] s2) else ev 174 147 [some (.inr (.inr (30, 0))), none, none, some (.inl l3), none] [(.inl 0), (.inl l3), (.inr (.inr (41, 0)))] (wI s1 40 0 l3.toNatClampNeg x1))) else none) else none)) else none)) := (ev_go [76, 147] 104 174 76 [some (.inr (.inr (30, 0))), some (.inl l1), some (.inl l2), some (.inl l3), none] [(.inl t0)] s).trans rfl
set_option maxRecDepth 20000 in
theorem q_174_at147 (l3 : Int32) (t0 : Int32) (t1 : Int32) (s : SS) : ev 174 147 [some (.inr (.inr (30, 0))), none, none, some (.inl l3), none] [(.inl t0), (.inl t1), (.inr (.inr (41, 0)))] s = (if ixB t1 6 = true then (if ixB l3 6 = true then (if ((wI (wI s 41 0 t1.toNatClampNeg t0) 30 0 13 (((wI s 41 0 t1.toNatClampNeg t0).1 30 0 13) + 1)).1 41 0 l3.toNatClampNeg) < 0 then some (some (.inl 0), (wI (wI s 41 0 t1.toNatClampNeg t0) 30 0 13 (((wI s 41 0 t1.toNatClampNeg t0).1 30 0 13) + 1))) else some (some (.inl 1), (wI (wI s 41 0 t1.toNatClampNeg t0) 30 0 13 (((wI s 41 0 t1.toNatClampNeg t0).1 30 0 13) + 1)))) else none) else none) := (ev_go [76, 147] 104 174 147 [some (.inr (.inr (30, 0))), none, none, some (.inl l3), none] [(.inl t0), (.inl t1), (.inr (.inr (41, 0)))] s).trans rfl
set_option maxRecDepth 20000 in
theorem q_175 (p0 : Int32) (p1 : Int32) (s : SS) : ev 175 0 [some (.inr (.inr (30, 0))), some (.inl p0), some (.inl p1)] [] s = (if p1 = 4 then cI (ev 172 0 [some (.inr (.inr (30, 0))), some (.inl p0), some (.inl 49), none] [] (wI s 30 0 14 0)) (fun x1 s1 => (bif isZ x1 then some (some (.inl x1), s1) else none)) else (if p1 = 3 then cI (ev 172 0 [some (.inr (.inr (30, 0))), some (.inl p0), some (.inl 35), none] [] (wI s 30 0 14 0)) (fun x2 s2 => (if x2 = 0 then some (some (.inl 0), s2) else cI (ev 170 0 [some (.inr (.inr (30, 0))), some (.inl p0)] [] s2) (fun x3 s3 => cI (ev 144 0 [some (.inl x3), some (.inl 49), some (.inl 52)] [] s3) (fun x4 s4 => (if x4 = 0 then some (some (.inl 0), s4) else cI (ev 170 0 [some (.inr (.inr (30, 0))), some (.inl p0)] [] s4) (fun x5 s5 => some (some (.inl 1), (wI (wI s5 30 0 14 (x5 - 48)) 30 0 12 (((wI s5 30 0 14 (x5 - 48)).1 30 0 12) + 1))))))))) else some (some (.inl 1), (wI s 30 0 14 0)))) := (ev_go [] 50 175 0 [some (.inr (.inr (30, 0))), some (.inl p0), some (.inl p1)] [] s).trans rfl
set_option maxRecDepth 20000 in
theorem q_176 (p0 : Int32) (p1 : Int32) (s : SS) : ev 176 0 [some (.inr (.inr (30, 0))), some (.inl p0), some (.inl p1), none, none] [] s = (if p1 < 3 then ev 176 10 [some (.inr (.inr (30, 0))), some (.inl p0), some (.inl p1), none, none] [(.inl 0)] s else ev 176 10 [some (.inr (.inr (30, 0))), some (.inl p0), some (.inl p1), none, none] [(.inl 1)] s) := (ev_go [10, 43] 72 176 0 [some (.inr (.inr (30, 0))), some (.inl p0), some (.inl p1), none, none] [] s).trans rfl
set_option maxRecDepth 20000 in
theorem q_176_at10 (l1 : Int32) (l2 : Int32) (t0 : Int32) (s : SS) : ev 176 10 [some (.inr (.inr (30, 0))), some (.inl l1), some (.inl l2), none, none] [(.inl t0)] s = cV (ev 171 0 [some (.inr (.inr (30, 0))), some (.inl l1)] [] (wI (wI s 30 0 12 0) 30 0 13 0)) (fun s1 => cI (ev 175 0 [some (.inr (.inr (30, 0))), some (.inl l1), some (.inl l2)] [] s1) (fun x2 s2 => (if x2 = 0 then some (some (.inl (s2.1 30 0 12)), s2) else ev 176 43 [some (.inr (.inr (30, 0))), some (.inl l1), none, some (.inl t0), some (.inl 1)] [] s2))) := (ev_go [10, 43] 72 176 10 [some (.inr (.inr (30, 0))), some (.inl l1), some (.inl l2), none, none] [(.inl t0)] s).trans rfl
set_option maxRecDepth 20000 in
theorem q_176_at43 (l1 : Int32) (l3 : Int32) (l4 : Int32) (s : SS) : ev 176 43 [some (.inr (.inr (30, 0))), some (.inl l1), none, some (.inl l3), some (.inl l4)] [] s = (if l4 = 0 then cV (ev 171 0 [some (.inr (.inr (30, 0))), some (.inl l1)] [] s) (fun s1 => (if ixB l1 4 = true then (if (s1.1 30 0 12) = (s1.1 35 0 l1.toNatClampNeg) then some (some (.inl (-9)), s1) else some (some (.inl (s1.1 30 0 12)), s1)) else none)) else cI (ev 174 0 [some (.inr (.inr (30, 0))), some (.inl l1), some (.inl l3), none, none] [] s) (fun x2 s2 => (if x2 = 0 then some (some (.inl (s2.1 30 0 12)), s2) else (if l3 = 0 then (if (s2.1 30 0 13) < 6 then cI (ev 172 0 [some (.inr (.inr (30, 0))), some (.inl l1), some (.inl 124), none] [] s2) (fun x3 s3 => (if x3 = 0 then ev 176 43 [some (.inr (.inr (30, 0))), some (.inl l1), none, some (.inl l3), some (.inl 0)] [] s3 else ev 176 43 [some (.inr (.inr (30, 0))), some (.inl l1), none, some (.inl l3), some (.inl 1)] [] s3)) else ev 176 43 [some (.inr (.inr (30, 0))), some (.inl l1), none, some (.inl l3), some (.inl 0)] [] s2) else ev 176 43 [some (.inr (.inr (30, 0))), some (.inl l1), none, some (.inl l3), some (.inl 0)] [] s2)))) := (ev_go [10, 43] 72 176 43 [some (.inr (.inr (30, 0))), some (.inl l1), none, some (.inl l3), some (.inl l4)] [] s).trans rfl
set_option maxRecDepth 20000 in
theorem q_177 (p0 : Int32) (s : SS) : ev 177 0 [some (.inl p0)] [] s = cI (ev 144 0 [some (.inl p0), some (.inl 0), some (.inl 4)] [] s) (fun x1 s1 => (bif isZ x1 then some (some (.inl x1), s1) else none)) := (ev_go [] 40 177 0 [some (.inl p0)] [] s).trans rfl
set_option maxRecDepth 20000 in
theorem q_178 (p0 : Int32) (p1 : Int32) (s : SS) : ev 178 0 [some (.inr (.inr (30, 0))), some (.inl p0), some (.inl p1), none] [] s = cI (ev 177 0 [some (.inl p1)] [] s) (fun x1 s1 => (if x1 = 0 then some (some (.inl (-1)), s1) else cI (ev 153 0 [some (.inr (.inr (30, 0))), some (.inl p0)] [] s1) (fun x2 s2 => (if x2 < 0 then some (some (.inl x2), s2) else cI (ev 176 0 [some (.inr (.inr (30, 0))), some (.inl p0), some (.inl p1), none, none] [] s2) (fun x3 s3 => some (some (.inl x3), s3)))))) := (ev_go [] 40 178 0 [some (.inr (.inr (30, 0))), some (.inl p0), some (.inl p1), none] [] s).trans rfl
set_option maxRecDepth 20000 in
theorem q_179 (p0 : Int32) (s : SS) : ev 179 0 [some (.inl p0)] [] s = cI (ev 144 0 [some (.inl p0), some (.inl 0), some (.inl 7)] [] s) (fun x1 s1 => (bif isZ x1 then some (some (.inl x1), s1) else none)) := (ev_go [] 40 179 0 [some (.inl p0)] [] s).trans rfl
set_option maxRecDepth 20000 in
theorem q_180 (p0 : Int32) (s : SS) : ev 180 0 [some (.inr (.inr (30, 0))), some (.inl p0)] [] s = cI (ev 179 0 [some (.inl p0)] [] s) (fun x1 s1 => (if x1 = 0 then some (some (.inl (-1)), s1) else (if ixB p0 8 = true then (if (s1.1 42 0 p0.toNatClampNeg) < 0 then cI (ev 145 0 [some (.inr (.inr (30, 0))), some (.inl 1)] [] s1) (fun x2 s2 => some (some (.inl x2), s2)) else some (some (.inl 0), s1)) else none))) := (ev_go [] 40 180 0 [some (.inr (.inr (30, 0))), some (.inl p0)] [] s).trans rfl
set_option maxRecDepth 20000 in
theorem q_181 (p0 : Int32) (s : SS) : ev 181 0 [some (.inl p0)] [] s = (if p0 = 2 then some (some (.inl 1), s) else (if p0 = 3 then some (some (.inl 1), s) else some (some (.inl 0), s))) := (ev_go [] 40 181 0 [some (.inl p0)] [] s).trans rfl
set_option maxRecDepth 20000 in
theorem q_182 (p0 : Int32) (s : SS) : ev 182 0 [some (.inl p0)] [] s = (if p0 = 1 then some (some (.inl 1), s) else (if p0 = 4 then some (some (.inl 1), s) else some (some (.inl 0), s))) := (ev_go [] 40 182 0 [some (.inl p0)] [] s).trans rfl
set_option maxRecDepth 20000 in
theorem q_183 (p0 : Int32) (p1 : Int32) (p2 : Int32) (p3 : Int32) (s : SS) : ev 183 0 [some (.inr (.inr (30, 0))), some (.inl p0), some (.inl p1), some (.inl p2), some (.inl p3), none] [] s = cI (ev 179 0 [some (.inl p0)] [] s) (fun x1 s1 => (if x1 = 0 then some (some (.inl (-1)), s1) else cI (ev 151 0 [some (.inl p1)] [] s1) (fun x2 s2 => (if x2 = 0 then some (some (.inl (-1)), s2) else cI (ev 177 0 [some (.inl p2)] [] s2) (fun x3 s3 => (if x3 = 0 then some (some (.inl (-1)), s3) else cI (ev 181 0 [some (.inl p2)] [] s3) (fun x4 s4 => (if x4 = 0 then ev 183 41 [some (.inr (.inr (30, 0))), some (.inl p0), some (.inl p1), some (.inl p2), some (.inl p3), none] [] s4 else cI (ev 144 0 [some (.inl p3), some (.inl 0), some (.inl 9)] [] s4) (fun x5 s5 => (if x5 = 0 then some (some (.inl (-1)), s5) else ev 183 41 [some (.inr (.inr (30, 0))), some (.inl p0), some (.inl p1), some (.inl p2), some (.inl p3), none] [] s5)))))))))) := (ev_go [41, 95, 119] 128 183 0 [some (.inr (.inr (30, 0))), some (.inl p0), some (.inl p1), some (.inl p2), some (.inl p3), none] [] s).trans rfl
set_option maxRecDepth 20000 in
theorem q_183_at41 (l1 : Int32) (l2 : Int32) (l3 : Int32) (l4 : Int32) (s : SS) : ev 183 41 [some (.inr (.inr (30, 0))), some (.inl l1), some (.inl l2), some (.inl l3), some (.inl l4), none] [] s = (if ixB l2 4 = true then (if (s.1 35 0 l2.toNatClampNeg) < 0 then cI (ev 145 0 [some (.inr (.inr (30, 0))), some (.inl 1)] [] s) (fun x1 s1 => some (some (.inl x1), s1)) else cI (ev 176 0 [some (.inr (.inr (30, 0))), some (.inl l2), some (.inl l3), none, none] [] s) (fun x2 s2 => (if x2 = (-9) then (if ixB l1 8 = true then cI (ev 181 0 [some (.inl l3)] [] (wI s2 42 0 l1.toNatClampNeg l3)) (fun x3 s3 => (if x3 = 0 then ev 183 95 [some (.inr (.inr (30, 0))), some (.inl l1), none, none, none, none] [(.inl 0), (.inl l1), (.inr (.inr (43, 0)))] s3 else ev 183 95 [some (.inr (.inr (30, 0))), some (.inl l1), none, none, none, none] [(.inl l4), (.inl l1), (.inr (.inr (43, 0)))] s3)) else none) else some (some (.inl (-4)), s2)))) else none) := (ev_go [41, 95, 119] 128 183 41 [some (.inr (.inr (30, 0))), some (.inl l1), some (.inl l2), some (.inl l3), some (.inl l4), none] [] s).trans rfl
set_option maxRecDepth 20000 in
theorem q_183_at95 (l1 : Int32) (t0 : Int32) (t1 : Int32) (s : SS) : ev 183 95 [some (.inr (.inr (30, 0))), some (.inl l1), none, none, none, none] [(.inl t0), (.inl t1), (.inr (.inr (43, 0)))] s = (if ixB t1 8 = true then (if ixB l1 8 = true then (if ixB l1 8 = true then ev 183 119 [some (.inr (.inr (30, 0))), some (.inl l1), none, none, none, some (.inl 0)] [] (wI (wI (wI s 43 0 t1.toNatClampNeg t0) 44 0 l1.toNatClampNeg ((wI s 43 0 t1.toNatClampNeg t0).1 30 0 14)) 45 0 l1.toNatClampNeg ((wI (wI s 43 0 t1.toNatClampNeg t0) 44 0 l1.toNatClampNeg ((wI s 43 0 t1.toNatClampNeg t0).1 30 0 14)).1 30 0 13)) else none) else none) else none) := (ev_go [41, 95, 119] 128 183 95 [some (.inr (.inr (30, 0))), some (.inl l1), none, none, none, none] [(.inl t0), (.inl t1), (.inr (.inr (43, 0)))] s).trans rfl
set_option maxRecDepth 20000 in
theorem q_183_at119 (l1 : Int32) (l5 : Int32) (s : SS) : ev 183 119 [some (.inr (.inr (30, 0))), some (.inl l1), none, none, none, some (.inl l5)] [] s = (if l5 < (s.1 30 0 13) then (if ixB l5 6 = true then (if ixB ((6 * l1) + l5) 48 = true then (if ixB l5 6 = true then (if ixB ((6 * l1) + l5) 48 = true then (if ixB l5 6 = true then (if ixB ((6 * l1) + l5) 48 = true then (if ixB l5 6 = true then (if ixB ((6 * l1) + l5) 48 = true then ev 183 119 [some (.inr (.inr (30, 0))), some (.inl l1), none, none, none, some (.inl (l5 + 1))] [] (wI (wI (wI (wI s 46 0 ((6 * l1) + l5).toNatClampNeg ((s.1 38 0 l5.toNatClampNeg) &&& 1)) 47 0 ((6 * l1) + l5).toNatClampNeg ((wI s 46 0 ((6 * l1) + l5).toNatClampNeg ((s.1 38 0 l5.toNatClampNeg) &&& 1)).1 39 0 l5.toNatClampNeg)) 48 0 ((6 * l1) + l5).toNatClampNeg ((wI (wI s 46 0 ((6 * l1) + l5).toNatClampNeg ((s.1 38 0 l5.toNatClampNeg) &&& 1)) 47 0 ((6 * l1) + l5).toNatClampNeg ((wI s 46 0 ((6 * l1) + l5).toNatClampNeg ((s.1 38 0 l5.toNatClampNeg) &&& 1)).1 39 0 l5.toNatClampNeg)).1 40 0 l5.toNatClampNeg)) 49 0 ((6 * l1) + l5).toNatClampNeg ((wI (wI (wI s 46 0 ((6 * l1) + l5).toNatClampNeg ((s.1 38 0 l5.toNatClampNeg) &&& 1)) 47 0 ((6 * l1) + l5).toNatClampNeg ((wI s 46 0 ((6 * l1) + l5).toNatClampNeg ((s.1 38 0 l5.toNatClampNeg) &&& 1)).1 39 0 l5.toNatClampNeg)) 48 0 ((6 * l1) + l5).toNatClampNeg ((wI (wI s 46 0 ((6 * l1) + l5).toNatClampNeg ((s.1 38 0 l5.toNatClampNeg) &&& 1)) 47 0 ((6 * l1) + l5).toNatClampNeg ((wI s 46 0 ((6 * l1) + l5).toNatClampNeg ((s.1 38 0 l5.toNatClampNeg) &&& 1)).1 39 0 l5.toNatClampNeg)).1 40 0 l5.toNatClampNeg)).1 41 0 l5.toNatClampNeg)) else none) else none) else none) else none) else none) else none) else none) else none) else cI (ev 186 0 [some (.inr (.inr (30, 0))), some (.inl l1)] [] s) (fun x1 s1 => some (some (.inl x1), s1))) := (ev_go [41, 95, 119] 128 183 119 [some (.inr (.inr (30, 0))), some (.inl l1), none, none, none, some (.inl l5)] [] s).trans rfl
set_option maxRecDepth 20000 in
theorem q_184 (p0 : Int32) (s : SS) : ev 184 0 [some (.inr (.inr (30, 0))), some (.inl p0), none] [] s = cI (ev 180 0 [some (.inr (.inr (30, 0))), some (.inl p0)] [] s) (fun x1 s1 => (if x1 < 0 then some (some (.inl x1), s1) else (if ixB p0 8 = true then some (some (.inl 1), (wI s1 42 0 p0.toNatClampNeg (-9))) else none))) := (ev_go [] 40 184 0 [some (.inr (.inr (30, 0))), some (.inl p0), none] [] s).trans rfl
set_option maxRecDepth 20000 in
theorem q_185 (p0 : Int32) (p1 : Int32) (s : SS) : ev 185 0 [some (.inr (.inr (30, 0))), some (.inl p0), some (.inl p1), none, none] [] s = ev 185 8 [some (.inr (.inr (30, 0))), some (.inl p0), some (.inl p1), some (.inl 0), some (.inl (6 * p0))] [] s := (ev_go [8] 49 185 0 [some (.inr (.inr (30, 0))), some (.inl p0), some (.inl p1), none, none] [] s).trans rfl
set_option maxRecDepth 20000 in
theorem q_185_at8 (l1 : Int32) (l2 : Int32) (l3 : Int32) (l4 : Int32) (s : SS) : ev 185 8 [some (.inr (.inr (30, 0))), some (.inl l1), some (.inl l2), some (.inl l3), some (.inl l4)] [] s = (if ixB l1 8 = true then (if l4 < ((6 * l1) + (s.1 45 0 l1.toNatClampNeg)) then (if l3 = 0 then (if ixB l4 48 = true then (if (s.1 48 0 l4.toNatClampNeg) = l2 then ev 185 8 [some (.inr (.inr (30, 0))), some (.inl l1), some (.inl l2), some (.inl 1), some (.inl (l4 + 1))] [] s else (if ixB l4 48 = true then (if (s.1 47 0 l4.toNatClampNeg) = 3 then (if ixB l4 48 = true then (if (s.1 49 0 l4.toNatClampNeg) = l2 then ev 185 8 [some (.inr (.inr (30, 0))), some (.inl l1), some (.inl l2), some (.inl 1), some (.inl (l4 + 1))] [] s else ev 185 8 [some (.inr (.inr (30, 0))), some (.inl l1), some (.inl l2), some (.inl 0), some (.inl (l4 + 1))] [] s) else none) else ev 185 8 [some (.inr (.inr (30, 0))), some (.inl l1), some (.inl l2), some (.inl 0), some (.inl (l4 + 1))] [] s) else none)) else none) else ev 185 8 [some (.inr (.inr (30, 0))), some (.inl l1), some (.inl l2), some (.inl 1), some (.inl (l4 + 1))] [] s) else (bif isZ l3 then some (some (.inl l3), s) else none)) else none) := (ev_go [8] 49 185 8 [some (.inr (.inr (30, 0))), some (.inl l1), some (.inl l2), some (.inl l3), some (.inl l4)] [] s).trans rfl
set_option maxRecDepth 20000 in
theorem q_186 (p0 : Int32) (s : SS) : ev 186 0 [some (.inr (.inr (30, 0))), some (.inl p0)] [] s = (if ixB p0 8 = true then (if (s.1 42 0 p0.toNatClampNeg) < 3 then cI (ev 185 0 [some (.inr (.inr (30, 0))), some (.inl p0), some (.inl 0), none, none] [] s) (fun x1 s1 => (if x1 = 0 then some (some (.inl (s1.1 30 0 10)), s1) else cI (ev 185 0 [some (.inr (.inr (30, 0))), some (.inl p0), some (.inl 1), none, none] [] s1) (fun x2 s2 => (if x2 = 0 then some (some (.inl (s2.1 30 0 10)), s2) else some (some (.inl ((s2.1 30 0 10) * (s2.1 30 0 10))), s2))))) else some (some (.inl 1), s)) else none) := (ev_go [] 40 186 0 [some (.inr (.inr (30, 0))), some (.inl p0)] [] s).trans rfl
set_option maxRecDepth 20000 in
theorem q_187 (p0 : Int32) (p1 : Int32) (s : SS) : ev 187 0 [some (.inr (.inr (30, 0))), some (.inl p0), some (.inl p1), none, none] [] s = cI (ev 144 0 [some (.inl p1), some (.inl 0), some (.inl 9)] [] s) (fun x1 s1 => (if x1 = 0 then some (some (.inl (-1)), s1) else cI (ev 180 0 [some (.inr (.inr (30, 0))), some (.inl p0)] [] s1) (fun x2 s2 => (if x2 < 0 then some (some (.inl x2), s2) else (if ixB p0 8 = true then cI (ev 181 0 [some (.inl (s2.1 42 0 p0.toNatClampNeg))] [] s2) (fun x3 s3 => (if x3 = 0 then cI (ev 145 0 [some (.inr (.inr (30, 0))), some (.inl 3)] [] s3) (fun x4 s4 => some (some (.inl x4), s4)) else (if ixB p0 8 = true then (if ixB p0 8 = true then some (some (.inl (s3.1 43 0 p0.toNatClampNeg)), (wI s3 43 0 p0.toNatClampNeg p1)) else none) else none))) else none))))) := (ev_go [] 42 187 0 [some (.inr (.inr (30, 0))), some (.inl p0), some (.inl p1), none, none] [] s).trans rfl
set_option maxRecDepth 20000 in
theorem q_188 (p0 : Int32) (p1 : Int32) (s : SS) : ev 188 0 [some (.inr (.inr (30, 0))), some (.inl p0), some (.inl p1)] [] s = (if p1 = 0 then (if ixB p0 8 = true then some (some (.inl (s.1 42 0 p0.toNatClampNeg)), s) else none) else (if p1 = 1 then (if ixB p0 8 = true then some (some (.inl (s.1 45 0 p0.toNatClampNeg)), s) else none) else cI (ev 186 0 [some (.inr (.inr (30, 0))), some (.inl p0)] [] s) (fun x1 s1 => some (some (.inl x1), s1)))) := (ev_go [] 40 188 0 [some (.inr (.inr (30, 0))), some (.inl p0), some (.inl p1)] [] s).trans rfl
set_option maxRecDepth 20000 in
theorem q_189 (p0 : Int32) (p1 : Int32) (s : SS) : ev 189 0 [some (.inr (.inr (30, 0))), some (.inl p0), some (.inl p1), none] [] s = cI (ev 144 0 [some (.inl p1), some (.inl 0), some (.inl 2)] [] s) (fun x1 s1 => (if x1 = 0 then some (some (.inl (-1)), s1) else cI (ev 180 0 [some (.inr (.inr (30, 0))), some (.inl p0)] [] s1) (fun x2 s2 => (if x2 < 0 then some (some (.inl x2), s2) else cI (ev 188 0 [some (.inr (.inr (30, 0))), some (.inl p0), some (.inl p1)] [] s2) (fun x3 s3 => cI (ev 146 0 [some (.inr (.inr (30, 0))), some (.inl x3), some (.inl 1)] [] s3) (fun x4 s4 => some (some (.inl x4), s4))))))) := (ev_go [] 40 189 0 [some (.inr (.inr (30, 0))), some (.inl p0), some (.inl p1), none] [] s).trans rfl
set_option maxRecDepth 20000 in
theorem q_190 (p0 : Int32) (s : SS) : ev 190 0 [some (.inr (.inr (30, 0))), some (.inl p0), none, none] [] s = ev 190 7 [some (.inr (.inr (30, 0))), some (.inl p0), some (.inl 0), some (.inl (6 * p0))] [] s := (ev_go [7] 40 190 0 [some (.inr (.inr (30, 0))), some (.inl p0), none, none] [] s).trans rfl
set_option maxRecDepth 20000 in
theorem q_190_at7 (l1 : Int32) (l2 : Int32) (l3 : Int32) (s : SS) : ev 190 7 [some (.inr (.inr (30, 0))), some (.inl l1), some (.inl l2), some (.inl l3)] [] s = (if ixB l1 8 = true then (if l3 < ((6 * l1) + (s.1 45 0 l1.toNatClampNeg)) then (if ixB l3 48 = true then (if (s.1 46 0 l3.toNatClampNeg) = 0 then ev 190 7 [some (.inr (.inr (30, 0))), some (.inl l1), some (.inl (l2 + 0)), some (.inl (l3 + 1))] [] s else ev 190 7 [some (.inr (.inr (30, 0))), some (.inl l1), some (.inl (l2 + 1)), some (.inl (l3 + 1))] [] s) else none) else some (some (.inl l2), s)) else none) := (ev_go [7] 40 190 7 [some (.inr (.inr (30, 0))), some (.inl l1), some (.inl l2), some (.inl l3)] [] s).trans rfl
set_option maxRecDepth 20000 in
theorem q_191 (p0 : Int32) (p1 : Int32) (p2 : Int32) (s : SS) : ev 191 0 [some (.inl p0), some (.inl p1), some (.inl p2)] [] s = (if p0 = 3 then some (some (.inl ((12 + (4 * p1)) + p2)), s) else some (some (.inl ((4 * p0) + p1)), s)) := (ev_go [] 40 191 0 [some (.inl p0), some (.inl p1), some (.inl p2)] [] s).trans rfl
set_option maxRecDepth 20000 in
theorem q_192 (p0 : Int32) (p1 : Int32) (s : SS) : ev 192 0 [some (.inr (.inr (30, 0))), some (.inl p0), some (.inl p1)] [] s = (if p1 = 1 then cI (ev 190 0 [some (.inr (.inr (30, 0))), some (.inl p0), none, none] [] s) (fun x1 s1 => some (some (.inl x1), s1)) else (if p1 = 2 then (if ixB p0 8 = true then some (some (.inl (s.1 43 0 p0.toNatClampNeg)), s) else none) else (if p1 = 3 then (if ixB p0 8 = true then some (some (.inl (s.1 44 0 p0.toNatClampNeg)), s) else none) else (if p1 = 4 then (if ixB (6 * p0) 48 = true then cI (ev 191 0 [some (.inl (s.1 47 0 (6 * p0).toNatClampNeg)), some (.inl 0), some (.inl 0)] [] s) (fun x2 s2 => some (some (.inl x2), s2)) else none) else some (some (.inl 0), s))))) := (ev_go [] 43 192 0 [some (.inr (.inr (30, 0))), some (.inl p0), some (.inl p1)] [] s).trans rfl
set_option maxRecDepth 20000 in
theorem q_193 (p0 : Int32) (p1 : Int32) (s : SS) : ev 193 0 [some (.inr (.inr (30, 0))), some (.inl p0), some (.inl p1), none, none] [] s = cI (ev 144 0 [some (.inl p1), some (.inl 1), some (.inl 4)] [] s) (fun x1 s1 => (if x1 = 0 then some (some (.inl (-1)), s1) else cI (ev 180 0 [some (.inr (.inr (30, 0))), some (.inl p0)] [] s1) (fun x2 s2 => (if x2 < 0 then some (some (.inl x2), s2) else (if ixB p0 8 = true then (if (s2.1 42 0 p0.toNatClampNeg) = p1 then ev 193 68 [some (.inr (.inr (30, 0))), some (.inl p0), some (.inl p1), none, none] [(.inl 1)] s2 else (if p1 = 1 then (if ixB p0 8 = true then (if (s2.1 42 0 p0.toNatClampNeg) = 4 then ev 193 68 [some (.inr (.inr (30, 0))), some (.inl p0), some (.inl p1), none, none] [(.inl 1)] s2 else ev 193 48 [some (.inr (.inr (30, 0))), some (.inl p0), some (.inl p1), none, none] [] s2) else none) else ev 193 48 [some (.inr (.inr (30, 0))), some (.inl p0), some (.inl p1), none, none] [] s2)) else none))))) := (ev_go [48, 68] 59 193 0 [some (.inr (.inr (30, 0))), some (.inl p0), some (.inl p1), none, none] [] s).trans rfl
set_option maxRecDepth 20000 in
theorem q_193_at48 (l1 : Int32) (l2 : Int32) (s : SS) : ev 193 48 [some (.inr (.inr (30, 0))), some (.inl l1), some (.inl l2), none, none] [] s = (if l2 = 2 then (if ixB l1 8 = true then (if (s.1 42 0 l1.toNatClampNeg) = 3 then ev 193 68 [some (.inr (.inr (30, 0))), some (.inl l1), some (.inl l2), none, none] [(.inl 1)] s else ev 193 68 [some (.inr (.inr (30, 0))), some (.inl l1), some (.inl l2), none, none] [(.inl 0)] s) else none) else ev 193 68 [some (.inr (.inr (30, 0))), some (.inl l1), some (.inl l2), none, none] [(.inl 0)] s) := (ev_go [48, 68] 59 193 48 [some (.inr (.inr (30, 0))), some (.inl l1), some (.inl l2), none, none] [] s).trans rfl
set_option maxRecDepth 20000 in
theorem q_193_at68 (l1 : Int32) (l2 : Int32) (t0 : Int32) (s : SS) : ev 193 68 [some (.inr (.inr (30, 0))), some (.inl l1), some (.inl l2), none, none] [(.inl t0)] s = (if t0 = 0 then cI (ev 145 0 [some (.inr (.inr (30, 0))), some (.inl 3)] [] s) (fun x1 s1 => some (some (.inl x1), s1)) else cI (ev 192 0 [some (.inr (.inr (30, 0))), some (.inl l1), some (.inl l2)] [] s) (fun x2 s2 => some (some (.inl x2), s2))) := (ev_go [48, 68] 59 193 68 [some (.inr (.inr (30, 0))), some (.inl l1), some (.inl l2), none, none] [(.inl t0)] s).trans rfl
set_option maxRecDepth 20000 in
theorem q_194  (s : SS) : ev 194 0 [some (.inr (.inr (30, 0))), none, none] [] s = ev 194 4 [some (.inr (.inr (30, 0))), some (.inl 0), some (.inl 0)] [] s := (ev_go [4, 31] 45 194 0 [some (.inr (.inr (30, 0))), none, none] [] s).trans rfl
set_option maxRecDepth 20000 in
theorem q_194_at4 (l1 : Int32) (l2 : Int32) (s : SS) : ev 194 4 [some (.inr (.inr (30, 0))), some (.inl l1), some (.inl l2)] [] s = (if l2 < 28 then (if ixB l2 28 = true then (if (s.1 37 0 l2.toNatClampNeg) = 3 then ev 194 31 [some (.inr (.inr (30, 0))), some (.inl l1), some (.inl l2)] [(.inl l1), (.inl l2), (.inr (.inr (50, 0)))] s else ev 194 31 [some (.inr (.inr (30, 0))), some (.inl l1), some (.inl l2)] [(.inl (-9)), (.inl l2), (.inr (.inr (50, 0)))] s) else none) else some (none, (wI s 30 0 28 ((1 : Int32) <<< (l1 &&& 31))))) := (ev_go [4, 31] 45 194 4 [some (.inr (.inr (30, 0))), some (.inl l1), some (.inl l2)] [] s).trans rfl
set_option maxRecDepth 20000 in
theorem q_194_at31 (l1 : Int32) (l2 : Int32) (t0 : Int32) (t1 : Int32) (s : SS) : ev 194 31 [some (.inr (.inr (30, 0))), some (.inl l1), some (.inl l2)] [(.inl t0), (.inl t1), (.inr (.inr (50, 0)))] s = (if ixB t1 28 = true then (if ixB l2 28 = true then (if ((wI s 50 0 t1.toNatClampNeg t0).1 37 0 l2.toNatClampNeg) = 3 then ev 194 4 [some (.inr (.inr (30, 0))), some (.inl (l1 + 1)), some (.inl (l2 + 1))] [] (wI s 50 0 t1.toNatClampNeg t0) else ev 194 4 [some (.inr (.inr (30, 0))), some (.inl (l1 + 0)), some (.inl (l2 + 1))] [] (wI s 50 0 t1.toNatClampNeg t0)) else none) else none) := (ev_go [4, 31] 45 194 31 [some (.inr (.inr (30, 0))), some (.inl l1), some (.inl l2)] [(.inl t0), (.inl t1), (.inr (.inr (50, 0)))] s).trans rfl
set_option maxRecDepth 20000 in
theorem q_195 (p0 : Int32) (p1 : Int32) (s : SS) : ev 195 0 [some (.inr (.inr (30, 0))), some (.inl p0), some (.inl p1)] [] s = (if ixB p0 28 = true then (if (s.1 37 0 p0.toNatClampNeg) = 1 then some (some (.inl 1), s) else (if ixB p0 28 = true then (if (s.1 37 0 p0.toNatClampNeg) = 3 then (if ixB p0 28 = true then cI (ev 147 0 [some (.inl p1), some (.inl (s.1 50 0 p0.toNatClampNeg))] [] s) (fun x1 s1 => (if x1 = 0 then some (some (.inl 0), s1) else some (some (.inl 1), s1))) else none) else some (some (.inl 0), s)) else none)) else none) := (ev_go [] 40 195 0 [some (.inr (.inr (30, 0))), some (.inl p0), some (.inl p1)] [] s).trans rfl
set_option maxRecDepth 20000 in
theorem q_196 (p0 : Int32) (p1 : Int32) (p2 : Int32) (p3 : Int32) (s : SS) : ev 196 0 [some (.inr (.inr (30, 0))), some (.inl p0), some (.inl p1), some (.inl p2), some (.inl p3), none, none] [] s = (if ixB p0 48 = true then (if (s.1 48 0 p0.toNatClampNeg) = 0 then (if ixB p0 48 = true then (if (s.1 49 0 p0.toNatClampNeg) = 0 then ev 196 30 [some (.inr (.inr (30, 0))), some (.inl p0), none, none, some (.inl p3), some (.inl p1), none] [(.inl p1)] s else ev 196 30 [some (.inr (.inr (30, 0))), some (.inl p0), none, none, some (.inl p3), some (.inl p1), none] [(.inl p2)] s) else none) else (if ixB p0 48 = true then (if (s.1 49 0 p0.toNatClampNeg) = 0 then ev 196 30 [some (.inr (.inr (30, 0))), some (.inl p0), none, none, some (.inl p3), some (.inl p2), none] [(.inl p1)] s else ev 196 30 [some (.inr (.inr (30, 0))), some (.inl p0), none, none, some (.inl p3), some (.inl p2), none] [(.inl p2)] s) else none)) else none) := (ev_go [30] 42 196 0 [some (.inr (.inr (30, 0))), some (.inl p0), some (.inl p1), some (.inl p2), some (.inl p3), none, none] [] s).trans rfl
set_option maxRecDepth 20000 in
theorem q_196_at30 (l1 : Int32) (l4 : Int32) (l5 : Int32) (t0 : Int32) (s : SS) : ev 196 30 [some (.inr (.inr (30, 0))), some (.inl l1), none, none, some (.inl l4), some (.inl l5), none] [(.inl t0)] s = (if ixB l1 48 = true then cI (ev 191 0 [some (.inl (s.1 47 0 l1.toNatClampNeg)), some (.inl l5), some (.inl t0)] [] s) (fun x1 s1 => cI (ev 195 0 [some (.inr (.inr (30, 0))), some (.inl x1), some (.inl l4)] [] s1) (fun x2 s2 => (if ixB l1 48 = true then (if x2 = (s2.1 46 0 l1.toNatClampNeg) then some (some (.inl 0), s2) else some (some (.inl 1), s2)) else none))) else none) := (ev_go [30] 42 196 30 [some (.inr (.inr (30, 0))), some (.inl l1), none, none, some (.inl l4), some (.inl l5), none] [(.inl t0)] s).trans rfl
end
section
set_option maxRecDepth 20000 in
theorem q_197 (p0 : Int32) (p1 : Int32) (s : SS) : ev 197 0 [some (.inr (.inr (30, 0))), some (.inl p0), some (.inl p1), none, none, none, none, none, none, none] [] s = (if ixB p0 8 = true then (if (s.1 42 0 p0.toNatClampNeg) < 3 then (if ixB p0 8 = true then (if (s.1 42 0 p0.toNatClampNeg) < 1 then some (some (.inl 0), s) else cI (ev 185 0 [some (.inr (.inr (30, 0))), some (.inl p0), some (.inl 0), none, none] [] s) (fun x1 s1 => (if x1 = 0 then ev 197 124 [some (.inr (.inr (30, 0))), some (.inl p0), some (.inl p1), some (.inl 0), none, none, none, none, none, none] [(.inl 1)] s1 else ev 197 124 [some (.inr (.inr (30, 0))), some (.inl p0), some (.inl p1), some (.inl 0), none, none, none, none, none, none] [(.inl (s1.1 30 0 10))] s1))) else none) else ev 197 15 [some (.inr (.inr (30, 0))), some (.inl p0), some (.inl p1), some (.inl 0), some (.inl 0), none, none, none, none, none] [] s) else none) := (ev_go [15, 124, 148, 158, 174, 214] 140 197 0 [some (.inr (.inr (30, 0))), some (.inl p0), some (.inl p1), none, none, none, none, none, none, none] [] s).trans rfl
set_option maxRecDepth 20000 in
theorem q_197_at15 (l1 : Int32) (l2 : Int32) (l3 : Int32) (l4 : Int32) (s : SS) : ev 197 15 [some (.inr (.inr (30, 0))), some (.inl l1), some (.inl l2), some (.inl l3), some (.inl l4), none, none, none, none, none] [] s = (if l4 < (s.1 30 0 10) then cI (ev 196 0 [some (.inr (.inr (30, 0))), some (.inl (6 * l1)), some (.inl l4), some (.inl l4), some (.inl l2), none, none] [] s) (fun x1 s1 => (if x1 = 0 then ev 197 15 [some (.inr (.inr (30, 0))), some (.inl l1), some (.inl l2), some (.inl (l3 + 0)), some (.inl (l4 + 1)), none, none, none, none, none] [] s1 else ev 197 15 [some (.inr (.inr (30, 0))), some (.inl l1), some (.inl l2), some (.inl (l3 + 1)), some (.inl (l4 + 1)), none, none, none, none, none] [] s1)) else (if ixB l1 8 = true then (if (s.1 42 0 l1.toNatClampNeg) = 3 then (if ixB l1 8 = true then (if l3 < (s.1 44 0 l1.toNatClampNeg) then some (some (.inl 1), s) else some (some (.inl 0), s)) else none) else (if l3 = 1 then some (some (.inl 0), s) else some (some (.inl 1), s))) else none)) := (ev_go [15, 124, 148, 158, 174, 214] 140 197 15 [some (.inr (.inr (30, 0))), some (.inl l1), some (.inl l2), some (.inl l3), some (.inl l4), none, none, none, none, none] [] s).trans rfl
set_option maxRecDepth 20000 in
theorem q_197_at124 (l1 : Int32) (l2 : Int32) (l3 : Int32) (t0 : Int32) (s : SS) : ev 197 124 [some (.inr (.inr (30, 0))), some (.inl l1), some (.inl l2), some (.inl l3), none, none, none, none, none, none] [(.inl t0)] s = cI (ev 185 0 [some (.inr (.inr (30, 0))), some (.inl l1), some (.inl 1), none, none] [] s) (fun x1 s1 => (if x1 = 0 then ev 197 148 [some (.inr (.inr (30, 0))), some (.inl l1), some (.inl l2), some (.inl l3), some (.inl t0), some (.inl 1), some (.inl 0), none, none, none] [] s1 else ev 197 148 [some (.inr (.inr (30, 0))), some (.inl l1), some (.inl l2), some (.inl l3), some (.inl t0), some (.inl (s1.1 30 0 10)), some (.inl 0), none, none, none] [] s1)) := (ev_go [15, 124, 148, 158, 174, 214] 140 197 124 [some (.inr (.inr (30, 0))), some (.inl l1), some (.inl l2), some (.inl l3), none, none, none, none, none, none] [(.inl t0)] s).trans rfl
set_option maxRecDepth 20000 in
theorem q_197_at148 (l1 : Int32) (l2 : Int32) (l3 : Int32) (l4 : Int32) (l5 : Int32) (l6 : Int32) (s : SS) : ev 197 148 [some (.inr (.inr (30, 0))), some (.inl l1), some (.inl l2), some (.inl l3), some (.inl l4), some (.inl l5), some (.inl l6), none, none, none] [] s = (if l6 < l4 then ev 197 158 [some (.inr (.inr (30, 0))), some (.inl l1), some (.inl l2), some (.inl l3), some (.inl l4), some (.inl l5), some (.inl l6), some (.inl 0), none, none] [] s else some (some (.inl l3), s)) := (ev_go [15, 124, 148, 158, 174, 214] 140 197 148 [some (.inr (.inr (30, 0))), some (.inl l1), some (.inl l2), some (.inl l3), some (.inl l4), some (.inl l5), some (.inl l6), none, none, none] [] s).trans rfl
set_option maxRecDepth 20000 in
theorem q_197_at158 (l1 : Int32) (l2 : Int32) (l3 : Int32) (l4 : Int32) (l5 : Int32) (l6 : Int32) (l7 : Int32) (s : SS) : ev 197 158 [some (.inr (.inr (30, 0))), some (.inl l1), some (.inl l2), some (.inl l3), some (.inl l4), some (.inl l5), some (.inl l6), some (.inl l7), none, none] [] s = (if l7 < l5 then ev 197 174 [some (.inr (.inr (30, 0))), some (.inl l1), some (.inl l2), some (.inl l3), some (.inl l4), some (.inl l5), some (.inl l6), some (.inl l7), some (.inl 0), some (.inl (6 * l1))] [] s else ev 197 148 [some (.inr (.inr (30, 0))), some (.inl l1), some (.inl l2), some (.inl l3), some (.inl l4), some (.inl l5), some (.inl (l6 + 1)), none, none, none] [] s) := (ev_go [15, 124, 148, 158, 174, 214] 140 197 158 [some (.inr (.inr (30, 0))), some (.inl l1), some (.inl l2), some (.inl l3), some (.inl l4), some (.inl l5), some (.inl l6), some (.inl l7), none, none] [] s).trans rfl
set_option maxRecDepth 20000 in
theorem q_197_at174 (l1 : Int32) (l2 : Int32) (l3 : Int32) (l4 : Int32) (l5 : Int32) (l6 : Int32) (l7 : Int32) (l8 : Int32) (l9 : Int32) (s : SS) : ev 197 174 [some (.inr (.inr (30, 0))), some (.inl l1), some (.inl l2), some (.inl l3), some (.inl l4), some (.inl l5), some (.inl l6), some (.inl l7), some (.inl l8), some (.inl l9)] [] s = (if ixB l1 8 = true then (if l9 < ((6 * l1) + (s.1 45 0 l1.toNatClampNeg)) then (if l8 = 0 then cI (ev 196 0 [some (.inr (.inr (30, 0))), some (.inl l9), some (.inl l6), some (.inl l7), some (.inl l2), none, none] [] s) (fun x1 s1 => ev 197 174 [some (.inr (.inr (30, 0))), some (.inl l1), some (.inl l2), some (.inl l3), some (.inl l4), some (.inl l5), some (.inl l6), some (.inl l7), some (.inl x1), some (.inl (l9 + 1))] [] s1) else ev 197 214 [some (.inr (.inr (30, 0))), some (.inl l1), some (.inl l2), some (.inl l3), some (.inl l4), some (.inl l5), some (.inl l6), some (.inl l7), some (.inl l8), none] [] s) else ev 197 214 [some (.inr (.inr (30, 0))), some (.inl l1), some (.inl l2), some (.inl l3), some (.inl l4), some (.inl l5), some (.inl l6), some (.inl l7), some (.inl l8), none] [] s) else none) := (ev_go [15, 124, 148, 158, 174, 214] 140 197 174 [some (.inr (.inr (30, 0))), some (.inl l1), some (.inl l2), some (.inl l3), some (.inl l4), some (.inl l5), some (.inl l6), some (.inl l7), some (.inl l8), some (.inl l9)] [] s).trans rfl
set_option maxRecDepth 20000 in
theorem q_197_at214 (l1 : Int32) (l2 : Int32) (l3 : Int32) (l4 : Int32) (l5 : Int32) (l6 : Int32) (l7 : Int32) (l8 : Int32) (s : SS) : ev 197 214 [some (.inr (.inr (30, 0))), some (.inl l1), some (.inl l2), some (.inl l3), some (.inl l4), some (.inl l5), some (.inl l6), some (.inl l7), some (.inl l8), none] [] s = (if l8 = 0 then ev 197 158 [some (.inr (.inr (30, 0))), some (.inl l1), some (.inl l2), some (.inl (l3 + 1)), some (.inl l4), some (.inl l5), some (.inl l6), some (.inl (l7 + 1)), none, none] [] s else ev 197 158 [some (.inr (.inr (30, 0))), some (.inl l1), some (.inl l2), some (.inl (l3 + 0)), some (.inl l4), some (.inl l5), some (.inl l6), some (.inl (l7 + 1)), none, none] [] s) := (ev_go [15, 124, 148, 158, 174, 214] 140 197 214 [some (.inr (.inr (30, 0))), some (.inl l1), some (.inl l2), some (.inl l3), some (.inl l4), some (.inl l5), some (.inl l6), some (.inl l7), some (.inl l8), none] [] s).trans rfl
set_option maxRecDepth 20000 in
theorem q_198  (s : SS) : ev 198 0 [some (.inr (.inr (30, 0))), none, none] [] s = cV (ev 194 0 [some (.inr (.inr (30, 0))), none, none] [] s) (fun s1 => ev 198 6 [some (.inr (.inr (30, 0))), some (.inl 0), none] [] s1) := (ev_go [6, 14] 40 198 0 [some (.inr (.inr (30, 0))), none, none] [] s).trans rfl
set_option maxRecDepth 20000 in
theorem q_198_at6 (l1 : Int32) (s : SS) : ev 198 6 [some (.inr (.inr (30, 0))), some (.inl l1), none] [] s = (if l1 < 8 then ev 198 14 [some (.inr (.inr (30, 0))), some (.inl l1), some (.inl 0)] [] s else some (none, s)) := (ev_go [6, 14] 40 198 6 [some (.inr (.inr (30, 0))), some (.inl l1), none] [] s).trans rfl
set_option maxRecDepth 20000 in
theorem q_198_at14 (l1 : Int32) (l2 : Int32) (s : SS) : ev 198 14 [some (.inr (.inr (30, 0))), some (.inl l1), some (.inl l2)] [] s = (if l2 < (s.1 30 0 28) then cI (ev 197 0 [some (.inr (.inr (30, 0))), some (.inl l1), some (.inl l2), none, none, none, none, none, none, none] [] s) (fun x1 s1 => (if ixB ((1024 * l1) + l2) 8192 = true then ev 198 14 [some (.inr (.inr (30, 0))), some (.inl l1), some (.inl (l2 + 1))] [] (wI s1 51 0 ((1024 * l1) + l2).toNatClampNeg x1) else none)) else ev 198 6 [some (.inr (.inr (30, 0))), some (.inl (l1 + 1)), none] [] s) := (ev_go [6, 14] 40 198 14 [some (.inr (.inr (30, 0))), some (.inl l1), some (.inl l2)] [] s).trans rfl
set_option maxRecDepth 20000 in
theorem q_199 (p0 : Int32) (p1 : Int32) (s : SS) : ev 199 0 [some (.inr (.inr (30, 0))), some (.inl p0), some (.inl p1), none, none, none] [] s = ev 199 5 [some (.inr (.inr (30, 0))), some (.inl p0), some (.inl p1), some (.inl 0), some (.inl 0), none] [] s := (ev_go [5, 38, 61] 58 199 0 [some (.inr (.inr (30, 0))), some (.inl p0), some (.inl p1), none, none, none] [] s).trans rfl
set_option maxRecDepth 20000 in
theorem q_199_at5 (l1 : Int32) (l2 : Int32) (l3 : Int32) (l4 : Int32) (s : SS) : ev 199 5 [some (.inr (.inr (30, 0))), some (.inl l1), some (.inl l2), some (.inl l3), some (.inl l4), none] [] s = (if l4 < 8 then cI (ev 147 0 [some (.inl l1), some (.inl l4)] [] s) (fun x1 s1 => (if x1 = 0 then ev 199 38 [some (.inr (.inr (30, 0))), some (.inl l1), some (.inl l2), some (.inl l3), some (.inl l4), none] [(.inl 0)] s1 else (if ixB ((1024 * l4) + l2) 8192 = true then ev 199 38 [some (.inr (.inr (30, 0))), some (.inl l1), some (.inl l2), some (.inl l3), some (.inl l4), none] [(.inl (s1.1 51 0 ((1024 * l4) + l2).toNatClampNeg))] s1 else none))) else some (some (.inl l3), s)) := (ev_go [5, 38, 61] 58 199 5 [some (.inr (.inr (30, 0))), some (.inl l1), some (.inl l2), some (.inl l3), some (.inl l4), none] [] s).trans rfl
set_option maxRecDepth 20000 in
theorem q_199_at38 (l1 : Int32) (l2 : Int32) (l3 : Int32) (l4 : Int32) (t0 : Int32) (s : SS) : ev 199 38 [some (.inr (.inr (30, 0))), some (.inl l1), some (.inl l2), some (.inl l3), some (.inl l4), none] [(.inl t0)] s = (if 0 < t0 then (if ixB l4 8 = true then cI (ev 182 0 [some (.inl (s.1 42 0 l4.toNatClampNeg))] [] s) (fun x1 s1 => (if x1 = 0 then ev 199 61 [some (.inr (.inr (30, 0))), some (.inl l1), some (.inl l2), some (.inl l3), some (.inl l4), some (.inl t0)] [] s1 else some (some (.inl (-9)), s1))) else none) else ev 199 61 [some (.inr (.inr (30, 0))), some (.inl l1), some (.inl l2), some (.inl l3), some (.inl l4), some (.inl t0)] [] s) := (ev_go [5, 38, 61] 58 199 38 [some (.inr (.inr (30, 0))), some (.inl l1), some (.inl l2), some (.inl l3), some (.inl l4), none] [(.inl t0)] s).trans rfl
set_option maxRecDepth 20000 in
theorem q_199_at61 (l1 : Int32) (l2 : Int32) (l3 : Int32) (l4 : Int32) (l5 : Int32) (s : SS) : ev 199 61 [some (.inr (.inr (30, 0))), some (.inl l1), some (.inl l2), some (.inl l3), some (.inl l4), some (.inl l5)] [] s = (if ixB l4 8 = true then cI (ev 181 0 [some (.inl (s.1 42 0 l4.toNatClampNeg))] [] s) (fun x1 s1 => (if x1 = 0 then ev 199 5 [some (.inr (.inr (30, 0))), some (.inl l1), some (.inl l2), some (.inl (l3 + 0)), some (.inl (l4 + 1)), none] [] s1 else (if ixB l4 8 = true then ev 199 5 [some (.inr (.inr (30, 0))), some (.inl l1), some (.inl l2), some (.inl (l3 + (l5 * (s1.1 43 0 l4.toNatClampNeg)))), some (.inl (l4 + 1)), none] [] s1 else none))) else none) := (ev_go [5, 38, 61] 58 199 61 [some (.inr (.inr (30, 0))), some (.inl l1), some (.inl l2), some (.inl l3), some (.inl l4), some (.inl l5)] [] s).trans rfl
set_option maxRecDepth 20000 in
theorem q_200 (p0 : Int32) (s : SS) : ev 200 0 [some (.inr (.inr (30, 0))), some (.inl p0), none, none] [] s = ev 200 8 [some (.inr (.inr (30, 0))), some (.inl p0), some (.inl 0), none] [] (wI s 30 0 30 (-9)) := (ev_go [8, 85, 135] 102 200 0 [some (.inr (.inr (30, 0))), some (.inl p0), none, none] [] s).trans rfl
set_option maxRecDepth 20000 in
theorem q_200_at8 (l1 : Int32) (l2 : Int32) (s : SS) : ev 200 8 [some (.inr (.inr (30, 0))), some (.inl l1), some (.inl l2), none] [] s = (if l2 < (s.1 30 0 28) then cI (ev 199 0 [some (.inr (.inr (30, 0))), some (.inl l1), some (.inl l2), none, none, none] [] s) (fun x1 s1 => (if ixB l2 1024 = true then (if ixB l2 1024 = true then (if ((wI s1 52 0 l2.toNatClampNeg x1).1 52 0 l2.toNatClampNeg) < 0 then ev 200 8 [some (.inr (.inr (30, 0))), some (.inl l1), some (.inl (l2 + 1)), none] [] (wI s1 52 0 l2.toNatClampNeg x1) else (if ((wI s1 52 0 l2.toNatClampNeg x1).1 30 0 30) < 0 then (if ixB l2 1024 = true then ev 200 8 [some (.inr (.inr (30, 0))), some (.inl l1), some (.inl (l2 + 1)), none] [] (wI (wI (wI s1 52 0 l2.toNatClampNeg x1) 30 0 30 l2) 30 0 31 ((wI (wI s1 52 0 l2.toNatClampNeg x1) 30 0 30 l2).1 52 0 l2.toNatClampNeg)) else none) else (if ixB l2 1024 = true then (if ((wI s1 52 0 l2.toNatClampNeg x1).1 52 0 l2.toNatClampNeg) < ((wI s1 52 0 l2.toNatClampNeg x1).1 30 0 31) then (if ixB l2 1024 = true then ev 200 8 [some (.inr (.inr (30, 0))), some (.inl l1), some (.inl (l2 + 1)), none] [] (wI (wI (wI s1 52 0 l2.toNatClampNeg x1) 30 0 30 l2) 30 0 31 ((wI (wI s1 52 0 l2.toNatClampNeg x1) 30 0 30 l2).1 52 0 l2.toNatClampNeg)) else none) else ev 200 8 [some (.inr (.inr (30, 0))), some (.inl l1), some (.inl (l2 + 1)), none] [] (wI s1 52 0 l2.toNatClampNeg x1)) else none))) else none) else none)) else ev 200 85 [some (.inr (.inr (30, 0))), none, some (.inl 0), none] [] (wL s 30 0 34 0)) := (ev_go [8, 85, 135] 102 200 8 [some (.inr (.inr (30, 0))), some (.inl l1), some (.inl l2), none] [] s).trans rfl
set_option maxRecDepth 20000 in
theorem q_200_at85 (l2 : Int32) (s : SS) : ev 200 85 [some (.inr (.inr (30, 0))), none, some (.inl l2), none] [] s = (if l2 < (s.1 30 0 28) then (if ixB l2 1024 = true then (if ixB l2 1024 = true then (if (s.1 52 0 l2.toNatClampNeg) < 0 then ev 200 135 [some (.inr (.inr (30, 0))), none, some (.inl l2), none] [(.inr (.inl 0)), (.inl l2), (.inr (.inr (53, 0)))] s else (if 20 < ((s.1 52 0 l2.toNatClampNeg) - (s.1 30 0 31)) then ev 200 135 [some (.inr (.inr (30, 0))), none, some (.inl l2), none] [(.inr (.inl 0)), (.inl l2), (.inr (.inr (53, 0)))] s else ev 200 135 [some (.inr (.inr (30, 0))), none, some (.inl l2), none] [(.inr (.inl ((1 : Int64) <<< ((20 - ((s.1 52 0 l2.toNatClampNeg) - (s.1 30 0 31))).toInt64 &&& 63)))), (.inl l2), (.inr (.inr (53, 0)))] s)) else none) else none) else (if (s.1 30 0 30) < 0 then some (some (.inl 0), s) else some (some (.inl 1), s))) := (ev_go [8, 85, 135] 102 200 85 [some (.inr (.inr (30, 0))), none, some (.inl l2), none] [] s).trans rfl
set_option maxRecDepth 20000 in
theorem q_200_at135 (l2 : Int32) (t0 : Int64) (t1 : Int32) (s : SS) : ev 200 135 [some (.inr (.inr (30, 0))), none, some (.inl l2), none] [(.inr (.inl t0)), (.inl t1), (.inr (.inr (53, 0)))] s = (if ixB t1 1024 = true then (if ixB l2 1024 = true then ev 200 85 [some (.inr (.inr (30, 0))), none, some (.inl (l2 + 1)), none] [] (wL (wL s 53 0 t1.toNatClampNeg t0) 30 0 34 (((wL s 53 0 t1.toNatClampNeg t0).2.1 30 0 34) + ((wL s 53 0 t1.toNatClampNeg t0).2.1 53 0 l2.toNatClampNeg))) else none) else none) := (ev_go [8, 85, 135] 102 200 135 [some (.inr (.inr (30, 0))), none, some (.inl l2), none] [(.inr (.inl t0)), (.inl t1), (.inr (.inr (53, 0)))] s).trans rfl
set_option maxRecDepth 20000 in
theorem q_201  (s : SS) : ev 201 0 [some (.inr (.inr (30, 0)))] [] s = cV (ev 198 0 [some (.inr (.inr (30, 0))), none, none] [] s) (fun s1 => cI (ev 200 0 [some (.inr (.inr (30, 0))), some (.inl 255), none, none] [] s1) (fun x2 s2 => (bif isZ x2 then some (some (.inl x2), s2) else none))) := (ev_go [] 40 201 0 [some (.inr (.inr (30, 0)))] [] s).trans rfl
set_option maxRecDepth 20000 in
theorem q_202 (p0 : Int32) (s : SS) : ev 202 0 [some (.inr (.inr (30, 0))), some (.inl p0), none, none, none] [] s = ev 202 5 [some (.inr (.inr (30, 0))), some (.inl p0), some (.inr (.inl 0)), none, some (.inl 0)] [] s := (ev_go [5] 40 202 0 [some (.inr (.inr (30, 0))), some (.inl p0), none, none, none] [] s).trans rfl
set_option maxRecDepth 20000 in
theorem q_202_at5 (l1 : Int32) (l2 : Int64) (l4 : Int32) (s : SS) : ev 202 5 [some (.inr (.inr (30, 0))), some (.inl l1), some (.inr (.inl l2)), none, some (.inl l4)] [] s = (if l4 < (s.1 30 0 28) then cI (ev 195 0 [some (.inr (.inr (30, 0))), some (.inl l1), some (.inl l4)] [] s) (fun x1 s1 => (if x1 = 0 then ev 202 5 [some (.inr (.inr (30, 0))), some (.inl l1), some (.inr (.inl (l2 + 0))), none, some (.inl (l4 + 1))] [] s1 else (if ixB l4 1024 = true then ev 202 5 [some (.inr (.inr (30, 0))), some (.inl l1), some (.inr (.inl (l2 + (s1.2.1 53 0 l4.toNatClampNeg)))), none, some (.inl (l4 + 1))] [] s1 else none))) else some (some (.inr (.inl l2)), s)) := (ev_go [5] 40 202 5 [some (.inr (.inr (30, 0))), some (.inl l1), some (.inr (.inl l2)), none, some (.inl l4)] [] s).trans rfl
set_option maxRecDepth 20000 in
theorem q_203 (p0 : Int32) (p1 : Int32) (s : SS) : ev 203 0 [some (.inr (.inr (30, 0))), some (.inl p0), some (.inl p1), none, none, none] [] s = ev 203 5 [some (.inr (.inr (30, 0))), some (.inl p0), some (.inl p1), some (.inr (.inl 0)), none, some (.inl 0)] [] s := (ev_go [5] 40 203 0 [some (.inr (.inr (30, 0))), some (.inl p0), some (.inl p1), none, none, none] [] s).trans rfl
set_option maxRecDepth 20000 in
theorem q_203_at5 (l1 : Int32) (l2 : Int32) (l3 : Int64) (l5 : Int32) (s : SS) : ev 203 5 [some (.inr (.inr (30, 0))), some (.inl l1), some (.inl l2), some (.inr (.inl l3)), none, some (.inl l5)] [] s = (if l5 < (s.1 30 0 28) then cI (ev 195 0 [some (.inr (.inr (30, 0))), some (.inl l1), some (.inl l5)] [] s) (fun x1 s1 => (if x1 = 0 then ev 203 5 [some (.inr (.inr (30, 0))), some (.inl l1), some (.inl l2), some (.inr (.inl (l3 + 0))), none, some (.inl (l5 + 1))] [] s1 else cI (ev 195 0 [some (.inr (.inr (30, 0))), some (.inl l2), some (.inl l5)] [] s1) (fun x2 s2 => (if x2 = 0 then ev 203 5 [some (.inr (.inr (30, 0))), some (.inl l1), some (.inl l2), some (.inr (.inl (l3 + 0))), none, some (.inl (l5 + 1))] [] s2 else (if ixB l5 1024 = true then ev 203 5 [some (.inr (.inr (30, 0))), some (.inl l1), some (.inl l2), some (.inr (.inl (l3 + (s2.2.1 53 0 l5.toNatClampNeg)))), none, some (.inl (l5 + 1))] [] s2 else none))))) else some (some (.inr (.inl l3)), s)) := (ev_go [5] 40 203 5 [some (.inr (.inr (30, 0))), some (.inl l1), some (.inl l2), some (.inr (.inl l3)), none, some (.inl l5)] [] s).trans rfl
set_option maxRecDepth 20000 in
theorem q_204  (s : SS) : ev 204 0 [some (.inr (.inr (30, 0)))] [] s = cV (ev 194 0 [some (.inr (.inr (30, 0))), none, none] [] s) (fun s1 => some (some (.inl (s1.1 30 0 28)), s1)) := (ev_go [] 40 204 0 [some (.inr (.inr (30, 0)))] [] s).trans rfl
set_option maxRecDepth 20000 in
theorem q_205 (p0 : Int32) (s : SS) : ev 205 0 [some (.inr (.inr (30, 0))), some (.inl p0)] [] s = cV (ev 194 0 [some (.inr (.inr (30, 0))), none, none] [] s) (fun s1 => cI (ev 144 0 [some (.inl p0), some (.inl 0), some (.inl ((s1.1 30 0 28) - 1))] [] s1) (fun x2 s2 => (bif isZ x2 then some (some (.inl x2), s2) else none))) := (ev_go [] 40 205 0 [some (.inr (.inr (30, 0))), some (.inl p0)] [] s).trans rfl
set_option maxRecDepth 20000 in
theorem q_206 (p0 : Int32) (s : SS) : ev 206 0 [some (.inr (.inr (30, 0))), some (.inl p0), none, none, none, none] [] s = cI (ev 205 0 [some (.inr (.inr (30, 0))), some (.inl p0)] [] s) (fun x1 s1 => (if x1 = 0 then some (some (.inl (-1)), s1) else ev 206 17 [some (.inr (.inr (30, 0))), some (.inl p0), some (.inl 0), some (.inl 0), some (.inl 0), none] [] s1)) := (ev_go [17, 61] 61 206 0 [some (.inr (.inr (30, 0))), some (.inl p0), none, none, none, none] [] s).trans rfl
set_option maxRecDepth 20000 in
theorem q_206_at17 (l1 : Int32) (l2 : Int32) (l3 : Int32) (l4 : Int32) (s : SS) : ev 206 17 [some (.inr (.inr (30, 0))), some (.inl l1), some (.inl l2), some (.inl l3), some (.inl l4), none] [] s = (if l4 < 8 then cI (ev 197 0 [some (.inr (.inr (30, 0))), some (.inl l4), some (.inl l1), none, none, none, none, none, none, none] [] s) (fun x1 s1 => (if ixB l4 8 = true then cI (ev 181 0 [some (.inl (s1.1 42 0 l4.toNatClampNeg))] [] s1) (fun x2 s2 => (if x2 = 0 then ev 206 61 [some (.inr (.inr (30, 0))), some (.inl l1), none, some (.inl l3), some (.inl l4), some (.inl x1)] [(.inl 0), (.inl l2)] s2 else (if ixB l4 8 = true then ev 206 61 [some (.inr (.inr (30, 0))), some (.inl l1), none, some (.inl l3), some (.inl l4), some (.inl x1)] [(.inl ((s2.1 43 0 l4.toNatClampNeg) * x1)), (.inl l2)] s2 else none))) else none)) else cI (ev 146 0 [some (.inr (.inr (30, 0))), some (.inl l3), some (.inl l2)] [] s) (fun x3 s3 => some (some (.inl x3), s3))) := (ev_go [17, 61] 61 206 17 [some (.inr (.inr (30, 0))), some (.inl l1), some (.inl l2), some (.inl l3), some (.inl l4), none] [] s).trans rfl
set_option maxRecDepth 20000 in
theorem q_206_at61 (l1 : Int32) (l3 : Int32) (l4 : Int32) (l5 : Int32) (t0 : Int32) (t1 : Int32) (s : SS) : ev 206 61 [some (.inr (.inr (30, 0))), some (.inl l1), none, some (.inl l3), some (.inl l4), some (.inl l5)] [(.inl t0), (.inl t1)] s = (if ixB l4 8 = true then cI (ev 182 0 [some (.inl (s.1 42 0 l4.toNatClampNeg))] [] s) (fun x1 s1 => (if x1 = 0 then ev 206 17 [some (.inr (.inr (30, 0))), some (.inl l1), some (.inl (t1 + t0)), some (.inl (l3 + 0)), some (.inl (l4 + 1)), none] [] s1 else ev 206 17 [some (.inr (.inr (30, 0))), some (.inl l1), some (.inl (t1 + t0)), some (.inl (l3 + l5)), some (.inl (l4 + 1)), none] [] s1)) else none) := (ev_go [17, 61] 61 206 61 [some (.inr (.inr (30, 0))), some (.inl l1), none, some (.inl l3), some (.inl l4), some (.inl l5)] [(.inl t0), (.inl t1)] s).trans rfl
set_option maxRecDepth 20000 in
theorem q_207 (p0 : Int32) (p1 : Int32) (s : SS) : ev 207 0 [some (.inr (.inr (30, 0))), some (.inl p0), some (.inl p1)] [] s = cI (ev 179 0 [some (.inl p0)] [] s) (fun x1 s1 => (if x1 = 0 then some (some (.inl (-1)), s1) else cI (ev 205 0 [some (.inr (.inr (30, 0))), some (.inl p1)] [] s1) (fun x2 s2 => (if x2 = 0 then some (some (.inl (-1)), s2) else (if ixB p0 8 = true then (if (s2.1 42 0 p0.toNatClampNeg) < 0 then cI (ev 145 0 [some (.inr (.inr (30, 0))), some (.inl 1)] [] s2) (fun x3 s3 => some (some (.inl x3), s3)) else cI (ev 197 0 [some (.inr (.inr (30, 0))), some (.inl p0), some (.inl p1), none, none, none, none, none, none, none] [] s2) (fun x4 s4 => some (some (.inl x4), s4))) else none))))) := (ev_go [] 40 207 0 [some (.inr (.inr (30, 0))), some (.inl p0), some (.inl p1)] [] s).trans rfl
set_option maxRecDepth 20000 in
theorem q_208  (s : SS) : ev 208 0 [some (.inr (.inr (30, 0)))] [] s = cI (ev 201 0 [some (.inr (.inr (30, 0)))] [] s) (fun x1 s1 => (if x1 = 0 then some (some (.inl (-9)), s1) else cI (ev 146 0 [some (.inr (.inr (30, 0))), some (.inl (s1.1 30 0 31)), some (.inl (s1.1 30 0 30))] [] s1) (fun x2 s2 => some (some (.inl x2), s2)))) := (ev_go [] 40 208 0 [some (.inr (.inr (30, 0)))] [] s).trans rfl
set_option maxRecDepth 20000 in
theorem q_209 (p0 : Int32) (s : SS) : ev 209 0 [some (.inr (.inr (30, 0))), some (.inl p0), none, none, none] [] s = cI (ev 144 0 [some (.inl p0), some (.inl 0), some (.inl 999)] [] s) (fun x1 s1 => (if x1 = 0 then some (some (.inl (-1)), s1) else cI (ev 201 0 [some (.inr (.inr (30, 0)))] [] s1) (fun x2 s2 => ev 209 23 [some (.inr (.inr (30, 0))), some (.inl p0), some (.inl 0), some (.inl x2), some (.inl 0)] [] s2))) := (ev_go [23] 49 209 0 [some (.inr (.inr (30, 0))), some (.inl p0), none, none, none] [] s).trans rfl
set_option maxRecDepth 20000 in
theorem q_209_at23 (l1 : Int32) (l2 : Int32) (l3 : Int32) (l4 : Int32) (s : SS) : ev 209 23 [some (.inr (.inr (30, 0))), some (.inl l1), some (.inl l2), some (.inl l3), some (.inl l4)] [] s = (if l4 < (s.1 30 0 28) then (if l3 = 0 then some (some (.inl l2), s) else (if ixB l4 1024 = true then (if (s.1 52 0 l4.toNatClampNeg) < 0 then ev 209 23 [some (.inr (.inr (30, 0))), some (.inl l1), some (.inl (l2 + 0)), some (.inl l3), some (.inl (l4 + 1))] [] s else (if ixB l4 1024 = true then (if l1 < ((s.1 52 0 l4.toNatClampNeg) - (s.1 30 0 31)) then ev 209 23 [some (.inr (.inr (30, 0))), some (.inl l1), some (.inl (l2 + 0)), some (.inl l3), some (.inl (l4 + 1))] [] s else ev 209 23 [some (.inr (.inr (30, 0))), some (.inl l1), some (.inl (l2 + 1)), some (.inl l3), some (.inl (l4 + 1))] [] s) else none)) else none)) else some (some (.inl l2), s)) := (ev_go [23] 49 209 23 [some (.inr (.inr (30, 0))), some (.inl l1), some (.inl l2), some (.inl l3), some (.inl l4)] [] s).trans rfl
set_option maxRecDepth 20000 in
theorem q_210 (p0 : Int32) (s : SS) : ev 210 0 [some (.inr (.inr (30, 0))), some (.inl p0)] [] s = cI (ev 163 0 [some (.inl p0)] [] s) (fun x1 s1 => (if x1 = 0 then some (some (.inl (-1)), s1) else cI (ev 201 0 [some (.inr (.inr (30, 0)))] [] s1) (fun x2 s2 => (if x2 = 0 then cI (ev 145 0 [some (.inr (.inr (30, 0))), some (.inl 4)] [] s2) (fun x3 s3 => some (some (.inl x3), s3)) else cL (ev 202 0 [some (.inr (.inr (30, 0))), some (.inl p0), none, none, none] [] s2) (fun x4 s4 => cI (ev 149 0 [some (.inr (.inr (30, 0))), some (.inr (.inl x4)), none, some (.inr (.inl (s4.2.1 30 0 34))), none, some (.inl 1), none, none, none, none, none, none] [] s4) (fun x5 s5 => some (some (.inl x5), s5))))))) := (ev_go [] 40 210 0 [some (.inr (.inr (30, 0))), some (.inl p0)] [] s).trans rfl
set_option maxRecDepth 20000 in
theorem q_211 (p0 : Int32) (p1 : Int32) (s : SS) : ev 211 0 [some (.inr (.inr (30, 0))), some (.inl p0), some (.inl p1)] [] s = cI (ev 163 0 [some (.inl p0)] [] s) (fun x1 s1 => (if x1 = 0 then some (some (.inl (-1)), s1) else cI (ev 163 0 [some (.inl p1)] [] s1) (fun x2 s2 => (if x2 = 0 then some (some (.inl (-1)), s2) else cI (ev 201 0 [some (.inr (.inr (30, 0)))] [] s2) (fun x3 s3 => (if x3 = 0 then cI (ev 145 0 [some (.inr (.inr (30, 0))), some (.inl 4)] [] s3) (fun x4 s4 => some (some (.inl x4), s4)) else cL (ev 203 0 [some (.inr (.inr (30, 0))), some (.inl p0), some (.inl p1), none, none, none] [] s3) (fun x5 s5 => cI (ev 149 0 [some (.inr (.inr (30, 0))), some (.inr (.inl x5)), none, some (.inr (.inl (s5.2.1 30 0 34))), none, some (.inl 1), none, none, none, none, none, none] [] s5) (fun x6 s6 => some (some (.inl x6), s6))))))))) := (ev_go [] 40 211 0 [some (.inr (.inr (30, 0))), some (.inl p0), some (.inl p1)] [] s).trans rfl
set_option maxRecDepth 20000 in
theorem q_212 (p0 : Int32) (p1 : Int32) (s : SS) : ev 212 0 [some (.inr (.inr (30, 0))), some (.inl p0), some (.inl p1), none] [] s = cI (ev 163 0 [some (.inl p0)] [] s) (fun x1 s1 => (if x1 = 0 then some (some (.inl (-1)), s1) else cI (ev 163 0 [some (.inl p1)] [] s1) (fun x2 s2 => (if x2 = 0 then some (some (.inl (-1)), s2) else cI (ev 201 0 [some (.inr (.inr (30, 0)))] [] s2) (fun x3 s3 => (if x3 = 0 then ev 212 38 [some (.inr (.inr (30, 0))), some (.inl p0), some (.inl p1), none] [(.inl 0)] s3 else cL (ev 202 0 [some (.inr (.inr (30, 0))), some (.inl p1), none, none, none] [] s3) (fun x4 s4 => (if 0 < (lg_cmp x4 0) then ev 212 38 [some (.inr (.inr (30, 0))), some (.inl p0), some (.inl p1), none] [(.inl 1)] s4 else ev 212 38 [some (.inr (.inr (30, 0))), some (.inl p0), some (.inl p1), none] [(.inl 0)] s4)))))))) := (ev_go [38] 43 212 0 [some (.inr (.inr (30, 0))), some (.inl p0), some (.inl p1), none] [] s).trans rfl
set_option maxRecDepth 20000 in
theorem q_212_at38 (l1 : Int32) (l2 : Int32) (t0 : Int32) (s : SS) : ev 212 38 [some (.inr (.inr (30, 0))), some (.inl l1), some (.inl l2), none] [(.inl t0)] s = (if t0 = 0 then cI (ev 145 0 [some (.inr (.inr (30, 0))), some (.inl 4)] [] s) (fun x1 s1 => some (some (.inl x1), s1)) else cL (ev 203 0 [some (.inr (.inr (30, 0))), some (.inl l1), some (.inl l2), none, none, none] [] s) (fun x2 s2 => cL (ev 202 0 [some (.inr (.inr (30, 0))), some (.inl l2), none, none, none] [] s2) (fun x3 s3 => cI (ev 149 0 [some (.inr (.inr (30, 0))), some (.inr (.inl x2)), none, some (.inr (.inl x3)), none, some (.inl 1), none, none, none, none, none, none] [] s3) (fun x4 s4 => some (some (.inl x4), s4))))) := (ev_go [38] 43 212 38 [some (.inr (.inr (30, 0))), some (.inl l1), some (.inl l2), none] [(.inl t0)] s).trans rfl
set_option maxRecDepth 20000 in
theorem q_213 (p0 : Int32) (p1 : Int32) (p2 : Int32) (s : SS) : ev 213 0 [some (.inl p0), some (.inl p1), some (.inl p2)] [] s = (if p0 = p1 then some (some (.inl p2), s) else (if p0 = p2 then some (some (.inl p1), s) else some (some (.inl p0), s))) := (ev_go [] 40 213 0 [some (.inl p0), some (.inl p1), some (.inl p2)] [] s).trans rfl
set_option maxRecDepth 20000 in
theorem q_214 (p0 : Int32) (p1 : Int32) (s : SS) : ev 214 0 [some (.inr (.inr (30, 0))), some (.inl p0), some (.inl p1), none, none, none] [] s = cI (ev 144 0 [some (.inl p0), some (.inl 0), some (.inl ((s.1 30 0 10) - 1))] [] s) (fun x1 s1 => (if x1 = 0 then some (some (.inl (-1)), s1) else cI (ev 144 0 [some (.inl p1), some (.inl 0), some (.inl ((s1.1 30 0 10) - 1))] [] s1) (fun x2 s2 => (if x2 = 0 then some (some (.inl (-1)), s2) else ev 214 35 [some (.inr (.inr (30, 0))), some (.inl p0), some (.inl p1), some (.inl 1), some (.inl 0), none] [] s2)))) := (ev_go [35, 97] 87 214 0 [some (.inr (.inr (30, 0))), some (.inl p0), some (.inl p1), none, none, none] [] s).trans rfl
set_option maxRecDepth 20000 in
theorem q_214_at35 (l1 : Int32) (l2 : Int32) (l3 : Int32) (l4 : Int32) (s : SS) : ev 214 35 [some (.inr (.inr (30, 0))), some (.inl l1), some (.inl l2), some (.inl l3), some (.inl l4), none] [] s = (if l4 < 28 then (if l4 < 12 then (if (4 : Int32) = 0 then none else (if (4 : Int32) = 0 then none else cI (ev 213 0 [some (.inl (l4 - l4 / 4 * 4)), some (.inl l1), some (.inl l2)] [] s) (fun x1 s1 => cI (ev 191 0 [some (.inl (l4 / 4)), some (.inl x1), some (.inl 0)] [] s1) (fun x2 s2 => ev 214 97 [some (.inr (.inr (30, 0))), some (.inl l1), some (.inl l2), some (.inl l3), some (.inl l4), none] [(.inl x2)] s2)))) else (if (4 : Int32) = 0 then none else cI (ev 213 0 [some (.inl ((l4 - 12) / 4)), some (.inl l1), some (.inl l2)] [] s) (fun x3 s3 => (if (4 : Int32) = 0 then none else cI (ev 213 0 [some (.inl ((l4 - 12) - (l4 - 12) / 4 * 4)), some (.inl l1), some (.inl l2)] [] s3) (fun x4 s4 => cI (ev 191 0 [some (.inl 3), some (.inl x3), some (.inl x4)] [] s4) (fun x5 s5 => ev 214 97 [some (.inr (.inr (30, 0))), some (.inl l1), some (.inl l2), some (.inl l3), some (.inl l4), none] [(.inl x5)] s5)))))) else (if l3 = 0 then some (some (.inl 0), s) else some (some (.inl 1), s))) := (ev_go [35, 97] 87 214 35 [some (.inr (.inr (30, 0))), some (.inl l1), some (.inl l2), some (.inl l3), some (.inl l4), none] [] s).trans rfl
set_option maxRecDepth 20000 in
theorem q_214_at97 (l1 : Int32) (l2 : Int32) (l3 : Int32) (l4 : Int32) (t0 : Int32) (s : SS) : ev 214 97 [some (.inr (.inr (30, 0))), some (.inl l1), some (.inl l2), some (.inl l3), some (.inl l4), none] [(.inl t0)] s = (if l3 = 0 then ev 214 35 [some (.inr (.inr (30, 0))), some (.inl l1), some (.inl l2), some (.inl 0), some (.inl (l4 + 1)), none] [] s else (if ixB l4 28 = true then (if ixB t0 28 = true then (if (s.1 37 0 l4.toNatClampNeg) = (s.1 37 0 t0.toNatClampNeg) then ev 214 35 [some (.inr (.inr (30, 0))), some (.inl l1), some (.inl l2), some (.inl 1), some (.inl (l4 + 1)), none] [] s else ev 214 35 [some (.inr (.inr (30, 0))), some (.inl l1), some (.inl l2), some (.inl 0), some (.inl (l4 + 1)), none] [] s) else none) else none)) := (ev_go [35, 97] 87 214 97 [some (.inr (.inr (30, 0))), some (.inl l1), some (.inl l2), some (.inl l3), some (.inl l4), none] [(.inl t0)] s).trans rfl
set_option maxRecDepth 20000 in
theorem q_215 (p0 : Int32) (p1 : Int32) (p2 : Int32) (s : SS) : ev 215 0 [some (.inr (.inr (30, 0))), some (.inl p0), some (.inl p1), some (.inl p2), none, none, none, none, none, none, none, none, none, none] [] s = cI (ev 144 0 [some (.inl p1), some (.inl 1), some (.inl 200)] [] s) (fun x1 s1 => (if x1 = 0 then some (some (.inl (-1)), s1) else cI (ev 163 0 [some (.inl p2)] [] s1) (fun x2 s2 => (if x2 = 0 then some (some (.inl (-1)), s2) else cI (ev 201 0 [some (.inr (.inr (30, 0)))] [] s2) (fun x3 s3 => (if x3 = 0 then cI (ev 145 0 [some (.inr (.inr (30, 0))), some (.inl 4)] [] s3) (fun x4 s4 => some (some (.inl x4), s4)) else ev 215 45 [some (.inr (.inr (30, 0))), none, some (.inl p1), some (.inl p2), some (.inl p0), some (.inl 0), some (.inl 0), some (.inl 0), none, none, none, none, none, none] [] s3)))))) := (ev_go [45, 129] 108 215 0 [some (.inr (.inr (30, 0))), some (.inl p0), some (.inl p1), some (.inl p2), none, none, none, none, none, none, none, none, none, none] [] s).trans rfl
set_option maxRecDepth 20000 in
theorem q_215_at45 (l2 : Int32) (l3 : Int32) (l4 : Int32) (l5 : Int32) (l6 : Int32) (l7 : Int32) (s : SS) : ev 215 45 [some (.inr (.inr (30, 0))), none, some (.inl l2), some (.inl l3), some (.inl l4), some (.inl l5), some (.inl l6), some (.inl l7), none, none, none, none, none, none] [] s = (if l7 < l2 then (if ixB (0 : Int32) 1024 = true then ev 215 129 [some (.inr (.inr (30, 0))), none, some (.inl l2), some (.inl l3), some (.inl ((((l4 * 1103515245) + 12345) * 1103515245) + 12345)), some (.inl l5), some (.inl 0), some (.inl l7), none, none, some (.inr (.inl ((((32768 * (((((l4 * 1103515245) + 12345) >>> ((16 : Int32) &&& 31)) &&& 32767).toInt64)) + (((((((l4 * 1103515245) + 12345) * 1103515245) + 12345) >>> ((16 : Int32) &&& 31)) &&& 32767).toInt64)) * (s.2.1 30 0 34)) >>> ((30 : Int32).toInt64 &&& 63)))), none, some (.inr (.inl (s.2.1 53 0 (0 : Int32).toNatClampNeg))), none] [] s else none) else cI (ev 146 0 [some (.inr (.inr (30, 0))), some (.inl l6), some (.inl l5)] [] s) (fun x1 s1 => some (some (.inl x1), s1))) := (ev_go [45, 129] 108 215 45 [some (.inr (.inr (30, 0))), none, some (.inl l2), some (.inl l3), some (.inl l4), some (.inl l5), some (.inl l6), some (.inl l7), none, none, none, none, none, none] [] s).trans rfl
set_option maxRecDepth 20000 in
theorem q_215_at129 (l2 : Int32) (l3 : Int32) (l4 : Int32) (l5 : Int32) (l6 : Int32) (l7 : Int32) (l10 : Int64) (l12 : Int64) (s : SS) : ev 215 129 [some (.inr (.inr (30, 0))), none, some (.inl l2), some (.inl l3), some (.inl l4), some (.inl l5), some (.inl l6), some (.inl l7), none, none, some (.inr (.inl l10)), none, some (.inr (.inl l12)), none] [] s = (if 0 < (lg_cmp l12 l10) then cI (ev 195 0 [some (.inr (.inr (30, 0))), some (.inl l3), some (.inl l6)] [] s) (fun x1 s1 => (if x1 = 0 then ev 215 45 [some (.inr (.inr (30, 0))), none, some (.inl l2), some (.inl l3), some (.inl l4), some (.inl (l5 + 0)), some (.inl l6), some (.inl (l7 + 1)), none, none, none, none, none, none] [] s1 else ev 215 45 [some (.inr (.inr (30, 0))), none, some (.inl l2), some (.inl l3), some (.inl l4), some (.inl (l5 + 1)), some (.inl l6), some (.inl (l7 + 1)), none, none, none, none, none, none] [] s1)) else (if ixB (l6 + 1) 1024 = true then ev 215 129 [some (.inr (.inr (30, 0))), none, some (.inl l2), some (.inl l3), some (.inl l4), some (.inl l5), some (.inl (l6 + 1)), some (.inl l7), none, none, some (.inr (.inl l10)), none, some (.inr (.inl (l12 + (s.2.1 53 0 (l6 + 1).toNatClampNeg)))), none] [] s else none)) := (ev_go [45, 129] 108 215 129 [some (.inr (.inr (30, 0))), none, some (.inl l2), some (.inl l3), some (.inl l4), some (.inl l5), some (.inl l6), some (.inl l7), none, none, some (.inr (.inl l10)), none, some (.inr (.inl l12)), none] [] s).trans rfl
set_option maxRecDepth 20000 in
theorem q_216 (p0 : Int64) (p1 : Int64) (p2 : Int64) (p3 : Int64) (s : SS) : ev 216 0 [some (.inr (.inl p0)), none, some (.inr (.inl p1)), none, some (.inr (.inl p2)), none, some (.inr (.inl p3)), none, none, none, none, none, none, none, none, none, none, none, none] [] s = ev 216 17 [none, none, none, none, none, none, none, none, some (.inr (.inl p0)), none, some (.inr (.inl p1)), none, some (.inr (.inl p2)), none, some (.inr (.inl p3)), none, some (.inl 0), none, none] [] s := (ev_go [17, 59] 101 216 0 [some (.inr (.inl p0)), none, some (.inr (.inl p1)), none, some (.inr (.inl p2)), none, some (.inr (.inl p3)), none, none, none, none, none, none, none, none, none, none, none, none] [] s).trans rfl
set_option maxRecDepth 20000 in
theorem q_216_at17 (l8 : Int64) (l10 : Int64) (l12 : Int64) (l14 : Int64) (l16 : Int32) (s : SS) : ev 216 17 [none, none, none, none, none, none, none, none, some (.inr (.inl l8)), none, some (.inr (.inl l10)), none, some (.inr (.inl l12)), none, some (.inr (.inl l14)), none, some (.inl l16), none, none] [] s = (if (l10 : Int64) = 0 then none else (if (l14 : Int64) = 0 then none else (if (lg_cmp (l8 / l10) (l12 / l14)) = 0 then (if (l10 : Int64) = 0 then none else (if (l14 : Int64) = 0 then none else (if (lg_cmp (l8 - l8 / l10 * l10) 0) = 0 then ev 216 59 [none, none, none, none, none, none, none, none, some (.inr (.inl (l8 - l8 / l10 * l10))), none, none, none, some (.inr (.inl (l12 - l12 / l14 * l14))), none, none, none, some (.inl l16), none, none] [] s else (if (lg_cmp (l12 - l12 / l14 * l14) 0) = 0 then ev 216 59 [none, none, none, none, none, none, none, none, some (.inr (.inl (l8 - l8 / l10 * l10))), none, none, none, some (.inr (.inl (l12 - l12 / l14 * l14))), none, none, none, some (.inl l16), none, none] [] s else (if l16 = 0 then ev 216 17 [none, none, none, none, none, none, none, none, some (.inr (.inl l10)), none, some (.inr (.inl (l8 - l8 / l10 * l10))), none, some (.inr (.inl l14)), none, some (.inr (.inl (l12 - l12 / l14 * l14))), none, some (.inl 1), none, none] [] s else ev 216 17 [none, none, none, none, none, none, none, none, some (.inr (.inl l10)), none, some (.inr (.inl (l8 - l8 / l10 * l10))), none, some (.inr (.inl l14)), none, some (.inr (.inl (l12 - l12 / l14 * l14))), none, some (.inl 0), none, none] [] s))))) else (if (l10 : Int64) = 0 then none else (if (l14 : Int64) = 0 then none else (if (lg_cmp (l8 / l10) (l12 / l14)) < 0 then (if l16 = 1 then some (some (.inl 0), s) else some (some (.inl 1), s)) else (if l16 = 0 then some (some (.inl 0), s) else some (some (.inl 1), s)))))))) := (ev_go [17, 59] 101 216 17 [none, none, none, none, none, none, none, none, some (.inr (.inl l8)), none, some (.inr (.inl l10)), none, some (.inr (.inl l12)), none, some (.inr (.inl l14)), none, some (.inl l16), none, none] [] s).trans rfl
set_option maxRecDepth 20000 in
theorem q_216_at59 (l8 : Int64) (l12 : Int64) (l16 : Int32) (s : SS) : ev 216 59 [none, none, none, none, none, none, none, none, some (.inr (.inl l8)), none, none, none, some (.inr (.inl l12)), none, none, none, some (.inl l16), none, none] [] s = (if l16 = 0 then (if (lg_cmp l8 0) = 0 then (if (lg_cmp l12 0) = 0 then some (some (.inl 0), s) else some (some (.inl 1), s)) else some (some (.inl 0), s)) else (if (lg_cmp l8 0) = 0 then some (some (.inl 0), s) else (if (lg_cmp l12 0) = 0 then some (some (.inl 1), s) else some (some (.inl 0), s)))) := (ev_go [17, 59] 101 216 59 [none, none, none, none, none, none, none, none, some (.inr (.inl l8)), none, none, none, some (.inr (.inl l12)), none, none, none, some (.inl l16), none, none] [] s).trans rfl
set_option maxRecDepth 20000 in
theorem q_217 (p0 : Int32) (p1 : Int32) (p2 : Int32) (s : SS) : ev 217 0 [some (.inr (.inr (30, 0))), some (.inl p0), some (.inl p1), some (.inl p2), none, none, none] [] s = ev 217 9 [some (.inr (.inr (30, 0))), some (.inl p0), some (.inl p1), none, some (.inl 0), some (.inl p2), some (.inl 0)] [] s := (ev_go [9] 41 217 0 [some (.inr (.inr (30, 0))), some (.inl p0), some (.inl p1), some (.inl p2), none, none, none] [] s).trans rfl
set_option maxRecDepth 20000 in
theorem q_217_at9 (l1 : Int32) (l2 : Int32) (l4 : Int32) (l5 : Int32) (l6 : Int32) (s : SS) : ev 217 9 [some (.inr (.inr (30, 0))), some (.inl l1), some (.inl l2), none, some (.inl l4), some (.inl l5), some (.inl l6)] [] s = (if l6 < 8 then cI (ev 147 0 [some (.inl l1), some (.inl l6)] [] s) (fun x1 s1 => (if x1 = 0 then ev 217 9 [some (.inr (.inr (30, 0))), some (.inl l1), some (.inl l2), none, some (.inl l4), some (.inl l5), some (.inl (l6 + 1))] [] s1 else (if ixB l6 8 = true then (if ixB l6 8 = true then ev 217 9 [some (.inr (.inr (30, 0))), some (.inl l1), some (.inl l2), none, some (.inl (l4 + ((wI s1 43 0 l6.toNatClampNeg ((l2 >>> ((2 * (l5 + (-1))) &&& 31)) &&& 3)).1 43 0 l6.toNatClampNeg))), some (.inl (l5 + (-1))), some (.inl (l6 + 1))] [] (wI s1 43 0 l6.toNatClampNeg ((l2 >>> ((2 * (l5 + (-1))) &&& 31)) &&& 3)) else none) else none))) else some (some (.inl l4), s)) := (ev_go [9] 41 217 9 [some (.inr (.inr (30, 0))), some (.inl l1), some (.inl l2), none, some (.inl l4), some (.inl l5), some (.inl l6)] [] s).trans rfl
set_option maxRecDepth 20000 in
theorem q_218 (p0 : Int32) (p1 : Int32) (p2 : Int32) (s : SS) : ev 218 0 [some (.inr (.inr (30, 0))), some (.inl p0), some (.inl p1), some (.inl p2), none, none, none, none, none, none, none, none, none, none, none, none, none, none, none, none] [] s = cI (ev 205 0 [some (.inr (.inr (30, 0))), some (.inl p0)] [] s) (fun x1 s1 => (if x1 = 0 then some (some (.inl (-1)), s1) else cI (ev 144 0 [some (.inl p1), some (.inl 1), some (.inl 255)] [] s1) (fun x2 s2 => (if x2 = 0 then some (some (.inl (-1)), s2) else cI (ev 148 0 [some (.inl p1), none, none] [] s2) (fun x3 s3 => (if 3 < x3 then some (some (.inl (-1)), s3) else cI (ev 144 0 [some (.inl p2), some (.inl 0), some (.inl 2)] [] s3) (fun x4 s4 => (if x4 = 0 then some (some (.inl (-1)), s4) else ev 218 47 [some (.inr (.inr (30, 0))), some (.inl p0), some (.inl p1), some (.inl p2), some (.inl 1), some (.inl 1), some (.inl 0), none, none, none, none, none, none, none, none, none, none, none, none, none] [] s4)))))))) := (ev_go [47, 83, 194, 269, 304, 328, 372] 227 218 0 [some (.inr (.inr (30, 0))), some (.inl p0), some (.inl p1), some (.inl p2), none, none, none, none, none, none, none, none, none, none, none, none, none, none, none, none] [] s).trans rfl
set_option maxRecDepth 20000 in
theorem q_218_at47 (l1 : Int32) (l2 : Int32) (l3 : Int32) (l4 : Int32) (l5 : Int32) (l6 : Int32) (s : SS) : ev 218 47 [some (.inr (.inr (30, 0))), some (.inl l1), some (.inl l2), some (.inl l3), some (.inl l4), some (.inl l5), some (.inl l6), none, none, none, none, none, none, none, none, none, none, none, none, none] [] s = (if l6 < 8 then (if l4 = 0 then ev 218 83 [some (.inr (.inr (30, 0))), some (.inl l1), some (.inl l2), some (.inl l3), none, some (.inl l5), some (.inl l6), none, none, none, none, none, none, none, none, none, none, none, none, none] [(.inl 0)] s else cI (ev 147 0 [some (.inl l2), some (.inl l6)] [] s) (fun x1 s1 => (if x1 = 0 then ev 218 83 [some (.inr (.inr (30, 0))), some (.inl l1), some (.inl l2), some (.inl l3), none, some (.inl l5), some (.inl l6), none, none, none, none, none, none, none, none, none, none, none, none, none] [(.inl 1)] s1 else (if ixB l6 8 = true then (if (s1.1 42 0 l6.toNatClampNeg) < 0 then ev 218 83 [some (.inr (.inr (30, 0))), some (.inl l1), some (.inl l2), some (.inl l3), none, some (.inl l5), some (.inl l6), none, none, none, none, none, none, none, none, none, none, none, none, none] [(.inl 0)] s1 else ev 218 83 [some (.inr (.inr (30, 0))), some (.inl l1), some (.inl l2), some (.inl l3), none, some (.inl l5), some (.inl l6), none, none, none, none, none, none, none, none, none, none, none, none, none] [(.inl 1)] s1) else none)))) else (if l4 = 0 then cI (ev 145 0 [some (.inr (.inr (30, 0))), some (.inl 1)] [] s) (fun x2 s2 => some (some (.inl x2), s2)) else (if l5 = 0 then cI (ev 145 0 [some (.inr (.inr (30, 0))), some (.inl 3)] [] s) (fun x3 s3 => some (some (.inl x3), s3)) else cI (ev 201 0 [some (.inr (.inr (30, 0)))] [] s) (fun x4 s4 => (if x4 = 0 then cI (ev 145 0 [some (.inr (.inr (30, 0))), some (.inl 4)] [] s4) (fun x5 s5 => some (some (.inl x5), s5)) else (if ixB l1 1024 = true then (if (s4.1 52 0 l1.toNatClampNeg) < 0 then some (some (.inl (-4)), s4) else cI (ev 148 0 [some (.inl l2), none, none] [] s4) (fun x6 s6 => ev 218 194 [some (.inr (.inr (30, 0))), some (.inl l1), some (.inl l2), some (.inl l3), none, none, some (.inl x6), some (.inl (-9)), some (.inl 0), some (.inr (.inl 0)), none, some (.inr (.inl 1)), none, some (.inl 0), none, none, none, none, none, none] [] s6)) else none)))))) := (ev_go [47, 83, 194, 269, 304, 328, 372] 227 218 47 [some (.inr (.inr (30, 0))), some (.inl l1), some (.inl l2), some (.inl l3), some (.inl l4), some (.inl l5), some (.inl l6), none, none, none, none, none, none, none, none, none, none, none, none, none] [] s).trans rfl
set_option maxRecDepth 20000 in
theorem q_218_at83 (l1 : Int32) (l2 : Int32) (l3 : Int32) (l5 : Int32) (l6 : Int32) (t0 : Int32) (s : SS) : ev 218 83 [some (.inr (.inr (30, 0))), some (.inl l1), some (.inl l2), some (.inl l3), none, some (.inl l5), some (.inl l6), none, none, none, none, none, none, none, none, none, none, none, none, none] [(.inl t0)] s = (if l5 = 0 then ev 218 47 [some (.inr (.inr (30, 0))), some (.inl l1), some (.inl l2), some (.inl l3), some (.inl t0), some (.inl 0), some (.inl (l6 + 1)), none, none, none, none, none, none, none, none, none, none, none, none, none] [] s else cI (ev 147 0 [some (.inl l2), some (.inl l6)] [] s) (fun x1 s1 => (if x1 = 0 then ev 218 47 [some (.inr (.inr (30, 0))), some (.inl l1), some (.inl l2), some (.inl l3), some (.inl t0), some (.inl 1), some (.inl (l6 + 1)), none, none, none, none, none, none, none, none, none, none, none, none, none] [] s1 else (if ixB l6 8 = true then cI (ev 181 0 [some (.inl (s1.1 42 0 l6.toNatClampNeg))] [] s1) (fun x2 s2 => (if x2 = 0 then ev 218 47 [some (.inr (.inr (30, 0))), some (.inl l1), some (.inl l2), some (.inl l3), some (.inl t0), some (.inl 0), some (.inl (l6 + 1)), none, none, none, none, none, none, none, none, none, none, none, none, none] [] s2 else ev 218 47 [some (.inr (.inr (30, 0))), some (.inl l1), some (.inl l2), some (.inl l3), some (.inl t0), some (.inl 1), some (.inl (l6 + 1)), none, none, none, none, none, none, none, none, none, none, none, none, none] [] s2)) else none)))) := (ev_go [47, 83, 194, 269, 304, 328, 372] 227 218 83 [some (.inr (.inr (30, 0))), some (.inl l1), some (.inl l2), some (.inl l3), none, some (.inl l5), some (.inl l6), none, none, none, none, none, none, none, none, none, none, none, none, none] [(.inl t0)] s).trans rfl
set_option maxRecDepth 20000 in
theorem q_218_at194 (l1 : Int32) (l2 : Int32) (l3 : Int32) (l6 : Int32) (l7 : Int32) (l8 : Int32) (l9 : Int64) (l11 : Int64) (l13 : Int32) (s : SS) : ev 218 194 [some (.inr (.inr (30, 0))), some (.inl l1), some (.inl l2), some (.inl l3), none, none, some (.inl l6), some (.inl l7), some (.inl l8), some (.inr (.inl l9)), none, some (.inr (.inl l11)), none, some (.inl l13), none, none, none, none, none, none] [] s = (if l13 < ((1 : Int32) <<< ((2 * l6) &&& 31)) then cI (ev 217 0 [some (.inr (.inr (30, 0))), some (.inl l2), some (.inl l13), some (.inl l6), none, none, none] [] s) (fun x1 s1 => cI (ev 200 0 [some (.inr (.inr (30, 0))), some (.inl 255), none, none] [] s1) (fun x2 s2 => (if l7 < 0 then ev 218 269 [some (.inr (.inr (30, 0))), some (.inl l1), some (.inl l2), some (.inl l3), none, none, some (.inl l6), some (.inl l7), some (.inl l8), some (.inr (.inl l9)), none, some (.inr (.inl l11)), none, some (.inl l13), some (.inl x1), some (.inl x2), some (.inr (.inl ((s2.2.1 30 0 34) <<< ((l3 * x1).toInt64 &&& 63)))), none, none, none] [(.inl 1)] s2 else (if ixB l1 1024 = true then cI (ev 216 0 [some (.inr (.inl l9)), none, some (.inr (.inl (l11 <<< ((l3 * l8).toInt64 &&& 63)))), none, some (.inr (.inl (s2.2.1 53 0 l1.toNatClampNeg))), none, some (.inr (.inl ((s2.2.1 30 0 34) <<< ((l3 * x1).toInt64 &&& 63)))), none, none, none, none, none, none, none, none, none, none, none, none] [] s2) (fun x3 s3 => (if x3 = 0 then ev 218 269 [some (.inr (.inr (30, 0))), some (.inl l1), some (.inl l2), some (.inl l3), none, none, some (.inl l6), some (.inl l7), some (.inl l8), some (.inr (.inl l9)), none, some (.inr (.inl l11)), none, some (.inl l13), some (.inl x1), some (.inl x2), some (.inr (.inl ((s2.2.1 30 0 34) <<< ((l3 * x1).toInt64 &&& 63)))), none, none, none] [(.inl 0)] s3 else ev 218 269 [some (.inr (.inr (30, 0))), some (.inl l1), some (.inl l2), some (.inl l3), none, none, some (.inl l6), some (.inl l7), some (.inl l8), some (.inr (.inl l9)), none, some (.inr (.inl l11)), none, some (.inl l13), some (.inl x1), some (.inl x2), some (.inr (.inl ((s2.2.1 30 0 34) <<< ((l3 * x1).toInt64 &&& 63)))), none, none, none] [(.inl 1)] s3)) else none)))) else cI (ev 217 0 [some (.inr (.inr (30, 0))), some (.inl l2), some (.inl l7), some (.inl l6), none, none, none] [] s) (fun x4 s4 => ev 218 372 [some (.inr (.inr (30, 0))), none, some (.inl l2), none, none, none, none, none, none, some (.inr (.inl l9)), none, some (.inr (.inl l11)), none, some (.inl 0), some (.inl 0), none, none, none, none, none] [] s4)) := (ev_go [47, 83, 194, 269, 304, 328, 372] 227 218 194 [some (.inr (.inr (30, 0))), some (.inl l1), some (.inl l2), some (.inl l3), none, none, some (.inl l6), some (.inl l7), some (.inl l8), some (.inr (.inl l9)), none, some (.inr (.inl l11)), none, some (.inl l13), none, none, none, none, none, none] [] s).trans rfl
set_option maxRecDepth 20000 in
theorem q_218_at269 (l1 : Int32) (l2 : Int32) (l3 : Int32) (l6 : Int32) (l7 : Int32) (l8 : Int32) (l9 : Int64) (l11 : Int64) (l13 : Int32) (l14 : Int32) (l15 : Int32) (l16 : Int64) (t0 : Int32) (s : SS) : ev 218 269 [some (.inr (.inr (30, 0))), some (.inl l1), some (.inl l2), some (.inl l3), none, none, some (.inl l6), some (.inl l7), some (.inl l8), some (.inr (.inl l9)), none, some (.inr (.inl l11)), none, some (.inl l13), some (.inl l14), some (.inl l15), some (.inr (.inl l16)), none, none, none] [(.inl t0)] s = (if t0 = 0 then (if ixB l1 1024 = true then cI (ev 216 0 [some (.inr (.inl (s.2.1 53 0 l1.toNatClampNeg))), none, some (.inr (.inl l16)), none, some (.inr (.inl l9)), none, some (.inr (.inl (l11 <<< ((l3 * l8).toInt64 &&& 63)))), none, none, none, none, none, none, none, none, none, none, none, none] [] s) (fun x1 s1 => (if x1 = 0 then ev 218 304 [some (.inr (.inr (30, 0))), some (.inl l1), some (.inl l2), some (.inl l3), none, none, some (.inl l6), some (.inl l7), some (.inl l8), some (.inr (.inl l9)), none, some (.inr (.inl l11)), none, some (.inl l13), some (.inl l14), some (.inl l15), none, none, some (.inl t0), none] [(.inl 1)] s1 else ev 218 304 [some (.inr (.inr (30, 0))), some (.inl l1), some (.inl l2), some (.inl l3), none, none, some (.inl l6), some (.inl l7), some (.inl l8), some (.inr (.inl l9)), none, some (.inr (.inl l11)), none, some (.inl l13), some (.inl l14), some (.inl l15), none, none, some (.inl t0), none] [(.inl 0)] s1)) else none) else ev 218 304 [some (.inr (.inr (30, 0))), some (.inl l1), some (.inl l2), some (.inl l3), none, none, some (.inl l6), some (.inl l7), some (.inl l8), some (.inr (.inl l9)), none, some (.inr (.inl l11)), none, some (.inl l13), some (.inl l14), some (.inl l15), none, none, some (.inl t0), none] [(.inl 0)] s) := (ev_go [47, 83, 194, 269, 304, 328, 372] 227 218 269 [some (.inr (.inr (30, 0))), some (.inl l1), some (.inl l2), some (.inl l3), none, none, some (.inl l6), some (.inl l7), some (.inl l8), some (.inr (.inl l9)), none, some (.inr (.inl l11)), none, some (.inl l13), some (.inl l14), some (.inl l15), some (.inr (.inl l16)), none, none, none] [(.inl t0)] s).trans rfl
set_option maxRecDepth 20000 in
theorem q_218_at304 (l1 : Int32) (l2 : Int32) (l3 : Int32) (l6 : Int32) (l7 : Int32) (l8 : Int32) (l9 : Int64) (l11 : Int64) (l13 : Int32) (l14 : Int32) (l15 : Int32) (l18 : Int32) (t0 : Int32) (s : SS) : ev 218 304 [some (.inr (.inr (30, 0))), some (.inl l1), some (.inl l2), some (.inl l3), none, none, some (.inl l6), some (.inl l7), some (.inl l8), some (.inr (.inl l9)), none, some (.inr (.inl l11)), none, some (.inl l13), some (.inl l14), some (.inl l15), none, none, some (.inl l18), none] [(.inl t0)] s = (if l15 = 0 then ev 218 194 [some (.inr (.inr (30, 0))), some (.inl l1), some (.inl l2), some (.inl l3), none, none, some (.inl l6), some (.inl l7), some (.inl l8), some (.inr (.inl l9)), none, some (.inr (.inl l11)), none, some (.inl (l13 + 1)), none, none, none, none, none, none] [] s else (if l18 = 0 then (if t0 = 0 then ev 218 194 [some (.inr (.inr (30, 0))), some (.inl l1), some (.inl l2), some (.inl l3), none, none, some (.inl l6), some (.inl l7), some (.inl l8), some (.inr (.inl l9)), none, some (.inr (.inl l11)), none, some (.inl (l13 + 1)), none, none, none, none, none, none] [] s else (if l14 < l8 then ev 218 328 [some (.inr (.inr (30, 0))), some (.inl l1), some (.inl l2), some (.inl l3), none, none, some (.inl l6), none, none, none, none, none, none, some (.inl l13), some (.inl l14), none, none, none, none, none] [] s else ev 218 194 [some (.inr (.inr (30, 0))), some (.inl l1), some (.inl l2), some (.inl l3), none, none, some (.inl l6), some (.inl l7), some (.inl l8), some (.inr (.inl l9)), none, some (.inr (.inl l11)), none, some (.inl (l13 + 1)), none, none, none, none, none, none] [] s)) else ev 218 328 [some (.inr (.inr (30, 0))), some (.inl l1), some (.inl l2), some (.inl l3), none, none, some (.inl l6), none, none, none, none, none, none, some (.inl l13), some (.inl l14), none, none, none, none, none] [] s)) := (ev_go [47, 83, 194, 269, 304, 328, 372] 227 218 304 [some (.inr (.inr (30, 0))), some (.inl l1), some (.inl l2), some (.inl l3), none, none, some (.inl l6), some (.inl l7), some (.inl l8), some (.inr (.inl l9)), none, some (.inr (.inl l11)), none, some (.inl l13), some (.inl l14), some (.inl l15), none, none, some (.inl l18), none] [(.inl t0)] s).trans rfl
set_option maxRecDepth 20000 in
theorem q_218_at328 (l1 : Int32) (l2 : Int32) (l3 : Int32) (l6 : Int32) (l13 : Int32) (l14 : Int32) (s : SS) : ev 218 328 [some (.inr (.inr (30, 0))), some (.inl l1), some (.inl l2), some (.inl l3), none, none, some (.inl l6), none, none, none, none, none, none, some (.inl l13), some (.inl l14), none, none, none, none, none] [] s = (if ixB l1 1024 = true then ev 218 194 [some (.inr (.inr (30, 0))), some (.inl l1), some (.inl l2), some (.inl l3), none, none, some (.inl l6), some (.inl l13), some (.inl l14), some (.inr (.inl (s.2.1 53 0 l1.toNatClampNeg))), none, some (.inr (.inl (s.2.1 30 0 34))), none, some (.inl (l13 + 1)), none, none, none, none, none, none] [] s else none) := (ev_go [47, 83, 194, 269, 304, 328, 372] 227 218 328 [some (.inr (.inr (30, 0))), some (.inl l1), some (.inl l2), some (.inl l3), none, none, some (.inl l6), none, none, none, none, none, none, some (.inl l13), some (.inl l14), none, none, none, none, none] [] s).trans rfl
set_option maxRecDepth 20000 in
theorem q_218_at372 (l2 : Int32) (l9 : Int64) (l11 : Int64) (l13 : Int32) (l14 : Int32) (s : SS) : ev 218 372 [some (.inr (.inr (30, 0))), none, some (.inl l2), none, none, none, none, none, none, some (.inr (.inl l9)), none, some (.inr (.inl l11)), none, some (.inl l13), some (.inl l14), none, none, none, none, none] [] s = (if l14 < 8 then cI (ev 147 0 [some (.inl l2), some (.inl l14)] [] s) (fun x1 s1 => (if x1 = 0 then ev 218 372 [some (.inr (.inr (30, 0))), none, some (.inl l2), none, none, none, none, none, none, some (.inr (.inl l9)), none, some (.inr (.inl l11)), none, some (.inl l13), some (.inl (l14 + 1)), none, none, none, none, none] [] s1 else (if ixB l14 8 = true then ev 218 372 [some (.inr (.inr (30, 0))), none, some (.inl l2), none, none, none, none, none, none, some (.inr (.inl l9)), none, some (.inr (.inl l11)), none, some (.inl ((10 * l13) + (s1.1 43 0 l14.toNatClampNeg))), some (.inl (l14 + 1)), none, none, none, none, none] [] s1 else none))) else cI (ev 149 0 [some (.inr (.inr (30, 0))), some (.inr (.inl l9)), none, some (.inr (.inl l11)), none, some (.inl l13), none, none, none, none, none, none] [] s) (fun x2 s2 => some (some (.inl x2), s2))) := (ev_go [47, 83, 194, 269, 304, 328, 372] 227 218 372 [some (.inr (.inr (30, 0))), none, some (.inl l2), none, none, none, none, none, none, some (.inr (.inl l9)), none, some (.inr (.inl l11)), none, some (.inl l13), some (.inl l14), none, none, none, none, none] [] s).trans rfl
set_option maxRecDepth 20000 in
theorem q_219 (p0 : Int32) (p1 : Int32) (s : SS) : ev 219 0 [some (.inr (.inr (30, 0))), some (.inl p0), some (.inl p1), none, none, none, none, none] [] s = cI (ev 163 0 [some (.inl p1)] [] s) (fun x1 s1 => (if x1 = 0 then some (some (.inl (-1)), s1) else cI (ev 180 0 [some (.inr (.inr (30, 0))), some (.inl p0)] [] s1) (fun x2 s2 => (if x2 < 0 then some (some (.inl x2), s2) else cI (ev 201 0 [some (.inr (.inr (30, 0)))] [] s2) (fun x3 s3 => (if x3 = 0 then cI (ev 145 0 [some (.inr (.inr (30, 0))), some (.inl 4)] [] s3) (fun x4 s4 => some (some (.inl x4), s4)) else cL (ev 202 0 [some (.inr (.inr (30, 0))), some (.inl p1), none, none, none] [] s3) (fun x5 s5 => cI (ev 200 0 [some (.inr (.inr (30, 0))), some (.inl (255 &&& (((1 : Int32) <<< (p0 &&& 31)) ^^^ (-1)))), none, none] [] s5) (fun x6 s6 => (if x6 = 0 then cI (ev 145 0 [some (.inr (.inr (30, 0))), some (.inl 4)] [] s6) (fun x7 s7 => some (some (.inl x7), s7)) else cL (ev 202 0 [some (.inr (.inr (30, 0))), some (.inl p1), none, none, none] [] s6) (fun x8 s8 => cI (ev 149 0 [some (.inr (.inr (30, 0))), some (.inr (.inl ((x5 * (s6.2.1 30 0 34)) - (x8 * (s5.2.1 30 0 34))))), none, some (.inr (.inl ((s5.2.1 30 0 34) * (s8.2.1 30 0 34)))), none, some (.inl 1), none, none, none, none, none, none] [] s8) (fun x9 s9 => some (some (.inl x9), s9)))))))))))) := (ev_go [] 64 219 0 [some (.inr (.inr (30, 0))), some (.inl p0), some (.inl p1), none, none, none, none, none] [] s).trans rfl
set_option maxRecDepth 20000 in
theorem q_220 (p0 : Int32) (s : SS) : ev 220 0 [some (.inr (.inr (30, 0))), some (.inl p0), none, none, none] [] s = cI (ev 163 0 [some (.inl p0)] [] s) (fun x1 s1 => (if x1 = 0 then some (some (.inl (-1)), s1) else cI (ev 201 0 [some (.inr (.inr (30, 0)))] [] s1) (fun x2 s2 => (if x2 = 0 then cI (ev 145 0 [some (.inr (.inr (30, 0))), some (.inl 4)] [] s2) (fun x3 s3 => some (some (.inl x3), s3)) else ev 220 26 [some (.inr (.inr (30, 0))), some (.inl p0), some (.inl 0), some (.inl 0), none] [] s2)))) := (ev_go [26, 59, 68] 84 220 0 [some (.inr (.inr (30, 0))), some (.inl p0), none, none, none] [] s).trans rfl
set_option maxRecDepth 20000 in
theorem q_220_at26 (l1 : Int32) (l2 : Int32) (l3 : Int32) (s : SS) : ev 220 26 [some (.inr (.inr (30, 0))), some (.inl l1), some (.inl l2), some (.inl l3), none] [] s = (if l3 < 8 then (if ixB l3 8 = true then (if (s.1 42 0 l3.toNatClampNeg) < 0 then ev 220 26 [some (.inr (.inr (30, 0))), some (.inl l1), some (.inl (l2 ||| 0)), some (.inl (l3 + 1)), none] [] s else ev 220 26 [some (.inr (.inr (30, 0))), some (.inl l1), some (.inl (l2 ||| ((1 : Int32) <<< (l3 &&& 31)))), some (.inl (l3 + 1)), none] [] s) else none) else ev 220 59 [some (.inr (.inr (30, 0))), some (.inl l1), some (.inl l2), some (.inl 0), none] [] s) := (ev_go [26, 59, 68] 84 220 26 [some (.inr (.inr (30, 0))), some (.inl l1), some (.inl l2), some (.inl l3), none] [] s).trans rfl
set_option maxRecDepth 20000 in
theorem q_220_at59 (l1 : Int32) (l2 : Int32) (l3 : Int32) (s : SS) : ev 220 59 [some (.inr (.inr (30, 0))), some (.inl l1), some (.inl l2), some (.inl l3), none] [] s = (if 8 < l3 then some (some (.inl (-9)), s) else ev 220 68 [some (.inr (.inr (30, 0))), some (.inl l1), some (.inl l2), some (.inl l3), some (.inl 0)] [] s) := (ev_go [26, 59, 68] 84 220 59 [some (.inr (.inr (30, 0))), some (.inl l1), some (.inl l2), some (.inl l3), none] [] s).trans rfl
set_option maxRecDepth 20000 in
theorem q_220_at68 (l1 : Int32) (l2 : Int32) (l3 : Int32) (l4 : Int32) (s : SS) : ev 220 68 [some (.inr (.inr (30, 0))), some (.inl l1), some (.inl l2), some (.inl l3), some (.inl l4)] [] s = (if 255 < l4 then ev 220 59 [some (.inr (.inr (30, 0))), some (.inl l1), some (.inl l2), some (.inl (l3 + 1)), none] [] s else cI (ev 148 0 [some (.inl l4), none, none] [] s) (fun x1 s1 => (if x1 = l3 then (if (l4 &&& (l2 ^^^ (-1))) = 0 then cI (ev 200 0 [some (.inr (.inr (30, 0))), some (.inl (255 &&& (l4 ^^^ (-1)))), none, none] [] s1) (fun x2 s2 => (if x2 = 0 then some (some (.inl l4), s2) else cL (ev 202 0 [some (.inr (.inr (30, 0))), some (.inl l1), none, none, none] [] s2) (fun x3 s3 => (if 0 < (lg_cmp (2 * x3) (s3.2.1 30 0 34)) then ev 220 68 [some (.inr (.inr (30, 0))), some (.inl l1), some (.inl l2), some (.inl l3), some (.inl (l4 + 1))] [] s3 else some (some (.inl l4), s3))))) else ev 220 68 [some (.inr (.inr (30, 0))), some (.inl l1), some (.inl l2), some (.inl l3), some (.inl (l4 + 1))] [] s1) else ev 220 68 [some (.inr (.inr (30, 0))), some (.inl l1), some (.inl l2), some (.inl l3), some (.inl (l4 + 1))] [] s1))) := (ev_go [26, 59, 68] 84 220 68 [some (.inr (.inr (30, 0))), some (.inl l1), some (.inl l2), some (.inl l3), some (.inl l4)] [] s).trans rfl
set_option maxRecDepth 20000 in
theorem q_221 (p0 : Int32) (p1 : Int32) (p2 : Int32) (s : SS) : ev 221 0 [some (.inr (.inr (30, 0))), some (.inl p0), some (.inl p1), some (.inl p2), none, none, none] [] s = cI (ev 163 0 [some (.inl p2)] [] s) (fun x1 s1 => (if x1 = 0 then some (some (.inl (-1)), s1) else cI (ev 167 0 [some (.inr (.inr (30, 0))), some (.inl p0), some (.inl p1)] [] s1) (fun x2 s2 => (if x2 < 0 then some (some (.inl x2), s2) else (if ixB p0 28 = true then (if ixB p0 28 = true then cI (ev 210 0 [some (.inr (.inr (30, 0))), some (.inl p2)] [] (wI s2 37 0 p0.toNatClampNeg p1)) (fun x3 s3 => (if ixB p0 28 = true then some (some (.inl x3), (wI s3 37 0 p0.toNatClampNeg (s2.1 37 0 p0.toNatClampNeg))) else none)) else none) else none))))) := (ev_go [] 40 221 0 [some (.inr (.inr (30, 0))), some (.inl p0), some (.inl p1), some (.inl p2), none, none, none] [] s).trans rfl
set_option maxRecDepth 20000 in
theorem q_222 (p0 : Int32) (s : SS) : ev 222 0 [some (.inr (.inr (30, 0))), some (.inl p0), none, none] [] s = (if ixB p0 6 = true then (if (s.1 32 0 p0.toNatClampNeg) < 0 then cI (ev 145 0 [some (.inr (.inr (30, 0))), some (.inl 1)] [] s) (fun x1 s1 => some (some (.inl x1), s1)) else (if ixB p0 6 = true then (if (s.1 32 0 p0.toNatClampNeg) = 0 then cI (ev 145 0 [some (.inr (.inr (30, 0))), some (.inl 5)] [] s) (fun x2 s2 => some (some (.inl x2), s2)) else (if ixB p0 6 = true then (if (2 : Int32) = 0 then none else (if ((s.1 32 0 p0.toNatClampNeg) - (s.1 32 0 p0.toNatClampNeg) / 2 * 2) = 0 then ev 222 45 [some (.inr (.inr (30, 0))), some (.inl p0), some (.inl 1), some (.inl 0)] [] s else cI (ev 145 0 [some (.inr (.inr (30, 0))), some (.inl 5)] [] s) (fun x3 s3 => some (some (.inl x3), s3)))) else none)) else none)) else none) := (ev_go [45] 64 222 0 [some (.inr (.inr (30, 0))), some (.inl p0), none, none] [] s).trans rfl
set_option maxRecDepth 20000 in
theorem q_222_at45 (l1 : Int32) (l2 : Int32) (l3 : Int32) (s : SS) : ev 222 45 [some (.inr (.inr (30, 0))), some (.inl l1), some (.inl l2), some (.inl l3)] [] s = (if ixB l1 6 = true then (if l3 < (s.1 32 0 l1.toNatClampNeg) then (if l2 = 0 then ev 222 45 [some (.inr (.inr (30, 0))), some (.inl l1), some (.inl 0), some (.inl (l3 + 1))] [] s else cI (ev 154 0 [some (.inr (.inr (30, 0))), some (.inl l1), some (.inl l3)] [] s) (fun x1 s1 => cI (ev 144 0 [some (.inl x1), some (.inl (-99)), some (.inl 99)] [] s1) (fun x2 s2 => (if x2 = 0 then ev 222 45 [some (.inr (.inr (30, 0))), some (.inl l1), some (.inl 0), some (.inl (l3 + 1))] [] s2 else ev 222 45 [some (.inr (.inr (30, 0))), some (.inl l1), some (.inl 1), some (.inl (l3 + 1))] [] s2)))) else (if l2 = 0 then cI (ev 145 0 [some (.inr (.inr (30, 0))), some (.inl 3)] [] s) (fun x3 s3 => some (some (.inl x3), s3)) else some (some (.inl 0), s))) else none) := (ev_go [45] 64 222 45 [some (.inr (.inr (30, 0))), some (.inl l1), some (.inl l2), some (.inl l3)] [] s).trans rfl
set_option maxRecDepth 20000 in
theorem q_223 (p0 : Int32) (p1 : Int64) (p2 : Int64) (s : SS) : ev 223 0 [some (.inr (.inr (30, 0))), some (.inl p0), some (.inr (.inl p1)), none, some (.inr (.inl p2)), none, none, none, none, none, none] [] s = ev 223 12 [some (.inr (.inr (30, 0))), some (.inl p0), some (.inr (.inl p1)), none, some (.inr (.inl p2)), none, some (.inr (.inl 0)), none, some (.inl 0), none, none] [] (wI s 30 0 35 (-9)) := (ev_go [12] 54 223 0 [some (.inr (.inr (30, 0))), some (.inl p0), some (.inr (.inl p1)), none, some (.inr (.inl p2)), none, none, none, none, none, none] [] s).trans rfl
set_option maxRecDepth 20000 in
theorem q_223_at12 (l1 : Int32) (l2 : Int64) (l4 : Int64) (l6 : Int64) (l8 : Int32) (s : SS) : ev 223 12 [some (.inr (.inr (30, 0))), some (.inl l1), some (.inr (.inl l2)), none, some (.inr (.inl l4)), none, some (.inr (.inl l6)), none, some (.inl l8), none, none] [] s = (if ixB l1 6 = true then (if l8 < (s.1 32 0 l1.toNatClampNeg) then cI (ev 154 0 [some (.inr (.inr (30, 0))), some (.inl l1), some (.inl l8)] [] s) (fun x1 s1 => cI (ev 154 0 [some (.inr (.inr (30, 0))), some (.inl l1), some (.inl (l8 + 1))] [] s1) (fun x2 s2 => (if (s2.1 30 0 35) < 0 then (if (2 : Int32) = 0 then none else ev 223 12 [some (.inr (.inr (30, 0))), some (.inl l1), some (.inr (.inl l2)), none, some (.inr (.inl l4)), none, some (.inr (.inl ((l2 * x1.toInt64) + (l4 * x2.toInt64)))), none, some (.inl (l8 + 2)), none, none] [] (wI s2 30 0 35 (l8 / 2))) else (if 0 < (lg_cmp ((l2 * x1.toInt64) + (l4 * x2.toInt64)) l6) then (if (2 : Int32) = 0 then none else ev 223 12 [some (.inr (.inr (30, 0))), some (.inl l1), some (.inr (.inl l2)), none, some (.inr (.inl l4)), none, some (.inr (.inl ((l2 * x1.toInt64) + (l4 * x2.toInt64)))), none, some (.inl (l8 + 2)), none, none] [] (wI s2 30 0 35 (l8 / 2))) else ev 223 12 [some (.inr (.inr (30, 0))), some (.inl l1), some (.inr (.inl l2)), none, some (.inr (.inl l4)), none, some (.inr (.inl l6)), none, some (.inl (l8 + 2)), none, none] [] s2)))) else some (some (.inr (.inl l6)), s)) else none) := (ev_go [12] 54 223 12 [some (.inr (.inr (30, 0))), some (.inl l1), some (.inr (.inl l2)), none, some (.inr (.inl l4)), none, some (.inr (.inl l6)), none, some (.inl l8), none, none] [] s).trans rfl
set_option maxRecDepth 20000 in
theorem q_224 (p0 : Int32) (p1 : Int32) (s : SS) : ev 224 0 [some (.inr (.inr (30, 0))), some (.inl p0), some (.inl p1), none, none, none] [] s = cI (ev 163 0 [some (.inl p0)] [] s) (fun x1 s1 => (if x1 = 0 then some (some (.inl (-1)), s1) else cI (ev 150 0 [some (.inl p1)] [] s1) (fun x2 s2 => (if x2 = 0 then some (some (.inl (-1)), s2) else cI (ev 222 0 [some (.inr (.inr (30, 0))), some (.inl p1), none, none] [] s2) (fun x3 s3 => (if x3 < 0 then some (some (.inl x3), s3) else cI (ev 201 0 [some (.inr (.inr (30, 0)))] [] s3) (fun x4 s4 => (if x4 = 0 then cI (ev 145 0 [some (.inr (.inr (30, 0))), some (.inl 4)] [] s4) (fun x5 s5 => some (some (.inl x5), s5)) else cL (ev 202 0 [some (.inr (.inr (30, 0))), some (.inl p0), none, none, none] [] s4) (fun x6 s6 => cL (ev 223 0 [some (.inr (.inr (30, 0))), some (.inl p1), some (.inr (.inl x6)), none, some (.inr (.inl ((s6.2.1 30 0 34) - x6))), none, none, none, none, none, none] [] s6) (fun x7 s7 => cI (ev 149 0 [some (.inr (.inr (30, 0))), some (.inr (.inl x7)), none, some (.inr (.inl (s7.2.1 30 0 34))), none, some (.inl (s7.1 30 0 35)), none, none, none, none, none, none] [] s7) (fun x8 s8 => some (some (.inl x8), s8)))))))))))) := (ev_go [] 47 224 0 [some (.inr (.inr (30, 0))), some (.inl p0), some (.inl p1), none, none, none] [] s).trans rfl
set_option maxRecDepth 20000 in
theorem q_225 (p0 : Int32) (p1 : Int32) (p2 : Int32) (s : SS) : ev 225 0 [some (.inr (.inr (30, 0))), some (.inl p0), some (.inl p1), some (.inl p2), none, none, none, none, none, none, none, none, none] [] s = cI (ev 163 0 [some (.inl p0)] [] s) (fun x1 s1 => (if x1 = 0 then some (some (.inl (-1)), s1) else cI (ev 150 0 [some (.inl p1)] [] s1) (fun x2 s2 => (if x2 = 0 then some (some (.inl (-1)), s2) else cI (ev 163 0 [some (.inl p2)] [] s2) (fun x3 s3 => (if x3 = 0 then some (some (.inl (-1)), s3) else cI (ev 222 0 [some (.inr (.inr (30, 0))), some (.inl p1), none, none] [] s3) (fun x4 s4 => (if x4 < 0 then some (some (.inl x4), s4) else cI (ev 201 0 [some (.inr (.inr (30, 0)))] [] s4) (fun x5 s5 => (if x5 = 0 then cI (ev 145 0 [some (.inr (.inr (30, 0))), some (.inl 4)] [] s5) (fun x6 s6 => some (some (.inl x6), s6)) else cL (ev 202 0 [some (.inr (.inr (30, 0))), some (.inl p0), none, none, none] [] s5) (fun x7 s7 => cL (ev 203 0 [some (.inr (.inr (30, 0))), some (.inl p0), some (.inl p2), none, none, none] [] s7) (fun x8 s8 => cL (ev 202 0 [some (.inr (.inr (30, 0))), some (.inl p2), none, none, none] [] s8) (fun x9 s9 => cL (ev 223 0 [some (.inr (.inr (30, 0))), some (.inl p1), some (.inr (.inl x8)), none, some (.inr (.inl (x9 - x8))), none, none, none, none, none, none] [] s9) (fun x10 s10 => cL (ev 223 0 [some (.inr (.inr (30, 0))), some (.inl p1), some (.inr (.inl (x7 - x8))), none, some (.inr (.inl ((((s10.2.1 30 0 34) - x9) - x7) + x8))), none, none, none, none, none, none] [] s10) (fun x11 s11 => cL (ev 223 0 [some (.inr (.inr (30, 0))), some (.inl p1), some (.inr (.inl x7)), none, some (.inr (.inl ((s11.2.1 30 0 34) - x7))), none, none, none, none, none, none] [] s11) (fun x12 s12 => ev 225 126 [some (.inr (.inr (30, 0))), none, none, none, none, none, none, none, none, none, none, some (.inr (.inl ((x10 + x11) - x12))), none] [] s12)))))))))))))))) := (ev_go [126] 83 225 0 [some (.inr (.inr (30, 0))), some (.inl p0), some (.inl p1), some (.inl p2), none, none, none, none, none, none, none, none, none] [] s).trans rfl
set_option maxRecDepth 20000 in
theorem q_225_at126 (l11 : Int64) (s : SS) : ev 225 126 [some (.inr (.inr (30, 0))), none, none, none, none, none, none, none, none, none, none, some (.inr (.inl l11)), none] [] s = cI (ev 149 0 [some (.inr (.inr (30, 0))), some (.inr (.inl l11)), none, some (.inr (.inl (s.2.1 30 0 34))), none, some (.inl 1), none, none, none, none, none, none] [] s) (fun x1 s1 => some (some (.inl x1), s1)) := (ev_go [126] 83 225 126 [some (.inr (.inr (30, 0))), none, none, none, none, none, none, none, none, none, none, some (.inr (.inl l11)), none] [] s).trans rfl
set_option maxRecDepth 20000 in
theorem q_226  (s : SS) : ev 226 0 [some (.inr (.inr (30, 0))), none, none, none, none, none, none, none] [] s = cI (ev 201 0 [some (.inr (.inr (30, 0)))] [] s) (fun x1 s1 => (if x1 = 0 then ev 226 27 [some (.inr (.inr (30, 0))), some (.inl x1), some (.inl 0), some (.inl (-9)), some (.inl 0), some (.inl 0), none, none] [] s1 else ev 226 27 [some (.inr (.inr (30, 0))), some (.inl x1), some (.inl (s1.1 30 0 31)), some (.inl (-9)), some (.inl 0), some (.inl 0), none, none] [] s1)) := (ev_go [27, 96] 86 226 0 [some (.inr (.inr (30, 0))), none, none, none, none, none, none, none] [] s).trans rfl
set_option maxRecDepth 20000 in
theorem q_226_at27 (l1 : Int32) (l2 : Int32) (l3 : Int32) (l4 : Int32) (l5 : Int32) (s : SS) : ev 226 27 [some (.inr (.inr (30, 0))), some (.inl l1), some (.inl l2), some (.inl l3), some (.inl l4), some (.inl l5), none, none] [] s = (if l5 < 28 then (if ixB l5 28 = true then cI (ev 144 0 [some (.inl (s.1 37 0 l5.toNatClampNeg)), some (.inl 1), some (.inl 2)] [] s) (fun x1 s1 => (if x1 = 0 then ev 226 27 [some (.inr (.inr (30, 0))), some (.inl l1), some (.inl l2), some (.inl l3), some (.inl l4), some (.inl (l5 + 1)), none, none] [] s1 else (if ixB l5 28 = true then (if ixB l5 28 = true then cI (ev 201 0 [some (.inr (.inr (30, 0)))] [] (wI s1 37 0 l5.toNatClampNeg (3 - (s1.1 37 0 l5.toNatClampNeg)))) (fun x2 s2 => (if x2 = 0 then ev 226 96 [some (.inr (.inr (30, 0))), some (.inl l1), some (.inl l2), some (.inl l3), some (.inl l4), some (.inl l5), none, none] [(.inl 0)] s2 else (if l1 = 0 then ev 226 96 [some (.inr (.inr (30, 0))), some (.inl l1), some (.inl l2), some (.inl l3), some (.inl l4), some (.inl l5), none, none] [(.inl 1000)] s2 else ev 226 96 [some (.inr (.inr (30, 0))), some (.inl l1), some (.inl l2), some (.inl l3), some (.inl l4), some (.inl l5), none, none] [(.inl (l2 - (s2.1 30 0 31)))] s2))) else none) else none))) else none) else (if l3 < 0 then some (some (.inl (-9)), s) else cI (ev 146 0 [some (.inr (.inr (30, 0))), some (.inl l4), some (.inl l3)] [] s) (fun x3 s3 => some (some (.inl x3), s3)))) := (ev_go [27, 96] 86 226 27 [some (.inr (.inr (30, 0))), some (.inl l1), some (.inl l2), some (.inl l3), some (.inl l4), some (.inl l5), none, none] [] s).trans rfl
set_option maxRecDepth 20000 in
theorem q_226_at96 (l1 : Int32) (l2 : Int32) (l3 : Int32) (l4 : Int32) (l5 : Int32) (t0 : Int32) (s : SS) : ev 226 96 [some (.inr (.inr (30, 0))), some (.inl l1), some (.inl l2), some (.inl l3), some (.inl l4), some (.inl l5), none, none] [(.inl t0)] s = (if ixB l5 28 = true then (if ixB l5 28 = true then (if l4 < t0 then ev 226 27 [some (.inr (.inr (30, 0))), some (.inl l1), some (.inl l2), some (.inl l5), some (.inl t0), some (.inl (l5 + 1)), none, none] [] (wI s 37 0 l5.toNatClampNeg (3 - (s.1 37 0 l5.toNatClampNeg))) else ev 226 27 [some (.inr (.inr (30, 0))), some (.inl l1), some (.inl l2), some (.inl l3), some (.inl l4), some (.inl (l5 + 1)), none, none] [] (wI s 37 0 l5.toNatClampNeg (3 - (s.1 37 0 l5.toNatClampNeg)))) else none) else none) := (ev_go [27, 96] 86 226 96 [some (.inr (.inr (30, 0))), some (.inl l1), some (.inl l2), some (.inl l3), some (.inl l4), some (.inl l5), none, none] [(.inl t0)] s).trans rfl
set_option maxRecDepth 20000 in
theorem q_227 (p0 : Int32) (p1 : Int32) (s : SS) : ev 227 0 [some (.inr (.inr (30, 0))), some (.inl p0), some (.inl p1), none, none, none, none, none] [] s = cI (ev 144 0 [some (.inl p1), some (.inl 0), some (.inl 10)] [] s) (fun x1 s1 => (if x1 = 0 then some (some (.inl (-1)), s1) else cI (ev 152 0 [some (.inr (.inr (30, 0))), some (.inl p0)] [] s1) (fun x2 s2 => (if x2 < 0 then some (some (.inl x2), s2) else (if ixB p0 6 = true then (if (2 : Int32) = 0 then none else (if ((s2.1 32 0 p0.toNatClampNeg) - (s2.1 32 0 p0.toNatClampNeg) / 2 * 2) = 0 then ev 227 53 [some (.inr (.inr (30, 0))), some (.inl p0), some (.inl p1), none, some (.inl 0), some (.inl 0), some (.inl 1), some (.inl 0)] [] s2 else cI (ev 145 0 [some (.inr (.inr (30, 0))), some (.inl 5)] [] s2) (fun x3 s3 => some (some (.inl x3), s3)))) else none))))) := (ev_go [53, 107, 127] 114 227 0 [some (.inr (.inr (30, 0))), some (.inl p0), some (.inl p1), none, none, none, none, none] [] s).trans rfl
set_option maxRecDepth 20000 in
theorem q_227_at53 (l1 : Int32) (l2 : Int32) (l4 : Int32) (l5 : Int32) (l6 : Int32) (l7 : Int32) (s : SS) : ev 227 53 [some (.inr (.inr (30, 0))), some (.inl l1), some (.inl l2), none, some (.inl l4), some (.inl l5), some (.inl l6), some (.inl l7)] [] s = (if ixB l1 6 = true then (if l7 < (s.1 32 0 l1.toNatClampNeg) then (if l6 = 0 then ev 227 107 [some (.inr (.inr (30, 0))), some (.inl l1), some (.inl l2), none, some (.inl l4), some (.inl l5), none, some (.inl l7)] [(.inl 0)] s else cI (ev 154 0 [some (.inr (.inr (30, 0))), some (.inl l1), some (.inl l7)] [] s) (fun x1 s1 => cI (ev 144 0 [some (.inl x1), some (.inl 0), some (.inl 10)] [] s1) (fun x2 s2 => (if x2 = 0 then ev 227 107 [some (.inr (.inr (30, 0))), some (.inl l1), some (.inl l2), none, some (.inl l4), some (.inl l5), none, some (.inl l7)] [(.inl 0)] s2 else cI (ev 154 0 [some (.inr (.inr (30, 0))), some (.inl l1), some (.inl (l7 + 1))] [] s2) (fun x3 s3 => cI (ev 144 0 [some (.inl x3), some (.inl 0), some (.inl 1)] [] s3) (fun x4 s4 => (if x4 = 0 then ev 227 107 [some (.inr (.inr (30, 0))), some (.inl l1), some (.inl l2), none, some (.inl l4), some (.inl l5), none, some (.inl l7)] [(.inl 0)] s4 else ev 227 107 [some (.inr (.inr (30, 0))), some (.inl l1), some (.inl l2), none, some (.inl l4), some (.inl l5), none, some (.inl l7)] [(.inl 1)] s4))))))) else (if l6 = 0 then cI (ev 145 0 [some (.inr (.inr (30, 0))), some (.inl 3)] [] s) (fun x5 s5 => some (some (.inl x5), s5)) else cI (ev 146 0 [some (.inr (.inr (30, 0))), some (.inl l4), some (.inl l5)] [] s) (fun x6 s6 => some (some (.inl x6), s6)))) else none) := (ev_go [53, 107, 127] 114 227 53 [some (.inr (.inr (30, 0))), some (.inl l1), some (.inl l2), none, some (.inl l4), some (.inl l5), some (.inl l6), some (.inl l7)] [] s).trans rfl
set_option maxRecDepth 20000 in
theorem q_227_at107 (l1 : Int32) (l2 : Int32) (l4 : Int32) (l5 : Int32) (l7 : Int32) (t0 : Int32) (s : SS) : ev 227 107 [some (.inr (.inr (30, 0))), some (.inl l1), some (.inl l2), none, some (.inl l4), some (.inl l5), none, some (.inl l7)] [(.inl t0)] s = cI (ev 154 0 [some (.inr (.inr (30, 0))), some (.inl l1), some (.inl l7)] [] s) (fun x1 s1 => (if x1 = l2 then ev 227 127 [some (.inr (.inr (30, 0))), some (.inl l1), some (.inl l2), none, none, some (.inl l5), some (.inl t0), some (.inl l7)] [(.inl 1), (.inl l4)] s1 else ev 227 127 [some (.inr (.inr (30, 0))), some (.inl l1), some (.inl l2), none, none, some (.inl l5), some (.inl t0), some (.inl l7)] [(.inl 0), (.inl l4)] s1)) := (ev_go [53, 107, 127] 114 227 107 [some (.inr (.inr (30, 0))), some (.inl l1), some (.inl l2), none, some (.inl l4), some (.inl l5), none, some (.inl l7)] [(.inl t0)] s).trans rfl
set_option maxRecDepth 20000 in
theorem q_227_at127 (l1 : Int32) (l2 : Int32) (l5 : Int32) (l6 : Int32) (l7 : Int32) (t0 : Int32) (t1 : Int32) (s : SS) : ev 227 127 [some (.inr (.inr (30, 0))), some (.inl l1), some (.inl l2), none, none, some (.inl l5), some (.inl l6), some (.inl l7)] [(.inl t0), (.inl t1)] s = cI (ev 154 0 [some (.inr (.inr (30, 0))), some (.inl l1), some (.inl l7)] [] s) (fun x1 s1 => (if x1 = l2 then cI (ev 154 0 [some (.inr (.inr (30, 0))), some (.inl l1), some (.inl (l7 + 1))] [] s1) (fun x2 s2 => (if x2 = 1 then ev 227 53 [some (.inr (.inr (30, 0))), some (.inl l1), some (.inl l2), none, some (.inl (t1 + t0)), some (.inl (l5 + 1)), some (.inl l6), some (.inl (l7 + 2))] [] s2 else ev 227 53 [some (.inr (.inr (30, 0))), some (.inl l1), some (.inl l2), none, some (.inl (t1 + t0)), some (.inl (l5 + 0)), some (.inl l6), some (.inl (l7 + 2))] [] s2)) else ev 227 53 [some (.inr (.inr (30, 0))), some (.inl l1), some (.inl l2), none, some (.inl (t1 + t0)), some (.inl (l5 + 0)), some (.inl l6), some (.inl (l7 + 2))] [] s1)) := (ev_go [53, 107, 127] 114 227 127 [some (.inr (.inr (30, 0))), some (.inl l1), some (.inl l2), none, none, some (.inl l5), some (.inl l6), some (.inl l7)] [(.inl t0), (.inl t1)] s).trans rfl
set_option maxRecDepth 20000 in
theorem q_228  (s : SS) : ev 228 0 [some (.inr (.inr (30, 0)))] [] s = some (some (.inl (s.1 30 0 2)), s) := (ev_go [] 40 228 0 [some (.inr (.inr (30, 0)))] [] s).trans rfl
set_option maxRecDepth 20000 in
theorem q_229  (s : SS) : ev 229 0 [some (.inr (.inr (30, 0)))] [] s = some (some (.inr (.inl (s.2.1 30 0 3))), s) := (ev_go [] 40 229 0 [some (.inr (.inr (30, 0)))] [] s).trans rfl
set_option maxRecDepth 20000 in
theorem q_230  (s : SS) : ev 230 0 [some (.inr (.inr (30, 0)))] [] s = some (some (.inr (.inl (s.2.1 30 0 4))), s) := (ev_go [] 40 230 0 [some (.inr (.inr (30, 0)))] [] s).trans rfl
set_option maxRecDepth 20000 in
theorem q_231 (p0 : Int32) (s : SS) : ev 231 0 [some (.inr (.inr (30, 0))), some (.inl p0), none, none] [] s = (if p0 = 0 then some (some (.inl (s.1 30 0 10)), s) else (if p0 = 1 then cI (ev 166 0 [some (.inr (.inr (30, 0))), some (.inl 3), some (.inl 3), none, none] [] s) (fun x2 s2 => some (some (.inl x2), s2)) else (if p0 = 2 then cI (ev 166 0 [some (.inr (.inr (30, 0))), some (.inl 1), some (.inl 2), none, none] [] s) (fun x1 s1 => some (some (.inl x1), s1)) else (if p0 = 3 then ev 231 61 [some (.inr (.inr (30, 0))), none, some (.inl 0), some (.inl 0)] [] s else (if p0 = 4 then ev 231 94 [some (.inr (.inr (30, 0))), none, some (.inl 0), some (.inl 0)] [] s else (if p0 = 5 then ev 231 130 [some (.inr (.inr (30, 0))), none, some (.inl 0), some (.inl 0)] [] s else ev 231 163 [some (.inr (.inr (30, 0))), none, some (.inl 0), some (.inl 0)] [] s)))))) := (ev_go [61, 94, 130, 163] 103 231 0 [some (.inr (.inr (30, 0))), some (.inl p0), none, none] [] s).trans rfl
set_option maxRecDepth 20000 in
theorem q_231_at61 (l2 : Int32) (l3 : Int32) (s : SS) : ev 231 61 [some (.inr (.inr (30, 0))), none, some (.inl l2), some (.inl l3)] [] s = (if l3 < 8 then (if ixB l3 8 = true then (if (s.1 42 0 l3.toNatClampNeg) < 0 then ev 231 61 [some (.inr (.inr (30, 0))), none, some (.inl (l2 + 0)), some (.inl (l3 + 1))] [] s else ev 231 61 [some (.inr (.inr (30, 0))), none, some (.inl (l2 + 1)), some (.inl (l3 + 1))] [] s) else none) else some (some (.inl l2), s)) := (ev_go [61, 94, 130, 163] 103 231 61 [some (.inr (.inr (30, 0))), none, some (.inl l2), some (.inl l3)] [] s).trans rfl
set_option maxRecDepth 20000 in
theorem q_231_at94 (l2 : Int32) (l3 : Int32) (s : SS) : ev 231 94 [some (.inr (.inr (30, 0))), none, some (.inl l2), some (.inl l3)] [] s = (if l3 < 8 then (if ixB l3 8 = true then cI (ev 182 0 [some (.inl (s.1 42 0 l3.toNatClampNeg))] [] s) (fun x1 s1 => (if x1 = 0 then ev 231 94 [some (.inr (.inr (30, 0))), none, some (.inl (l2 + 0)), some (.inl (l3 + 1))] [] s1 else ev 231 94 [some (.inr (.inr (30, 0))), none, some (.inl (l2 + 1)), some (.inl (l3 + 1))] [] s1)) else none) else some (some (.inl l2), s)) := (ev_go [61, 94, 130, 163] 103 231 94 [some (.inr (.inr (30, 0))), none, some (.inl l2), some (.inl l3)] [] s).trans rfl
set_option maxRecDepth 20000 in
theorem q_231_at130 (l2 : Int32) (l3 : Int32) (s : SS) : ev 231 130 [some (.inr (.inr (30, 0))), none, some (.inl l2), some (.inl l3)] [] s = (if l3 < 6 then (if ixB l3 6 = true then (if (s.1 32 0 l3.toNatClampNeg) < 0 then ev 231 130 [some (.inr (.inr (30, 0))), none, some (.inl (l2 + 0)), some (.inl (l3 + 1))] [] s else ev 231 130 [some (.inr (.inr (30, 0))), none, some (.inl (l2 + 1)), some (.inl (l3 + 1))] [] s) else none) else some (some (.inl l2), s)) := (ev_go [61, 94, 130, 163] 103 231 130 [some (.inr (.inr (30, 0))), none, some (.inl l2), some (.inl l3)] [] s).trans rfl
set_option maxRecDepth 20000 in
theorem q_231_at163 (l2 : Int32) (l3 : Int32) (s : SS) : ev 231 163 [some (.inr (.inr (30, 0))), none, some (.inl l2), some (.inl l3)] [] s = (if l3 < 4 then (if ixB l3 4 = true then (if (s.1 35 0 l3.toNatClampNeg) < 0 then ev 231 163 [some (.inr (.inr (30, 0))), none, some (.inl (l2 + 0)), some (.inl (l3 + 1))] [] s else ev 231 163 [some (.inr (.inr (30, 0))), none, some (.inl (l2 + 1)), some (.inl (l3 + 1))] [] s) else none) else some (some (.inl l2), s)) := (ev_go [61, 94, 130, 163] 103 231 163 [some (.inr (.inr (30, 0))), none, some (.inl l2), some (.inl l3)] [] s).trans rfl
set_option maxRecDepth 20000 in
theorem q_232 (p0 : Int32) (s : SS) : ev 232 0 [some (.inr (.inr (30, 0))), some (.inl p0)] [] s = cI (ev 144 0 [some (.inl p0), some (.inl 0), some (.inl 6)] [] s) (fun x1 s1 => (if x1 = 0 then some (some (.inl (-1)), s1) else cI (ev 231 0 [some (.inr (.inr (30, 0))), some (.inl p0), none, none] [] s1) (fun x2 s2 => some (some (.inl x2), s2)))) := (ev_go [] 40 232 0 [some (.inr (.inr (30, 0))), some (.inl p0)] [] s).trans rfl
set_option maxRecDepth 20000 in
theorem q_233  (s : SS) : ev 233 0 [some (.inr (.inr (30, 0)))] [] s = some (some (.inl (s.1 30 0 0)), s) := (ev_go [] 40 233 0 [some (.inr (.inr (30, 0)))] [] s).trans rfl
set_option maxRecDepth 20000 in
theorem q_234 (p0 : Int32) (s : SS) : ev 234 0 [some (.inr (.inr (30, 0))), some (.inl p0)] [] s = cI (ev 144 0 [some (.inl p0), some (.inl 1), some (.inl 5)] [] s) (fun x1 s1 => (if x1 = 0 then some (some (.inl (-1)), s1) else (if ixB p0 6 = true then some (some (.inl (s1.1 31 0 p0.toNatClampNeg)), s1) else none))) := (ev_go [] 40 234 0 [some (.inr (.inr (30, 0))), some (.inl p0)] [] s).trans rfl
set_option maxRecDepth 20000 in
theorem q_235 (p0 : Int32) (s : SS) : ev 235 0 [some (.inr (.inr (30, 0))), some (.inl p0)] [] s = some (none, (wL s 30 0 36 ((31 * (s.2.1 30 0 36)) + p0.toInt64))) := (ev_go [] 40 235 0 [some (.inr (.inr (30, 0))), some (.inl p0)] [] s).trans rfl
set_option maxRecDepth 20000 in
theorem q_236  (s : SS) : ev 236 0 [some (.inr (.inr (30, 0))), none, none] [] s = ev 236 9 [some (.inr (.inr (30, 0))), some (.inl 0), none] [] (wL s 30 0 36 17) := (ev_go [9, 32, 56, 81, 125, 156, 190, 220] 150 236 0 [some (.inr (.inr (30, 0))), none, none] [] s).trans rfl
set_option maxRecDepth 20000 in
theorem q_236_at9 (l1 : Int32) (s : SS) : ev 236 9 [some (.inr (.inr (30, 0))), some (.inl l1), none] [] s = (if 6 < l1 then ev 236 32 [some (.inr (.inr (30, 0))), some (.inl 0), none] [] s else cI (ev 231 0 [some (.inr (.inr (30, 0))), some (.inl l1), none, none] [] s) (fun x1 s1 => cV (ev 235 0 [some (.inr (.inr (30, 0))), some (.inl x1)] [] s1) (fun s2 => ev 236 9 [some (.inr (.inr (30, 0))), some (.inl (l1 + 1)), none] [] s2))) := (ev_go [9, 32, 56, 81, 125, 156, 190, 220] 150 236 9 [some (.inr (.inr (30, 0))), some (.inl l1), none] [] s).trans rfl
set_option maxRecDepth 20000 in
theorem q_236_at32 (l1 : Int32) (s : SS) : ev 236 32 [some (.inr (.inr (30, 0))), some (.inl l1), none] [] s = (if l1 < 28 then (if ixB l1 28 = true then cV (ev 235 0 [some (.inr (.inr (30, 0))), some (.inl (s.1 37 0 l1.toNatClampNeg))] [] s) (fun s1 => ev 236 32 [some (.inr (.inr (30, 0))), some (.inl (l1 + 1)), none] [] s1) else none) else ev 236 56 [some (.inr (.inr (30, 0))), some (.inl 0), none] [] s) := (ev_go [9, 32, 56, 81, 125, 156, 190, 220] 150 236 32 [some (.inr (.inr (30, 0))), some (.inl l1), none] [] s).trans rfl
set_option maxRecDepth 20000 in
theorem q_236_at56 (l1 : Int32) (s : SS) : ev 236 56 [some (.inr (.inr (30, 0))), some (.inl l1), none] [] s = (if l1 < 8 then (if ixB l1 8 = true then (if (s.1 42 0 l1.toNatClampNeg) < 0 then cV (ev 235 0 [some (.inr (.inr (30, 0))), some (.inl (-1))] [] s) (fun s1 => ev 236 56 [some (.inr (.inr (30, 0))), some (.inl (l1 + 1)), none] [] s1) else ev 236 81 [some (.inr (.inr (30, 0))), some (.inl l1), some (.inl 0)] [] s) else none) else ev 236 125 [some (.inr (.inr (30, 0))), some (.inl 0), none] [] s) := (ev_go [9, 32, 56, 81, 125, 156, 190, 220] 150 236 56 [some (.inr (.inr (30, 0))), some (.inl l1), none] [] s).trans rfl
set_option maxRecDepth 20000 in
theorem q_236_at81 (l1 : Int32) (l2 : Int32) (s : SS) : ev 236 81 [some (.inr (.inr (30, 0))), some (.inl l1), some (.inl l2)] [] s = (if 2 < l2 then (if ixB l1 8 = true then cI (ev 192 0 [some (.inr (.inr (30, 0))), some (.inl l1), some (.inl (s.1 42 0 l1.toNatClampNeg))] [] s) (fun x1 s1 => cV (ev 235 0 [some (.inr (.inr (30, 0))), some (.inl x1)] [] s1) (fun s2 => ev 236 56 [some (.inr (.inr (30, 0))), some (.inl (l1 + 1)), none] [] s2)) else none) else cI (ev 188 0 [some (.inr (.inr (30, 0))), some (.inl l1), some (.inl l2)] [] s) (fun x3 s3 => cV (ev 235 0 [some (.inr (.inr (30, 0))), some (.inl x3)] [] s3) (fun s4 => ev 236 81 [some (.inr (.inr (30, 0))), some (.inl l1), some (.inl (l2 + 1))] [] s4))) := (ev_go [9, 32, 56, 81, 125, 156, 190, 220] 150 236 81 [some (.inr (.inr (30, 0))), some (.inl l1), some (.inl l2)] [] s).trans rfl
set_option maxRecDepth 20000 in
theorem q_236_at125 (l1 : Int32) (s : SS) : ev 236 125 [some (.inr (.inr (30, 0))), some (.inl l1), none] [] s = (if l1 < 6 then (if ixB l1 6 = true then (if (s.1 32 0 l1.toNatClampNeg) < 0 then cV (ev 235 0 [some (.inr (.inr (30, 0))), some (.inl (-1))] [] s) (fun s1 => ev 236 156 [some (.inr (.inr (30, 0))), some (.inl l1), some (.inl 0)] [] s1) else (if ixB l1 6 = true then cV (ev 235 0 [some (.inr (.inr (30, 0))), some (.inl (s.1 32 0 l1.toNatClampNeg))] [] s) (fun s2 => ev 236 156 [some (.inr (.inr (30, 0))), some (.inl l1), some (.inl 0)] [] s2) else none)) else none) else ev 236 190 [some (.inr (.inr (30, 0))), some (.inl 0), none] [] s) := (ev_go [9, 32, 56, 81, 125, 156, 190, 220] 150 236 125 [some (.inr (.inr (30, 0))), some (.inl l1), none] [] s).trans rfl
set_option maxRecDepth 20000 in
theorem q_236_at156 (l1 : Int32) (l2 : Int32) (s : SS) : ev 236 156 [some (.inr (.inr (30, 0))), some (.inl l1), some (.inl l2)] [] s = (if ixB l1 6 = true then (if l2 < (s.1 32 0 l1.toNatClampNeg) then cI (ev 154 0 [some (.inr (.inr (30, 0))), some (.inl l1), some (.inl l2)] [] s) (fun x1 s1 => cV (ev 235 0 [some (.inr (.inr (30, 0))), some (.inl x1)] [] s1) (fun s2 => ev 236 156 [some (.inr (.inr (30, 0))), some (.inl l1), some (.inl (l2 + 1))] [] s2)) else ev 236 125 [some (.inr (.inr (30, 0))), some (.inl (l1 + 1)), none] [] s) else none) := (ev_go [9, 32, 56, 81, 125, 156, 190, 220] 150 236 156 [some (.inr (.inr (30, 0))), some (.inl l1), some (.inl l2)] [] s).trans rfl
set_option maxRecDepth 20000 in
theorem q_236_at190 (l1 : Int32) (s : SS) : ev 236 190 [some (.inr (.inr (30, 0))), some (.inl l1), none] [] s = (if l1 < 4 then (if ixB l1 4 = true then (if (s.1 35 0 l1.toNatClampNeg) < 0 then cV (ev 235 0 [some (.inr (.inr (30, 0))), some (.inl (-1))] [] s) (fun s1 => ev 236 220 [some (.inr (.inr (30, 0))), some (.inl l1), some (.inl 0)] [] s1) else (if ixB l1 4 = true then cV (ev 235 0 [some (.inr (.inr (30, 0))), some (.inl (s.1 35 0 l1.toNatClampNeg))] [] s) (fun s2 => ev 236 220 [some (.inr (.inr (30, 0))), some (.inl l1), some (.inl 0)] [] s2) else none)) else none) else some (some (.inr (.inl (s.2.1 30 0 36))), s)) := (ev_go [9, 32, 56, 81, 125, 156, 190, 220] 150 236 190 [some (.inr (.inr (30, 0))), some (.inl l1), none] [] s).trans rfl
set_option maxRecDepth 20000 in
theorem q_236_at220 (l1 : Int32) (l2 : Int32) (s : SS) : ev 236 220 [some (.inr (.inr (30, 0))), some (.inl l1), some (.inl l2)] [] s = (if ixB l1 4 = true then (if l2 < (s.1 35 0 l1.toNatClampNeg) then (if ixB ((40 * l1) + l2) 160 = true then cV (ev 235 0 [some (.inr (.inr (30, 0))), some (.inl (s.1 36 0 ((40 * l1) + l2).toNatClampNeg))] [] s) (fun s1 => ev 236 220 [some (.inr (.inr (30, 0))), some (.inl l1), some (.inl (l2 + 1))] [] s1) else none) else ev 236 190 [some (.inr (.inr (30, 0))), some (.inl (l1 + 1)), none] [] s) else none) := (ev_go [9, 32, 56, 81, 125, 156, 190, 220] 150 236 220 [some (.inr (.inr (30, 0))), some (.inl l1), some (.inl l2)] [] s).trans rfl
end
section
set_option maxRecDepth 20000 in
theorem q_237_at18 (l3 : Int32) (s : SS) : ev 237 18 [some (.inr (.inr (60, 0))), some (.inr (.inr (0, 0))), some (.inr (.inr (30, 0))), some (.inl l3)] [] s = (if ((s.1 60 1 0) - 6) < l3 then some (some (.inl 1), s) else (if ixB l3 (s.1 60 1 0).toNatClampNeg = true then (if ((s.1 60 0 l3.toNatClampNeg) &&& 63) = 0 then ev 237 216 [some (.inr (.inr (60, 0))), some (.inr (.inr (0, 0))), some (.inr (.inr (30, 0))), some (.inl l3)] [] s else (if ((s.1 60 0 l3.toNatClampNeg) &&& 63) = 1 then ev 237 249 [some (.inr (.inr (60, 0))), some (.inr (.inr (0, 0))), some (.inr (.inr (30, 0))), some (.inl l3)] [] s else (if ((s.1 60 0 l3.toNatClampNeg) &&& 63) = 2 then ev 237 292 [some (.inr (.inr (60, 0))), some (.inr (.inr (0, 0))), some (.inr (.inr (30, 0))), some (.inl l3)] [] s else (if ((s.1 60 0 l3.toNatClampNeg) &&& 63) = 3 then ev 237 325 [some (.inr (.inr (60, 0))), some (.inr (.inr (0, 0))), some (.inr (.inr (30, 0))), some (.inl l3)] [] s else (if ((s.1 60 0 l3.toNatClampNeg) &&& 63) = 4 then ev 237 348 [some (.inr (.inr (60, 0))), some (.inr (.inr (0, 0))), some (.inr (.inr (30, 0))), some (.inl l3)] [] s else (if ((s.1 60 0 l3.toNatClampNeg) &&& 63) = 5 then ev 237 411 [some (.inr (.inr (60, 0))), some (.inr (.inr (0, 0))), some (.inr (.inr (30, 0))), some (.inl l3)] [] s else (if ((s.1 60 0 l3.toNatClampNeg) &&& 63) = 6 then ev 237 434 [some (.inr (.inr (60, 0))), some (.inr (.inr (0, 0))), some (.inr (.inr (30, 0))), some (.inl l3)] [] s else (if ((s.1 60 0 l3.toNatClampNeg) &&& 63) = 7 then ev 237 467 [some (.inr (.inr (60, 0))), some (.inr (.inr (0, 0))), some (.inr (.inr (30, 0))), some (.inl l3)] [] s else (if ((s.1 60 0 l3.toNatClampNeg) &&& 63) = 8 then ev 237 510 [some (.inr (.inr (60, 0))), some (.inr (.inr (0, 0))), some (.inr (.inr (30, 0))), some (.inl l3)] [] s else (if ((s.1 60 0 l3.toNatClampNeg) &&& 63) = 9 then ev 237 533 [some (.inr (.inr (60, 0))), some (.inr (.inr (0, 0))), some (.inr (.inr (30, 0))), some (.inl l3)] [] s else (if ((s.1 60 0 l3.toNatClampNeg) &&& 63) = 10 then ev 237 566 [some (.inr (.inr (60, 0))), some (.inr (.inr (0, 0))), some (.inr (.inr (30, 0))), some (.inl l3)] [] s else (if ((s.1 60 0 l3.toNatClampNeg) &&& 63) = 11 then ev 237 589 [some (.inr (.inr (60, 0))), some (.inr (.inr (0, 0))), some (.inr (.inr (30, 0))), some (.inl l3)] [] s else (if ((s.1 60 0 l3.toNatClampNeg) &&& 63) = 12 then ev 237 622 [some (.inr (.inr (60, 0))), some (.inr (.inr (0, 0))), some (.inr (.inr (30, 0))), some (.inl l3)] [] s else (if ((s.1 60 0 l3.toNatClampNeg) &&& 63) = 13 then ev 237 675 [some (.inr (.inr (60, 0))), some (.inr (.inr (0, 0))), some (.inr (.inr (30, 0))), some (.inl l3)] [] s else (if ((s.1 60 0 l3.toNatClampNeg) &&& 63) = 14 then ev 237 698 [some (.inr (.inr (60, 0))), some (.inr (.inr (0, 0))), some (.inr (.inr (30, 0))), some (.inl l3)] [] s else (if ((s.1 60 0 l3.toNatClampNeg) &&& 63) = 15 then ev 237 731 [some (.inr (.inr (60, 0))), some (.inr (.inr (0, 0))), some (.inr (.inr (30, 0))), some (.inl l3)] [] s else (if ((s.1 60 0 l3.toNatClampNeg) &&& 63) = 16 then ev 237 764 [some (.inr (.inr (60, 0))), some (.inr (.inr (0, 0))), some (.inr (.inr (30, 0))), some (.inl l3)] [] s else (if ((s.1 60 0 l3.toNatClampNeg) &&& 63) = 17 then ev 237 797 [some (.inr (.inr (60, 0))), some (.inr (.inr (0, 0))), some (.inr (.inr (30, 0))), some (.inl l3)] [] s else (if ((s.1 60 0 l3.toNatClampNeg) &&& 63) = 18 then ev 237 810 [some (.inr (.inr (60, 0))), some (.inr (.inr (0, 0))), some (.inr (.inr (30, 0))), some (.inl l3)] [] s else (if ((s.1 60 0 l3.toNatClampNeg) &&& 63) = 19 then ev 237 833 [some (.inr (.inr (60, 0))), some (.inr (.inr (0, 0))), some (.inr (.inr (30, 0))), some (.inl l3)] [] s else (if ((s.1 60 0 l3.toNatClampNeg) &&& 63) = 20 then ev 237 866 [some (.inr (.inr (60, 0))), some (.inr (.inr (0, 0))), some (.inr (.inr (30, 0))), some (.inl l3)] [] s else (if ((s.1 60 0 l3.toNatClampNeg) &&& 63) = 21 then ev 237 879 [some (.inr (.inr (60, 0))), some (.inr (.inr (0, 0))), some (.inr (.inr (30, 0))), some (.inl l3)] [] s else (if ((s.1 60 0 l3.toNatClampNeg) &&& 63) = 22 then ev 237 902 [some (.inr (.inr (60, 0))), some (.inr (.inr (0, 0))), some (.inr (.inr (30, 0))), some (.inl l3)] [] s else (if ((s.1 60 0 l3.toNatClampNeg) &&& 63) = 23 then ev 237 925 [some (.inr (.inr (60, 0))), some (.inr (.inr (0, 0))), some (.inr (.inr (30, 0))), some (.inl l3)] [] s else (if ((s.1 60 0 l3.toNatClampNeg) &&& 63) = 24 then ev 237 958 [some (.inr (.inr (60, 0))), some (.inr (.inr (0, 0))), some (.inr (.inr (30, 0))), some (.inl l3)] [] s else (if ((s.1 60 0 l3.toNatClampNeg) &&& 63) = 25 then ev 237 991 [some (.inr (.inr (60, 0))), some (.inr (.inr (0, 0))), some (.inr (.inr (30, 0))), some (.inl l3)] [] s else (if ((s.1 60 0 l3.toNatClampNeg) &&& 63) = 26 then ev 237 1024 [some (.inr (.inr (60, 0))), some (.inr (.inr (0, 0))), some (.inr (.inr (30, 0))), some (.inl l3)] [] s else (if ((s.1 60 0 l3.toNatClampNeg) &&& 63) = 27 then ev 237 1067 [some (.inr (.inr (60, 0))), some (.inr (.inr (0, 0))), some (.inr (.inr (30, 0))), some (.inl l3)] [] s else (if ((s.1 60 0 l3.toNatClampNeg) &&& 63) = 28 then ev 237 1110 [some (.inr (.inr (60, 0))), some (.inr (.inr (0, 0))), some (.inr (.inr (30, 0))), some (.inl l3)] [] s else (if ((s.1 60 0 l3.toNatClampNeg) &&& 63) = 29 then ev 237 1143 [some (.inr (.inr (60, 0))), some (.inr (.inr (0, 0))), some (.inr (.inr (30, 0))), some (.inl l3)] [] s else (if ((s.1 60 0 l3.toNatClampNeg) &&& 63) = 30 then ev 237 1166 [some (.inr (.inr (60, 0))), some (.inr (.inr (0, 0))), some (.inr (.inr (30, 0))), some (.inl l3)] [] s else (if ((s.1 60 0 l3.toNatClampNeg) &&& 63) = 31 then ev 237 1209 [some (.inr (.inr (60, 0))), some (.inr (.inr (0, 0))), some (.inr (.inr (30, 0))), some (.inl l3)] [] s else (if ((s.1 60 0 l3.toNatClampNeg) &&& 63) = 32 then ev 237 1242 [some (.inr (.inr (60, 0))), some (.inr (.inr (0, 0))), some (.inr (.inr (30, 0))), some (.inl l3)] [] s else (if ((s.1 60 0 l3.toNatClampNeg) &&& 63) = 33 then ev 237 1285 [some (.inr (.inr (60, 0))), some (.inr (.inr (0, 0))), some (.inr (.inr (30, 0))), some (.inl l3)] [] s else (if ((s.1 60 0 l3.toNatClampNeg) &&& 63) = 34 then ev 237 1298 [some (.inr (.inr (60, 0))), some (.inr (.inr (0, 0))), some (.inr (.inr (30, 0))), some (.inl l3)] [] s else (if ((s.1 60 0 l3.toNatClampNeg) &&& 63) = 35 then ev 237 1331 [some (.inr (.inr (60, 0))), some (.inr (.inr (0, 0))), some (.inr (.inr (30, 0))), some (.inl l3)] [] s else (if ((s.1 60 0 l3.toNatClampNeg) &&& 63) = 36 then ev 237 1344 [some (.inr (.inr (60, 0))), some (.inr (.inr (0, 0))), some (.inr (.inr (30, 0))), some (.inl l3)] [] s else (if ((s.1 60 0 l3.toNatClampNeg) &&& 63) = 37 then ev 237 1358 [some (.inr (.inr (60, 0))), some (.inr (.inr (0, 0))), some (.inr (.inr (30, 0))), some (.inl l3)] [] s else (if ((s.1 60 0 l3.toNatClampNeg) &&& 63) = 38 then ev 237 1372 [some (.inr (.inr (60, 0))), some (.inr (.inr (0, 0))), some (.inr (.inr (30, 0))), some (.inl l3)] [] s else (if ((s.1 60 0 l3.toNatClampNeg) &&& 63) = 39 then ev 237 1395 [some (.inr (.inr (60, 0))), some (.inr (.inr (0, 0))), some (.inr (.inr (30, 0))), some (.inl l3)] [] s else (if ((s.1 60 0 l3.toNatClampNeg) &&& 63) = 40 then ev 237 1408 [some (.inr (.inr (60, 0))), some (.inr (.inr (0, 0))), some (.inr (.inr (30, 0))), some (.inl l3)] [] s else (if ((s.1 60 0 l3.toNatClampNeg) &&& 63) = 41 then ev 237 1431 [some (.inr (.inr (60, 0))), some (.inr (.inr (0, 0))), some (.inr (.inr (30, 0))), some (.inl l3)] [] s else ev 237 1445 [some (.inr (.inr (60, 0))), some (.inr (.inr (0, 0))), some (.inr (.inr (30, 0))), some (.inl l3)] [] s)))))))))))))))))))))))))))))))))))))))))) else none)) := (ev_go [18, 216, 249, 292, 325, 348, 411, 434, 467, 510, 533, 566, 589, 622, 675, 698, 731, 764, 797, 810, 833, 866, 879, 902, 925, 958, 991, 1024, 1067, 1110, 1143, 1166, 1209, 1242, 1285, 1298, 1331, 1344, 1358, 1372, 1395, 1408, 1431, 1445] 60 237 18 [some (.inr (.inr (60, 0))), some (.inr (.inr (0, 0))), some (.inr (.inr (30, 0))), some (.inl l3)] [] s).trans rfl
set_option maxRecDepth 20000 in
theorem q_237_at216 (l3 : Int32) (s : SS) : ev 237 216 [some (.inr (.inr (60, 0))), some (.inr (.inr (0, 0))), some (.inr (.inr (30, 0))), some (.inl l3)] [] s = (if ixB (l3 + 1) (s.1 60 1 0).toNatClampNeg = true then (if ixB (l3 + 2) (s.1 60 1 0).toNatClampNeg = true then cI (ev 58 0 [some (.inr (.inr (0, 0))), some (.inl (s.1 60 0 (l3 + 1).toNatClampNeg)), some (.inl (s.1 60 0 (l3 + 2).toNatClampNeg))] [] s) (fun x1 s1 => (if ixB (l3 + 1) (s1.1 60 1 0).toNatClampNeg = true then (if ixB (l3 + 2) (s1.1 60 1 0).toNatClampNeg = true then cI (ev 155 0 [some (.inr (.inr (30, 0))), some (.inl (s1.1 60 0 (l3 + 1).toNatClampNeg)), some (.inl (s1.1 60 0 (l3 + 2).toNatClampNeg)), none] [] s1) (fun x2 s2 => (if x1 = x2 then ev 237 1445 [some (.inr (.inr (60, 0))), some (.inr (.inr (0, 0))), some (.inr (.inr (30, 0))), some (.inl l3)] [] s2 else some (some (.inl 0), s2))) else none) else none)) else none) else none) := (ev_go [18, 216, 249, 292, 325, 348, 411, 434, 467, 510, 533, 566, 589, 622, 675, 698, 731, 764, 797, 810, 833, 866, 879, 902, 925, 958, 991, 1024, 1067, 1110, 1143, 1166, 1209, 1242, 1285, 1298, 1331, 1344, 1358, 1372, 1395, 1408, 1431, 1445] 60 237 216 [some (.inr (.inr (60, 0))), some (.inr (.inr (0, 0))), some (.inr (.inr (30, 0))), some (.inl l3)] [] s).trans rfl
set_option maxRecDepth 20000 in
theorem q_237_at249 (l3 : Int32) (s : SS) : ev 237 249 [some (.inr (.inr (60, 0))), some (.inr (.inr (0, 0))), some (.inr (.inr (30, 0))), some (.inl l3)] [] s = (if ixB (l3 + 1) (s.1 60 1 0).toNatClampNeg = true then (if ixB (l3 + 2) (s.1 60 1 0).toNatClampNeg = true then (if ixB (l3 + 3) (s.1 60 1 0).toNatClampNeg = true then cI (ev 59 0 [some (.inr (.inr (0, 0))), some (.inl (s.1 60 0 (l3 + 1).toNatClampNeg)), some (.inl (s.1 60 0 (l3 + 2).toNatClampNeg)), some (.inl (s.1 60 0 (l3 + 3).toNatClampNeg)), none] [] s) (fun x1 s1 => (if ixB (l3 + 1) (s1.1 60 1 0).toNatClampNeg = true then (if ixB (l3 + 2) (s1.1 60 1 0).toNatClampNeg = true then (if ixB (l3 + 3) (s1.1 60 1 0).toNatClampNeg = true then cI (ev 157 0 [some (.inr (.inr (30, 0))), some (.inl (s1.1 60 0 (l3 + 1).toNatClampNeg)), some (.inl (s1.1 60 0 (l3 + 2).toNatClampNeg)), some (.inl (s1.1 60 0 (l3 + 3).toNatClampNeg)), none] [] s1) (fun x2 s2 => (if x1 = x2 then ev 237 1445 [some (.inr (.inr (60, 0))), some (.inr (.inr (0, 0))), some (.inr (.inr (30, 0))), some (.inl l3)] [] s2 else some (some (.inl 0), s2))) else none) else none) else none)) else none) else none) else none) := (ev_go [18, 216, 249, 292, 325, 348, 411, 434, 467, 510, 533, 566, 589, 622, 675, 698, 731, 764, 797, 810, 833, 866, 879, 902, 925, 958, 991, 1024, 1067, 1110, 1143, 1166, 1209, 1242, 1285, 1298, 1331, 1344, 1358, 1372, 1395, 1408, 1431, 1445] 60 237 249 [some (.inr (.inr (60, 0))), some (.inr (.inr (0, 0))), some (.inr (.inr (30, 0))), some (.inl l3)] [] s).trans rfl
set_option maxRecDepth 20000 in
theorem q_237_at292 (l3 : Int32) (s : SS) : ev 237 292 [some (.inr (.inr (60, 0))), some (.inr (.inr (0, 0))), some (.inr (.inr (30, 0))), some (.inl l3)] [] s = (if ixB (l3 + 1) (s.1 60 1 0).toNatClampNeg = true then (if ixB (l3 + 2) (s.1 60 1 0).toNatClampNeg = true then cI (ev 60 0 [some (.inr (.inr (0, 0))), some (.inl (s.1 60 0 (l3 + 1).toNatClampNeg)), some (.inl (s.1 60 0 (l3 + 2).toNatClampNeg)), none] [] s) (fun x1 s1 => (if ixB (l3 + 1) (s1.1 60 1 0).toNatClampNeg = true then (if ixB (l3 + 2) (s1.1 60 1 0).toNatClampNeg = true then cI (ev 156 0 [some (.inr (.inr (30, 0))), some (.inl (s1.1 60 0 (l3 + 1).toNatClampNeg)), some (.inl (s1.1 60 0 (l3 + 2).toNatClampNeg)), none] [] s1) (fun x2 s2 => (if x1 = x2 then ev 237 1445 [some (.inr (.inr (60, 0))), some (.inr (.inr (0, 0))), some (.inr (.inr (30, 0))), some (.inl l3)] [] s2 else some (some (.inl 0), s2))) else none) else none)) else none) else none) := (ev_go [18, 216, 249, 292, 325, 348, 411, 434, 467, 510, 533, 566, 589, 622, 675, 698, 731, 764, 797, 810, 833, 866, 879, 902, 925, 958, 991, 1024, 1067, 1110, 1143, 1166, 1209, 1242, 1285, 1298, 1331, 1344, 1358, 1372, 1395, 1408, 1431, 1445] 60 237 292 [some (.inr (.inr (60, 0))), some (.inr (.inr (0, 0))), some (.inr (.inr (30, 0))), some (.inl l3)] [] s).trans rfl
set_option maxRecDepth 20000 in
theorem q_237_at325 (l3 : Int32) (s : SS) : ev 237 325 [some (.inr (.inr (60, 0))), some (.inr (.inr (0, 0))), some (.inr (.inr (30, 0))), some (.inl l3)] [] s = (if ixB (l3 + 1) (s.1 60 1 0).toNatClampNeg = true then cI (ev 61 0 [some (.inr (.inr (0, 0))), some (.inl (s.1 60 0 (l3 + 1).toNatClampNeg))] [] s) (fun x1 s1 => (if ixB (l3 + 1) (s1.1 60 1 0).toNatClampNeg = true then cI (ev 158 0 [some (.inr (.inr (30, 0))), some (.inl (s1.1 60 0 (l3 + 1).toNatClampNeg)), none] [] s1) (fun x2 s2 => (if x1 = x2 then ev 237 1445 [some (.inr (.inr (60, 0))), some (.inr (.inr (0, 0))), some (.inr (.inr (30, 0))), some (.inl l3)] [] s2 else some (some (.inl 0), s2))) else none)) else none) := (ev_go [18, 216, 249, 292, 325, 348, 411, 434, 467, 510, 533, 566, 589, 622, 675, 698, 731, 764, 797, 810, 833, 866, 879, 902, 925, 958, 991, 1024, 1067, 1110, 1143, 1166, 1209, 1242, 1285, 1298, 1331, 1344, 1358, 1372, 1395, 1408, 1431, 1445] 60 237 325 [some (.inr (.inr (60, 0))), some (.inr (.inr (0, 0))), some (.inr (.inr (30, 0))), some (.inl l3)] [] s).trans rfl
set_option maxRecDepth 20000 in
theorem q_237_at348 (l3 : Int32) (s : SS) : ev 237 348 [some (.inr (.inr (60, 0))), some (.inr (.inr (0, 0))), some (.inr (.inr (30, 0))), some (.inl l3)] [] s = (if ixB (l3 + 1) (s.1 60 1 0).toNatClampNeg = true then (if ixB (l3 + 2) (s.1 60 1 0).toNatClampNeg = true then (if ixB (l3 + 3) (s.1 60 1 0).toNatClampNeg = true then (if ixB (l3 + 4) (s.1 60 1 0).toNatClampNeg = true then (if ixB (l3 + 5) (s.1 60 1 0).toNatClampNeg = true then cI (ev 62 0 [some (.inr (.inr (0, 0))), some (.inl (s.1 60 0 (l3 + 1).toNatClampNeg)), some (.inl (s.1 60 0 (l3 + 2).toNatClampNeg)), some (.inl (s.1 60 0 (l3 + 3).toNatClampNeg)), some (.inl (s.1 60 0 (l3 + 4).toNatClampNeg)), some (.inl (s.1 60 0 (l3 + 5).toNatClampNeg))] [] s) (fun x1 s1 => (if ixB (l3 + 1) (s1.1 60 1 0).toNatClampNeg = true then (if ixB (l3 + 2) (s1.1 60 1 0).toNatClampNeg = true then (if ixB (l3 + 3) (s1.1 60 1 0).toNatClampNeg = true then (if ixB (l3 + 4) (s1.1 60 1 0).toNatClampNeg = true then (if ixB (l3 + 5) (s1.1 60 1 0).toNatClampNeg = true then cI (ev 159 0 [some (.inr (.inr (30, 0))), some (.inl (s1.1 60 0 (l3 + 1).toNatClampNeg)), some (.inl (s1.1 60 0 (l3 + 2).toNatClampNeg)), some (.inl (s1.1 60 0 (l3 + 3).toNatClampNeg)), some (.inl (s1.1 60 0 (l3 + 4).toNatClampNeg)), some (.inl (s1.1 60 0 (l3 + 5).toNatClampNeg)), none] [] s1) (fun x2 s2 => (if x1 = x2 then ev 237 1445 [some (.inr (.inr (60, 0))), some (.inr (.inr (0, 0))), some (.inr (.inr (30, 0))), some (.inl l3)] [] s2 else some (some (.inl 0), s2))) else none) else none) else none) else none) else none)) else none) else none) else none) else none) else none) := (ev_go [18, 216, 249, 292, 325, 348, 411, 434, 467, 510, 533, 566, 589, 622, 675, 698, 731, 764, 797, 810, 833, 866, 879, 902, 925, 958, 991, 1024, 1067, 1110, 1143, 1166, 1209, 1242, 1285, 1298, 1331, 1344, 1358, 1372, 1395, 1408, 1431, 1445] 60 237 348 [some (.inr (.inr (60, 0))), some (.inr (.inr (0, 0))), some (.inr (.inr (30, 0))), some (.inl l3)] [] s).trans rfl
set_option maxRecDepth 20000 in
theorem q_237_at411 (l3 : Int32) (s : SS) : ev 237 411 [some (.inr (.inr (60, 0))), some (.inr (.inr (0, 0))), some (.inr (.inr (30, 0))), some (.inl l3)] [] s = (if ixB (l3 + 1) (s.1 60 1 0).toNatClampNeg = true then cI (ev 63 0 [some (.inr (.inr (0, 0))), some (.inl (s.1 60 0 (l3 + 1).toNatClampNeg)), none] [] s) (fun x1 s1 => (if ixB (l3 + 1) (s1.1 60 1 0).toNatClampNeg = true then cI (ev 160 0 [some (.inr (.inr (30, 0))), some (.inl (s1.1 60 0 (l3 + 1).toNatClampNeg)), none, none, none, none] [] s1) (fun x2 s2 => (if x1 = x2 then ev 237 1445 [some (.inr (.inr (60, 0))), some (.inr (.inr (0, 0))), some (.inr (.inr (30, 0))), some (.inl l3)] [] s2 else some (some (.inl 0), s2))) else none)) else none) := (ev_go [18, 216, 249, 292, 325, 348, 411, 434, 467, 510, 533, 566, 589, 622, 675, 698, 731, 764, 797, 810, 833, 866, 879, 902, 925, 958, 991, 1024, 1067, 1110, 1143, 1166, 1209, 1242, 1285, 1298, 1331, 1344, 1358, 1372, 1395, 1408, 1431, 1445] 60 237 411 [some (.inr (.inr (60, 0))), some (.inr (.inr (0, 0))), some (.inr (.inr (30, 0))), some (.inl l3)] [] s).trans rfl
set_option maxRecDepth 20000 in
theorem q_237_at434 (l3 : Int32) (s : SS) : ev 237 434 [some (.inr (.inr (60, 0))), some (.inr (.inr (0, 0))), some (.inr (.inr (30, 0))), some (.inl l3)] [] s = (if ixB (l3 + 1) (s.1 60 1 0).toNatClampNeg = true then (if ixB (l3 + 2) (s.1 60 1 0).toNatClampNeg = true then cI (ev 64 0 [some (.inr (.inr (0, 0))), some (.inl (s.1 60 0 (l3 + 1).toNatClampNeg)), some (.inl (s.1 60 0 (l3 + 2).toNatClampNeg))] [] s) (fun x1 s1 => (if ixB (l3 + 1) (s1.1 60 1 0).toNatClampNeg = true then (if ixB (l3 + 2) (s1.1 60 1 0).toNatClampNeg = true then cI (ev 161 0 [some (.inr (.inr (30, 0))), some (.inl (s1.1 60 0 (l3 + 1).toNatClampNeg)), some (.inl (s1.1 60 0 (l3 + 2).toNatClampNeg)), none] [] s1) (fun x2 s2 => (if x1 = x2 then ev 237 1445 [some (.inr (.inr (60, 0))), some (.inr (.inr (0, 0))), some (.inr (.inr (30, 0))), some (.inl l3)] [] s2 else some (some (.inl 0), s2))) else none) else none)) else none) else none) := (ev_go [18, 216, 249, 292, 325, 348, 411, 434, 467, 510, 533, 566, 589, 622, 675, 698, 731, 764, 797, 810, 833, 866, 879, 902, 925, 958, 991, 1024, 1067, 1110, 1143, 1166, 1209, 1242, 1285, 1298, 1331, 1344, 1358, 1372, 1395, 1408, 1431, 1445] 60 237 434 [some (.inr (.inr (60, 0))), some (.inr (.inr (0, 0))), some (.inr (.inr (30, 0))), some (.inl l3)] [] s).trans rfl
set_option maxRecDepth 20000 in
theorem q_237_at467 (l3 : Int32) (s : SS) : ev 237 467 [some (.inr (.inr (60, 0))), some (.inr (.inr (0, 0))), some (.inr (.inr (30, 0))), some (.inl l3)] [] s = (if ixB (l3 + 1) (s.1 60 1 0).toNatClampNeg = true then (if ixB (l3 + 2) (s.1 60 1 0).toNatClampNeg = true then (if ixB (l3 + 3) (s.1 60 1 0).toNatClampNeg = true then cI (ev 65 0 [some (.inr (.inr (0, 0))), some (.inl (s.1 60 0 (l3 + 1).toNatClampNeg)), some (.inl (s.1 60 0 (l3 + 2).toNatClampNeg)), some (.inl (s.1 60 0 (l3 + 3).toNatClampNeg)), none, none] [] s) (fun x1 s1 => (if ixB (l3 + 1) (s1.1 60 1 0).toNatClampNeg = true then (if ixB (l3 + 2) (s1.1 60 1 0).toNatClampNeg = true then (if ixB (l3 + 3) (s1.1 60 1 0).toNatClampNeg = true then cI (ev 162 0 [some (.inr (.inr (30, 0))), some (.inl (s1.1 60 0 (l3 + 1).toNatClampNeg)), some (.inl (s1.1 60 0 (l3 + 2).toNatClampNeg)), some (.inl (s1.1 60 0 (l3 + 3).toNatClampNeg)), none, none] [] s1) (fun x2 s2 => (if x1 = x2 then ev 237 1445 [some (.inr (.inr (60, 0))), some (.inr (.inr (0, 0))), some (.inr (.inr (30, 0))), some (.inl l3)] [] s2 else some (some (.inl 0), s2))) else none) else none) else none)) else none) else none) else none) := (ev_go [18, 216, 249, 292, 325, 348, 411, 434, 467, 510, 533, 566, 589, 622, 675, 698, 731, 764, 797, 810, 833, 866, 879, 902, 925, 958, 991, 1024, 1067, 1110, 1143, 1166, 1209, 1242, 1285, 1298, 1331, 1344, 1358, 1372, 1395, 1408, 1431, 1445] 60 237 467 [some (.inr (.inr (60, 0))), some (.inr (.inr (0, 0))), some (.inr (.inr (30, 0))), some (.inl l3)] [] s).trans rfl
set_option maxRecDepth 20000 in
theorem q_237_at510 (l3 : Int32) (s : SS) : ev 237 510 [some (.inr (.inr (60, 0))), some (.inr (.inr (0, 0))), some (.inr (.inr (30, 0))), some (.inl l3)] [] s = (if ixB (l3 + 1) (s.1 60 1 0).toNatClampNeg = true then cI (ev 66 0 [some (.inr (.inr (0, 0))), some (.inl (s.1 60 0 (l3 + 1).toNatClampNeg)), none] [] s) (fun x1 s1 => (if ixB (l3 + 1) (s1.1 60 1 0).toNatClampNeg = true then cI (ev 165 0 [some (.inr (.inr (30, 0))), some (.inl (s1.1 60 0 (l3 + 1).toNatClampNeg)), none] [] s1) (fun x2 s2 => (if x1 = x2 then ev 237 1445 [some (.inr (.inr (60, 0))), some (.inr (.inr (0, 0))), some (.inr (.inr (30, 0))), some (.inl l3)] [] s2 else some (some (.inl 0), s2))) else none)) else none) := (ev_go [18, 216, 249, 292, 325, 348, 411, 434, 467, 510, 533, 566, 589, 622, 675, 698, 731, 764, 797, 810, 833, 866, 879, 902, 925, 958, 991, 1024, 1067, 1110, 1143, 1166, 1209, 1242, 1285, 1298, 1331, 1344, 1358, 1372, 1395, 1408, 1431, 1445] 60 237 510 [some (.inr (.inr (60, 0))), some (.inr (.inr (0, 0))), some (.inr (.inr (30, 0))), some (.inl l3)] [] s).trans rfl
set_option maxRecDepth 20000 in
theorem q_237_at533 (l3 : Int32) (s : SS) : ev 237 533 [some (.inr (.inr (60, 0))), some (.inr (.inr (0, 0))), some (.inr (.inr (30, 0))), some (.inl l3)] [] s = (if ixB (l3 + 1) (s.1 60 1 0).toNatClampNeg = true then (if ixB (l3 + 2) (s.1 60 1 0).toNatClampNeg = true then cI (ev 67 0 [some (.inr (.inr (0, 0))), some (.inl (s.1 60 0 (l3 + 1).toNatClampNeg)), some (.inl (s.1 60 0 (l3 + 2).toNatClampNeg)), none] [] s) (fun x1 s1 => (if ixB (l3 + 1) (s1.1 60 1 0).toNatClampNeg = true then (if ixB (l3 + 2) (s1.1 60 1 0).toNatClampNeg = true then cI (ev 168 0 [some (.inr (.inr (30, 0))), some (.inl (s1.1 60 0 (l3 + 1).toNatClampNeg)), some (.inl (s1.1 60 0 (l3 + 2).toNatClampNeg)), none, none] [] s1) (fun x2 s2 => (if x1 = x2 then ev 237 1445 [some (.inr (.inr (60, 0))), some (.inr (.inr (0, 0))), some (.inr (.inr (30, 0))), some (.inl l3)] [] s2 else some (some (.inl 0), s2))) else none) else none)) else none) else none) := (ev_go [18, 216, 249, 292, 325, 348, 411, 434, 467, 510, 533, 566, 589, 622, 675, 698, 731, 764, 797, 810, 833, 866, 879, 902, 925, 958, 991, 1024, 1067, 1110, 1143, 1166, 1209, 1242, 1285, 1298, 1331, 1344, 1358, 1372, 1395, 1408, 1431, 1445] 60 237 533 [some (.inr (.inr (60, 0))), some (.inr (.inr (0, 0))), some (.inr (.inr (30, 0))), some (.inl l3)] [] s).trans rfl
set_option maxRecDepth 20000 in
theorem q_237_at566 (l3 : Int32) (s : SS) : ev 237 566 [some (.inr (.inr (60, 0))), some (.inr (.inr (0, 0))), some (.inr (.inr (30, 0))), some (.inl l3)] [] s = (if ixB (l3 + 1) (s.1 60 1 0).toNatClampNeg = true then cI (ev 68 0 [some (.inr (.inr (0, 0))), some (.inl (s.1 60 0 (l3 + 1).toNatClampNeg))] [] s) (fun x1 s1 => (if ixB (l3 + 1) (s1.1 60 1 0).toNatClampNeg = true then cI (ev 169 0 [some (.inr (.inr (30, 0))), some (.inl (s1.1 60 0 (l3 + 1).toNatClampNeg))] [] s1) (fun x2 s2 => (if x1 = x2 then ev 237 1445 [some (.inr (.inr (60, 0))), some (.inr (.inr (0, 0))), some (.inr (.inr (30, 0))), some (.inl l3)] [] s2 else some (some (.inl 0), s2))) else none)) else none) := (ev_go [18, 216, 249, 292, 325, 348, 411, 434, 467, 510, 533, 566, 589, 622, 675, 698, 731, 764, 797, 810, 833, 866, 879, 902, 925, 958, 991, 1024, 1067, 1110, 1143, 1166, 1209, 1242, 1285, 1298, 1331, 1344, 1358, 1372, 1395, 1408, 1431, 1445] 60 237 566 [some (.inr (.inr (60, 0))), some (.inr (.inr (0, 0))), some (.inr (.inr (30, 0))), some (.inl l3)] [] s).trans rfl
set_option maxRecDepth 20000 in
theorem q_237_at589 (l3 : Int32) (s : SS) : ev 237 589 [some (.inr (.inr (60, 0))), some (.inr (.inr (0, 0))), some (.inr (.inr (30, 0))), some (.inl l3)] [] s = (if ixB (l3 + 1) (s.1 60 1 0).toNatClampNeg = true then (if ixB (l3 + 2) (s.1 60 1 0).toNatClampNeg = true then cI (ev 69 0 [some (.inr (.inr (0, 0))), some (.inl (s.1 60 0 (l3 + 1).toNatClampNeg)), some (.inl (s.1 60 0 (l3 + 2).toNatClampNeg))] [] s) (fun x1 s1 => (if ixB (l3 + 1) (s1.1 60 1 0).toNatClampNeg = true then (if ixB (l3 + 2) (s1.1 60 1 0).toNatClampNeg = true then cI (ev 178 0 [some (.inr (.inr (30, 0))), some (.inl (s1.1 60 0 (l3 + 1).toNatClampNeg)), some (.inl (s1.1 60 0 (l3 + 2).toNatClampNeg)), none] [] s1) (fun x2 s2 => (if x1 = x2 then ev 237 1445 [some (.inr (.inr (60, 0))), some (.inr (.inr (0, 0))), some (.inr (.inr (30, 0))), some (.inl l3)] [] s2 else some (some (.inl 0), s2))) else none) else none)) else none) else none) := (ev_go [18, 216, 249, 292, 325, 348, 411, 434, 467, 510, 533, 566, 589, 622, 675, 698, 731, 764, 797, 810, 833, 866, 879, 902, 925, 958, 991, 1024, 1067, 1110, 1143, 1166, 1209, 1242, 1285, 1298, 1331, 1344, 1358, 1372, 1395, 1408, 1431, 1445] 60 237 589 [some (.inr (.inr (60, 0))), some (.inr (.inr (0, 0))), some (.inr (.inr (30, 0))), some (.inl l3)] [] s).trans rfl
set_option maxRecDepth 20000 in
theorem q_237_at622 (l3 : Int32) (s : SS) : ev 237 622 [some (.inr (.inr (60, 0))), some (.inr (.inr (0, 0))), some (.inr (.inr (30, 0))), some (.inl l3)] [] s = (if ixB (l3 + 1) (s.1 60 1 0).toNatClampNeg = true then (if ixB (l3 + 2) (s.1 60 1 0).toNatClampNeg = true then (if ixB (l3 + 3) (s.1 60 1 0).toNatClampNeg = true then (if ixB (l3 + 4) (s.1 60 1 0).toNatClampNeg = true then cI (ev 70 0 [some (.inr (.inr (0, 0))), some (.inl (s.1 60 0 (l3 + 1).toNatClampNeg)), some (.inl (s.1 60 0 (l3 + 2).toNatClampNeg)), some (.inl (s.1 60 0 (l3 + 3).toNatClampNeg)), some (.inl (s.1 60 0 (l3 + 4).toNatClampNeg)), none] [] s) (fun x1 s1 => (if ixB (l3 + 1) (s1.1 60 1 0).toNatClampNeg = true then (if ixB (l3 + 2) (s1.1 60 1 0).toNatClampNeg = true then (if ixB (l3 + 3) (s1.1 60 1 0).toNatClampNeg = true then (if ixB (l3 + 4) (s1.1 60 1 0).toNatClampNeg = true then cI (ev 183 0 [some (.inr (.inr (30, 0))), some (.inl (s1.1 60 0 (l3 + 1).toNatClampNeg)), some (.inl (s1.1 60 0 (l3 + 2).toNatClampNeg)), some (.inl (s1.1 60 0 (l3 + 3).toNatClampNeg)), some (.inl (s1.1 60 0 (l3 + 4).toNatClampNeg)), none] [] s1) (fun x2 s2 => (if x1 = x2 then ev 237 1445 [some (.inr (.inr (60, 0))), some (.inr (.inr (0, 0))), some (.inr (.inr (30, 0))), some (.inl l3)] [] s2 else some (some (.inl 0), s2))) else none) else none) else none) else none)) else none) else none) else none) else none) := (ev_go [18, 216, 249, 292, 325, 348, 411, 434, 467, 510, 533, 566, 589, 622, 675, 698, 731, 764, 797, 810, 833, 866, 879, 902, 925, 958, 991, 1024, 1067, 1110, 1143, 1166, 1209, 1242, 1285, 1298, 1331, 1344, 1358, 1372, 1395, 1408, 1431, 1445] 60 237 622 [some (.inr (.inr (60, 0))), some (.inr (.inr (0, 0))), some (.inr (.inr (30, 0))), some (.inl l3)] [] s).trans rfl
set_option maxRecDepth 20000 in
theorem q_237_at675 (l3 : Int32) (s : SS) : ev 237 675 [some (.inr (.inr (60, 0))), some (.inr (.inr (0, 0))), some (.inr (.inr (30, 0))), some (.inl l3)] [] s = (if ixB (l3 + 1) (s.1 60 1 0).toNatClampNeg = true then cI (ev 71 0 [some (.inr (.inr (0, 0))), some (.inl (s.1 60 0 (l3 + 1).toNatClampNeg))] [] s) (fun x1 s1 => (if ixB (l3 + 1) (s1.1 60 1 0).toNatClampNeg = true then cI (ev 184 0 [some (.inr (.inr (30, 0))), some (.inl (s1.1 60 0 (l3 + 1).toNatClampNeg)), none] [] s1) (fun x2 s2 => (if x1 = x2 then ev 237 1445 [some (.inr (.inr (60, 0))), some (.inr (.inr (0, 0))), some (.inr (.inr (30, 0))), some (.inl l3)] [] s2 else some (some (.inl 0), s2))) else none)) else none) := (ev_go [18, 216, 249, 292, 325, 348, 411, 434, 467, 510, 533, 566, 589, 622, 675, 698, 731, 764, 797, 810, 833, 866, 879, 902, 925, 958, 991, 1024, 1067, 1110, 1143, 1166, 1209, 1242, 1285, 1298, 1331, 1344, 1358, 1372, 1395, 1408, 1431, 1445] 60 237 675 [some (.inr (.inr (60, 0))), some (.inr (.inr (0, 0))), some (.inr (.inr (30, 0))), some (.inl l3)] [] s).trans rfl
set_option maxRecDepth 20000 in
theorem q_237_at698 (l3 : Int32) (s : SS) : ev 237 698 [some (.inr (.inr (60, 0))), some (.inr (.inr (0, 0))), some (.inr (.inr (30, 0))), some (.inl l3)] [] s = (if ixB (l3 + 1) (s.1 60 1 0).toNatClampNeg = true then (if ixB (l3 + 2) (s.1 60 1 0).toNatClampNeg = true then cI (ev 72 0 [some (.inr (.inr (0, 0))), some (.inl (s.1 60 0 (l3 + 1).toNatClampNeg)), some (.inl (s.1 60 0 (l3 + 2).toNatClampNeg)), none] [] s) (fun x1 s1 => (if ixB (l3 + 1) (s1.1 60 1 0).toNatClampNeg = true then (if ixB (l3 + 2) (s1.1 60 1 0).toNatClampNeg = true then cI (ev 187 0 [some (.inr (.inr (30, 0))), some (.inl (s1.1 60 0 (l3 + 1).toNatClampNeg)), some (.inl (s1.1 60 0 (l3 + 2).toNatClampNeg)), none, none] [] s1) (fun x2 s2 => (if x1 = x2 then ev 237 1445 [some (.inr (.inr (60, 0))), some (.inr (.inr (0, 0))), some (.inr (.inr (30, 0))), some (.inl l3)] [] s2 else some (some (.inl 0), s2))) else none) else none)) else none) else none) := (ev_go [18, 216, 249, 292, 325, 348, 411, 434, 467, 510, 533, 566, 589, 622, 675, 698, 731, 764, 797, 810, 833, 866, 879, 902, 925, 958, 991, 1024, 1067, 1110, 1143, 1166, 1209, 1242, 1285, 1298, 1331, 1344, 1358, 1372, 1395, 1408, 1431, 1445] 60 237 698 [some (.inr (.inr (60, 0))), some (.inr (.inr (0, 0))), some (.inr (.inr (30, 0))), some (.inl l3)] [] s).trans rfl
set_option maxRecDepth 20000 in
theorem q_237_at731 (l3 : Int32) (s : SS) : ev 237 731 [some (.inr (.inr (60, 0))), some (.inr (.inr (0, 0))), some (.inr (.inr (30, 0))), some (.inl l3)] [] s = (if ixB (l3 + 1) (s.1 60 1 0).toNatClampNeg = true then (if ixB (l3 + 2) (s.1 60 1 0).toNatClampNeg = true then cI (ev 73 0 [some (.inr (.inr (0, 0))), some (.inl (s.1 60 0 (l3 + 1).toNatClampNeg)), some (.inl (s.1 60 0 (l3 + 2).toNatClampNeg))] [] s) (fun x1 s1 => (if ixB (l3 + 1) (s1.1 60 1 0).toNatClampNeg = true then (if ixB (l3 + 2) (s1.1 60 1 0).toNatClampNeg = true then cI (ev 189 0 [some (.inr (.inr (30, 0))), some (.inl (s1.1 60 0 (l3 + 1).toNatClampNeg)), some (.inl (s1.1 60 0 (l3 + 2).toNatClampNeg)), none] [] s1) (fun x2 s2 => (if x1 = x2 then ev 237 1445 [some (.inr (.inr (60, 0))), some (.inr (.inr (0, 0))), some (.inr (.inr (30, 0))), some (.inl l3)] [] s2 else some (some (.inl 0), s2))) else none) else none)) else none) else none) := (ev_go [18, 216, 249, 292, 325, 348, 411, 434, 467, 510, 533, 566, 589, 622, 675, 698, 731, 764, 797, 810, 833, 866, 879, 902, 925, 958, 991, 1024, 1067, 1110, 1143, 1166, 1209, 1242, 1285, 1298, 1331, 1344, 1358, 1372, 1395, 1408, 1431, 1445] 60 237 731 [some (.inr (.inr (60, 0))), some (.inr (.inr (0, 0))), some (.inr (.inr (30, 0))), some (.inl l3)] [] s).trans rfl
set_option maxRecDepth 20000 in
theorem q_237_at764 (l3 : Int32) (s : SS) : ev 237 764 [some (.inr (.inr (60, 0))), some (.inr (.inr (0, 0))), some (.inr (.inr (30, 0))), some (.inl l3)] [] s = (if ixB (l3 + 1) (s.1 60 1 0).toNatClampNeg = true then (if ixB (l3 + 2) (s.1 60 1 0).toNatClampNeg = true then cI (ev 74 0 [some (.inr (.inr (0, 0))), some (.inl (s.1 60 0 (l3 + 1).toNatClampNeg)), some (.inl (s.1 60 0 (l3 + 2).toNatClampNeg))] [] s) (fun x1 s1 => (if ixB (l3 + 1) (s1.1 60 1 0).toNatClampNeg = true then (if ixB (l3 + 2) (s1.1 60 1 0).toNatClampNeg = true then cI (ev 193 0 [some (.inr (.inr (30, 0))), some (.inl (s1.1 60 0 (l3 + 1).toNatClampNeg)), some (.inl (s1.1 60 0 (l3 + 2).toNatClampNeg)), none, none] [] s1) (fun x2 s2 => (if x1 = x2 then ev 237 1445 [some (.inr (.inr (60, 0))), some (.inr (.inr (0, 0))), some (.inr (.inr (30, 0))), some (.inl l3)] [] s2 else some (some (.inl 0), s2))) else none) else none)) else none) else none) := (ev_go [18, 216, 249, 292, 325, 348, 411, 434, 467, 510, 533, 566, 589, 622, 675, 698, 731, 764, 797, 810, 833, 866, 879, 902, 925, 958, 991, 1024, 1067, 1110, 1143, 1166, 1209, 1242, 1285, 1298, 1331, 1344, 1358, 1372, 1395, 1408, 1431, 1445] 60 237 764 [some (.inr (.inr (60, 0))), some (.inr (.inr (0, 0))), some (.inr (.inr (30, 0))), some (.inl l3)] [] s).trans rfl
set_option maxRecDepth 20000 in
theorem q_237_at797 (l3 : Int32) (s : SS) : ev 237 797 [some (.inr (.inr (60, 0))), some (.inr (.inr (0, 0))), some (.inr (.inr (30, 0))), some (.inl l3)] [] s = cI (ev 75 0 [some (.inr (.inr (0, 0)))] [] s) (fun x1 s1 => cI (ev 204 0 [some (.inr (.inr (30, 0)))] [] s1) (fun x2 s2 => (if x1 = x2 then ev 237 1445 [some (.inr (.inr (60, 0))), some (.inr (.inr (0, 0))), some (.inr (.inr (30, 0))), some (.inl l3)] [] s2 else some (some (.inl 0), s2)))) := (ev_go [18, 216, 249, 292, 325, 348, 411, 434, 467, 510, 533, 566, 589, 622, 675, 698, 731, 764, 797, 810, 833, 866, 879, 902, 925, 958, 991, 1024, 1067, 1110, 1143, 1166, 1209, 1242, 1285, 1298, 1331, 1344, 1358, 1372, 1395, 1408, 1431, 1445] 60 237 797 [some (.inr (.inr (60, 0))), some (.inr (.inr (0, 0))), some (.inr (.inr (30, 0))), some (.inl l3)] [] s).trans rfl
set_option maxRecDepth 20000 in
theorem q_237_at810 (l3 : Int32) (s : SS) : ev 237 810 [some (.inr (.inr (60, 0))), some (.inr (.inr (0, 0))), some (.inr (.inr (30, 0))), some (.inl l3)] [] s = (if ixB (l3 + 1) (s.1 60 1 0).toNatClampNeg = true then cI (ev 76 0 [some (.inr (.inr (0, 0))), some (.inl (s.1 60 0 (l3 + 1).toNatClampNeg))] [] s) (fun x1 s1 => (if ixB (l3 + 1) (s1.1 60 1 0).toNatClampNeg = true then cI (ev 206 0 [some (.inr (.inr (30, 0))), some (.inl (s1.1 60 0 (l3 + 1).toNatClampNeg)), none, none, none, none] [] s1) (fun x2 s2 => (if x1 = x2 then ev 237 1445 [some (.inr (.inr (60, 0))), some (.inr (.inr (0, 0))), some (.inr (.inr (30, 0))), some (.inl l3)] [] s2 else some (some (.inl 0), s2))) else none)) else none) := (ev_go [18, 216, 249, 292, 325, 348, 411, 434, 467, 510, 533, 566, 589, 622, 675, 698, 731, 764, 797, 810, 833, 866, 879, 902, 925, 958, 991, 1024, 1067, 1110, 1143, 1166, 1209, 1242, 1285, 1298, 1331, 1344, 1358, 1372, 1395, 1408, 1431, 1445] 60 237 810 [some (.inr (.inr (60, 0))), some (.inr (.inr (0, 0))), some (.inr (.inr (30, 0))), some (.inl l3)] [] s).trans rfl
set_option maxRecDepth 20000 in
theorem q_237_at833 (l3 : Int32) (s : SS) : ev 237 833 [some (.inr (.inr (60, 0))), some (.inr (.inr (0, 0))), some (.inr (.inr (30, 0))), some (.inl l3)] [] s = (if ixB (l3 + 1) (s.1 60 1 0).toNatClampNeg = true then (if ixB (l3 + 2) (s.1 60 1 0).toNatClampNeg = true then cI (ev 77 0 [some (.inr (.inr (0, 0))), some (.inl (s.1 60 0 (l3 + 1).toNatClampNeg)), some (.inl (s.1 60 0 (l3 + 2).toNatClampNeg))] [] s) (fun x1 s1 => (if ixB (l3 + 1) (s1.1 60 1 0).toNatClampNeg = true then (if ixB (l3 + 2) (s1.1 60 1 0).toNatClampNeg = true then cI (ev 207 0 [some (.inr (.inr (30, 0))), some (.inl (s1.1 60 0 (l3 + 1).toNatClampNeg)), some (.inl (s1.1 60 0 (l3 + 2).toNatClampNeg))] [] s1) (fun x2 s2 => (if x1 = x2 then ev 237 1445 [some (.inr (.inr (60, 0))), some (.inr (.inr (0, 0))), some (.inr (.inr (30, 0))), some (.inl l3)] [] s2 else some (some (.inl 0), s2))) else none) else none)) else none) else none) := (ev_go [18, 216, 249, 292, 325, 348, 411, 434, 467, 510, 533, 566, 589, 622, 675, 698, 731, 764, 797, 810, 833, 866, 879, 902, 925, 958, 991, 1024, 1067, 1110, 1143, 1166, 1209, 1242, 1285, 1298, 1331, 1344, 1358, 1372, 1395, 1408, 1431, 1445] 60 237 833 [some (.inr (.inr (60, 0))), some (.inr (.inr (0, 0))), some (.inr (.inr (30, 0))), some (.inl l3)] [] s).trans rfl
set_option maxRecDepth 20000 in
theorem q_237_at866 (l3 : Int32) (s : SS) : ev 237 866 [some (.inr (.inr (60, 0))), some (.inr (.inr (0, 0))), some (.inr (.inr (30, 0))), some (.inl l3)] [] s = cI (ev 78 0 [some (.inr (.inr (0, 0)))] [] s) (fun x1 s1 => cI (ev 208 0 [some (.inr (.inr (30, 0)))] [] s1) (fun x2 s2 => (if x1 = x2 then ev 237 1445 [some (.inr (.inr (60, 0))), some (.inr (.inr (0, 0))), some (.inr (.inr (30, 0))), some (.inl l3)] [] s2 else some (some (.inl 0), s2)))) := (ev_go [18, 216, 249, 292, 325, 348, 411, 434, 467, 510, 533, 566, 589, 622, 675, 698, 731, 764, 797, 810, 833, 866, 879, 902, 925, 958, 991, 1024, 1067, 1110, 1143, 1166, 1209, 1242, 1285, 1298, 1331, 1344, 1358, 1372, 1395, 1408, 1431, 1445] 60 237 866 [some (.inr (.inr (60, 0))), some (.inr (.inr (0, 0))), some (.inr (.inr (30, 0))), some (.inl l3)] [] s).trans rfl
set_option maxRecDepth 20000 in
theorem q_237_at879 (l3 : Int32) (s : SS) : ev 237 879 [some (.inr (.inr (60, 0))), some (.inr (.inr (0, 0))), some (.inr (.inr (30, 0))), some (.inl l3)] [] s = (if ixB (l3 + 1) (s.1 60 1 0).toNatClampNeg = true then cI (ev 79 0 [some (.inr (.inr (0, 0))), some (.inl (s.1 60 0 (l3 + 1).toNatClampNeg))] [] s) (fun x1 s1 => (if ixB (l3 + 1) (s1.1 60 1 0).toNatClampNeg = true then cI (ev 209 0 [some (.inr (.inr (30, 0))), some (.inl (s1.1 60 0 (l3 + 1).toNatClampNeg)), none, none, none] [] s1) (fun x2 s2 => (if x1 = x2 then ev 237 1445 [some (.inr (.inr (60, 0))), some (.inr (.inr (0, 0))), some (.inr (.inr (30, 0))), some (.inl l3)] [] s2 else some (some (.inl 0), s2))) else none)) else none) := (ev_go [18, 216, 249, 292, 325, 348, 411, 434, 467, 510, 533, 566, 589, 622, 675, 698, 731, 764, 797, 810, 833, 866, 879, 902, 925, 958, 991, 1024, 1067, 1110, 1143, 1166, 1209, 1242, 1285, 1298, 1331, 1344, 1358, 1372, 1395, 1408, 1431, 1445] 60 237 879 [some (.inr (.inr (60, 0))), some (.inr (.inr (0, 0))), some (.inr (.inr (30, 0))), some (.inl l3)] [] s).trans rfl
set_option maxRecDepth 20000 in
theorem q_237_at902 (l3 : Int32) (s : SS) : ev 237 902 [some (.inr (.inr (60, 0))), some (.inr (.inr (0, 0))), some (.inr (.inr (30, 0))), some (.inl l3)] [] s = (if ixB (l3 + 1) (s.1 60 1 0).toNatClampNeg = true then cI (ev 80 0 [some (.inr (.inr (0, 0))), some (.inl (s.1 60 0 (l3 + 1).toNatClampNeg))] [] s) (fun x1 s1 => (if ixB (l3 + 1) (s1.1 60 1 0).toNatClampNeg = true then cI (ev 210 0 [some (.inr (.inr (30, 0))), some (.inl (s1.1 60 0 (l3 + 1).toNatClampNeg))] [] s1) (fun x2 s2 => (if x1 = x2 then ev 237 1445 [some (.inr (.inr (60, 0))), some (.inr (.inr (0, 0))), some (.inr (.inr (30, 0))), some (.inl l3)] [] s2 else some (some (.inl 0), s2))) else none)) else none) := (ev_go [18, 216, 249, 292, 325, 348, 411, 434, 467, 510, 533, 566, 589, 622, 675, 698, 731, 764, 797, 810, 833, 866, 879, 902, 925, 958, 991, 1024, 1067, 1110, 1143, 1166, 1209, 1242, 1285, 1298, 1331, 1344, 1358, 1372, 1395, 1408, 1431, 1445] 60 237 902 [some (.inr (.inr (60, 0))), some (.inr (.inr (0, 0))), some (.inr (.inr (30, 0))), some (.inl l3)] [] s).trans rfl
set_option maxRecDepth 20000 in
theorem q_237_at925 (l3 : Int32) (s : SS) : ev 237 925 [some (.inr (.inr (60, 0))), some (.inr (.inr (0, 0))), some (.inr (.inr (30, 0))), some (.inl l3)] [] s = (if ixB (l3 + 1) (s.1 60 1 0).toNatClampNeg = true then (if ixB (l3 + 2) (s.1 60 1 0).toNatClampNeg = true then cI (ev 81 0 [some (.inr (.inr (0, 0))), some (.inl (s.1 60 0 (l3 + 1).toNatClampNeg)), some (.inl (s.1 60 0 (l3 + 2).toNatClampNeg))] [] s) (fun x1 s1 => (if ixB (l3 + 1) (s1.1 60 1 0).toNatClampNeg = true then (if ixB (l3 + 2) (s1.1 60 1 0).toNatClampNeg = true then cI (ev 211 0 [some (.inr (.inr (30, 0))), some (.inl (s1.1 60 0 (l3 + 1).toNatClampNeg)), some (.inl (s1.1 60 0 (l3 + 2).toNatClampNeg))] [] s1) (fun x2 s2 => (if x1 = x2 then ev 237 1445 [some (.inr (.inr (60, 0))), some (.inr (.inr (0, 0))), some (.inr (.inr (30, 0))), some (.inl l3)] [] s2 else some (some (.inl 0), s2))) else none) else none)) else none) else none) := (ev_go [18, 216, 249, 292, 325, 348, 411, 434, 467, 510, 533, 566, 589, 622, 675, 698, 731, 764, 797, 810, 833, 866, 879, 902, 925, 958, 991, 1024, 1067, 1110, 1143, 1166, 1209, 1242, 1285, 1298, 1331, 1344, 1358, 1372, 1395, 1408, 1431, 1445] 60 237 925 [some (.inr (.inr (60, 0))), some (.inr (.inr (0, 0))), some (.inr (.inr (30, 0))), some (.inl l3)] [] s).trans rfl
set_option maxRecDepth 20000 in
theorem q_237_at958 (l3 : Int32) (s : SS) : ev 237 958 [some (.inr (.inr (60, 0))), some (.inr (.inr (0, 0))), some (.inr (.inr (30, 0))), some (.inl l3)] [] s = (if ixB (l3 + 1) (s.1 60 1 0).toNatClampNeg = true then (if ixB (l3 + 2) (s.1 60 1 0).toNatClampNeg = true then cI (ev 82 0 [some (.inr (.inr (0, 0))), some (.inl (s.1 60 0 (l3 + 1).toNatClampNeg)), some (.inl (s.1 60 0 (l3 + 2).toNatClampNeg))] [] s) (fun x1 s1 => (if ixB (l3 + 1) (s1.1 60 1 0).toNatClampNeg = true then (if ixB (l3 + 2) (s1.1 60 1 0).toNatClampNeg = true then cI (ev 212 0 [some (.inr (.inr (30, 0))), some (.inl (s1.1 60 0 (l3 + 1).toNatClampNeg)), some (.inl (s1.1 60 0 (l3 + 2).toNatClampNeg)), none] [] s1) (fun x2 s2 => (if x1 = x2 then ev 237 1445 [some (.inr (.inr (60, 0))), some (.inr (.inr (0, 0))), some (.inr (.inr (30, 0))), some (.inl l3)] [] s2 else some (some (.inl 0), s2))) else none) else none)) else none) else none) := (ev_go [18, 216, 249, 292, 325, 348, 411, 434, 467, 510, 533, 566, 589, 622, 675, 698, 731, 764, 797, 810, 833, 866, 879, 902, 925, 958, 991, 1024, 1067, 1110, 1143, 1166, 1209, 1242, 1285, 1298, 1331, 1344, 1358, 1372, 1395, 1408, 1431, 1445] 60 237 958 [some (.inr (.inr (60, 0))), some (.inr (.inr (0, 0))), some (.inr (.inr (30, 0))), some (.inl l3)] [] s).trans rfl
set_option maxRecDepth 20000 in
theorem q_237_at991 (l3 : Int32) (s : SS) : ev 237 991 [some (.inr (.inr (60, 0))), some (.inr (.inr (0, 0))), some (.inr (.inr (30, 0))), some (.inl l3)] [] s = (if ixB (l3 + 1) (s.1 60 1 0).toNatClampNeg = true then (if ixB (l3 + 2) (s.1 60 1 0).toNatClampNeg = true then cI (ev 83 0 [some (.inr (.inr (0, 0))), some (.inl (s.1 60 0 (l3 + 1).toNatClampNeg)), some (.inl (s.1 60 0 (l3 + 2).toNatClampNeg)), none] [] s) (fun x1 s1 => (if ixB (l3 + 1) (s1.1 60 1 0).toNatClampNeg = true then (if ixB (l3 + 2) (s1.1 60 1 0).toNatClampNeg = true then cI (ev 214 0 [some (.inr (.inr (30, 0))), some (.inl (s1.1 60 0 (l3 + 1).toNatClampNeg)), some (.inl (s1.1 60 0 (l3 + 2).toNatClampNeg)), none, none, none] [] s1) (fun x2 s2 => (if x1 = x2 then ev 237 1445 [some (.inr (.inr (60, 0))), some (.inr (.inr (0, 0))), some (.inr (.inr (30, 0))), some (.inl l3)] [] s2 else some (some (.inl 0), s2))) else none) else none)) else none) else none) := (ev_go [18, 216, 249, 292, 325, 348, 411, 434, 467, 510, 533, 566, 589, 622, 675, 698, 731, 764, 797, 810, 833, 866, 879, 902, 925, 958, 991, 1024, 1067, 1110, 1143, 1166, 1209, 1242, 1285, 1298, 1331, 1344, 1358, 1372, 1395, 1408, 1431, 1445] 60 237 991 [some (.inr (.inr (60, 0))), some (.inr (.inr (0, 0))), some (.inr (.inr (30, 0))), some (.inl l3)] [] s).trans rfl
set_option maxRecDepth 20000 in
theorem q_237_at1024 (l3 : Int32) (s : SS) : ev 237 1024 [some (.inr (.inr (60, 0))), some (.inr (.inr (0, 0))), some (.inr (.inr (30, 0))), some (.inl l3)] [] s = (if ixB (l3 + 1) (s.1 60 1 0).toNatClampNeg = true then (if ixB (l3 + 2) (s.1 60 1 0).toNatClampNeg = true then (if ixB (l3 + 3) (s.1 60 1 0).toNatClampNeg = true then cI (ev 84 0 [some (.inr (.inr (0, 0))), some (.inl (s.1 60 0 (l3 + 1).toNatClampNeg)), some (.inl (s.1 60 0 (l3 + 2).toNatClampNeg)), some (.inl (s.1 60 0 (l3 + 3).toNatClampNeg)), none, none, none, none, none, none, none] [] s) (fun x1 s1 => (if ixB (l3 + 1) (s1.1 60 1 0).toNatClampNeg = true then (if ixB (l3 + 2) (s1.1 60 1 0).toNatClampNeg = true then (if ixB (l3 + 3) (s1.1 60 1 0).toNatClampNeg = true then cI (ev 215 0 [some (.inr (.inr (30, 0))), some (.inl (s1.1 60 0 (l3 + 1).toNatClampNeg)), some (.inl (s1.1 60 0 (l3 + 2).toNatClampNeg)), some (.inl (s1.1 60 0 (l3 + 3).toNatClampNeg)), none, none, none, none, none, none, none, none, none, none] [] s1) (fun x2 s2 => (if x1 = x2 then ev 237 1445 [some (.inr (.inr (60, 0))), some (.inr (.inr (0, 0))), some (.inr (.inr (30, 0))), some (.inl l3)] [] s2 else some (some (.inl 0), s2))) else none) else none) else none)) else none) else none) else none) := (ev_go [18, 216, 249, 292, 325, 348, 411, 434, 467, 510, 533, 566, 589, 622, 675, 698, 731, 764, 797, 810, 833, 866, 879, 902, 925, 958, 991, 1024, 1067, 1110, 1143, 1166, 1209, 1242, 1285, 1298, 1331, 1344, 1358, 1372, 1395, 1408, 1431, 1445] 60 237 1024 [some (.inr (.inr (60, 0))), some (.inr (.inr (0, 0))), some (.inr (.inr (30, 0))), some (.inl l3)] [] s).trans rfl
set_option maxRecDepth 20000 in
theorem q_237_at1067 (l3 : Int32) (s : SS) : ev 237 1067 [some (.inr (.inr (60, 0))), some (.inr (.inr (0, 0))), some (.inr (.inr (30, 0))), some (.inl l3)] [] s = (if ixB (l3 + 1) (s.1 60 1 0).toNatClampNeg = true then (if ixB (l3 + 2) (s.1 60 1 0).toNatClampNeg = true then (if ixB (l3 + 3) (s.1 60 1 0).toNatClampNeg = true then cI (ev 85 0 [some (.inr (.inr (0, 0))), some (.inl (s.1 60 0 (l3 + 1).toNatClampNeg)), some (.inl (s.1 60 0 (l3 + 2).toNatClampNeg)), some (.inl (s.1 60 0 (l3 + 3).toNatClampNeg)), none, none] [] s) (fun x1 s1 => (if ixB (l3 + 1) (s1.1 60 1 0).toNatClampNeg = true then (if ixB (l3 + 2) (s1.1 60 1 0).toNatClampNeg = true then (if ixB (l3 + 3) (s1.1 60 1 0).toNatClampNeg = true then cI (ev 218 0 [some (.inr (.inr (30, 0))), some (.inl (s1.1 60 0 (l3 + 1).toNatClampNeg)), some (.inl (s1.1 60 0 (l3 + 2).toNatClampNeg)), some (.inl (s1.1 60 0 (l3 + 3).toNatClampNeg)), none, none, none, none, none, none, none, none, none, none, none, none, none, none, none, none] [] s1) (fun x2 s2 => (if x1 = x2 then ev 237 1445 [some (.inr (.inr (60, 0))), some (.inr (.inr (0, 0))), some (.inr (.inr (30, 0))), some (.inl l3)] [] s2 else some (some (.inl 0), s2))) else none) else none) else none)) else none) else none) else none) := (ev_go [18, 216, 249, 292, 325, 348, 411, 434, 467, 510, 533, 566, 589, 622, 675, 698, 731, 764, 797, 810, 833, 866, 879, 902, 925, 958, 991, 1024, 1067, 1110, 1143, 1166, 1209, 1242, 1285, 1298, 1331, 1344, 1358, 1372, 1395, 1408, 1431, 1445] 60 237 1067 [some (.inr (.inr (60, 0))), some (.inr (.inr (0, 0))), some (.inr (.inr (30, 0))), some (.inl l3)] [] s).trans rfl
set_option maxRecDepth 20000 in
theorem q_237_at1110 (l3 : Int32) (s : SS) : ev 237 1110 [some (.inr (.inr (60, 0))), some (.inr (.inr (0, 0))), some (.inr (.inr (30, 0))), some (.inl l3)] [] s = (if ixB (l3 + 1) (s.1 60 1 0).toNatClampNeg = true then (if ixB (l3 + 2) (s.1 60 1 0).toNatClampNeg = true then cI (ev 86 0 [some (.inr (.inr (0, 0))), some (.inl (s.1 60 0 (l3 + 1).toNatClampNeg)), some (.inl (s.1 60 0 (l3 + 2).toNatClampNeg)), none, none, none, none, none, none, none, none] [] s) (fun x1 s1 => (if ixB (l3 + 1) (s1.1 60 1 0).toNatClampNeg = true then (if ixB (l3 + 2) (s1.1 60 1 0).toNatClampNeg = true then cI (ev 219 0 [some (.inr (.inr (30, 0))), some (.inl (s1.1 60 0 (l3 + 1).toNatClampNeg)), some (.inl (s1.1 60 0 (l3 + 2).toNatClampNeg)), none, none, none, none, none] [] s1) (fun x2 s2 => (if x1 = x2 then ev 237 1445 [some (.inr (.inr (60, 0))), some (.inr (.inr (0, 0))), some (.inr (.inr (30, 0))), some (.inl l3)] [] s2 else some (some (.inl 0), s2))) else none) else none)) else none) else none) := (ev_go [18, 216, 249, 292, 325, 348, 411, 434, 467, 510, 533, 566, 589, 622, 675, 698, 731, 764, 797, 810, 833, 866, 879, 902, 925, 958, 991, 1024, 1067, 1110, 1143, 1166, 1209, 1242, 1285, 1298, 1331, 1344, 1358, 1372, 1395, 1408, 1431, 1445] 60 237 1110 [some (.inr (.inr (60, 0))), some (.inr (.inr (0, 0))), some (.inr (.inr (30, 0))), some (.inl l3)] [] s).trans rfl
set_option maxRecDepth 20000 in
theorem q_237_at1143 (l3 : Int32) (s : SS) : ev 237 1143 [some (.inr (.inr (60, 0))), some (.inr (.inr (0, 0))), some (.inr (.inr (30, 0))), some (.inl l3)] [] s = (if ixB (l3 + 1) (s.1 60 1 0).toNatClampNeg = true then cI (ev 87 0 [some (.inr (.inr (0, 0))), some (.inl (s.1 60 0 (l3 + 1).toNatClampNeg)), none, none] [] s) (fun x1 s1 => (if ixB (l3 + 1) (s1.1 60 1 0).toNatClampNeg = true then cI (ev 220 0 [some (.inr (.inr (30, 0))), some (.inl (s1.1 60 0 (l3 + 1).toNatClampNeg)), none, none, none] [] s1) (fun x2 s2 => (if x1 = x2 then ev 237 1445 [some (.inr (.inr (60, 0))), some (.inr (.inr (0, 0))), some (.inr (.inr (30, 0))), some (.inl l3)] [] s2 else some (some (.inl 0), s2))) else none)) else none) := (ev_go [18, 216, 249, 292, 325, 348, 411, 434, 467, 510, 533, 566, 589, 622, 675, 698, 731, 764, 797, 810, 833, 866, 879, 902, 925, 958, 991, 1024, 1067, 1110, 1143, 1166, 1209, 1242, 1285, 1298, 1331, 1344, 1358, 1372, 1395, 1408, 1431, 1445] 60 237 1143 [some (.inr (.inr (60, 0))), some (.inr (.inr (0, 0))), some (.inr (.inr (30, 0))), some (.inl l3)] [] s).trans rfl
set_option maxRecDepth 20000 in
theorem q_237_at1166 (l3 : Int32) (s : SS) : ev 237 1166 [some (.inr (.inr (60, 0))), some (.inr (.inr (0, 0))), some (.inr (.inr (30, 0))), some (.inl l3)] [] s = (if ixB (l3 + 1) (s.1 60 1 0).toNatClampNeg = true then (if ixB (l3 + 2) (s.1 60 1 0).toNatClampNeg = true then (if ixB (l3 + 3) (s.1 60 1 0).toNatClampNeg = true then cI (ev 88 0 [some (.inr (.inr (0, 0))), some (.inl (s.1 60 0 (l3 + 1).toNatClampNeg)), some (.inl (s.1 60 0 (l3 + 2).toNatClampNeg)), some (.inl (s.1 60 0 (l3 + 3).toNatClampNeg))] [] s) (fun x1 s1 => (if ixB (l3 + 1) (s1.1 60 1 0).toNatClampNeg = true then (if ixB (l3 + 2) (s1.1 60 1 0).toNatClampNeg = true then (if ixB (l3 + 3) (s1.1 60 1 0).toNatClampNeg = true then cI (ev 221 0 [some (.inr (.inr (30, 0))), some (.inl (s1.1 60 0 (l3 + 1).toNatClampNeg)), some (.inl (s1.1 60 0 (l3 + 2).toNatClampNeg)), some (.inl (s1.1 60 0 (l3 + 3).toNatClampNeg)), none, none, none] [] s1) (fun x2 s2 => (if x1 = x2 then ev 237 1445 [some (.inr (.inr (60, 0))), some (.inr (.inr (0, 0))), some (.inr (.inr (30, 0))), some (.inl l3)] [] s2 else some (some (.inl 0), s2))) else none) else none) else none)) else none) else none) else none) := (ev_go [18, 216, 249, 292, 325, 348, 411, 434, 467, 510, 533, 566, 589, 622, 675, 698, 731, 764, 797, 810, 833, 866, 879, 902, 925, 958, 991, 1024, 1067, 1110, 1143, 1166, 1209, 1242, 1285, 1298, 1331, 1344, 1358, 1372, 1395, 1408, 1431, 1445] 60 237 1166 [some (.inr (.inr (60, 0))), some (.inr (.inr (0, 0))), some (.inr (.inr (30, 0))), some (.inl l3)] [] s).trans rfl
set_option maxRecDepth 20000 in
theorem q_237_at1209 (l3 : Int32) (s : SS) : ev 237 1209 [some (.inr (.inr (60, 0))), some (.inr (.inr (0, 0))), some (.inr (.inr (30, 0))), some (.inl l3)] [] s = (if ixB (l3 + 1) (s.1 60 1 0).toNatClampNeg = true then (if ixB (l3 + 2) (s.1 60 1 0).toNatClampNeg = true then cI (ev 89 0 [some (.inr (.inr (0, 0))), some (.inl (s.1 60 0 (l3 + 1).toNatClampNeg)), some (.inl (s.1 60 0 (l3 + 2).toNatClampNeg)), none, none, none, none, none, none] [] s) (fun x1 s1 => (if ixB (l3 + 1) (s1.1 60 1 0).toNatClampNeg = true then (if ixB (l3 + 2) (s1.1 60 1 0).toNatClampNeg = true then cI (ev 224 0 [some (.inr (.inr (30, 0))), some (.inl (s1.1 60 0 (l3 + 1).toNatClampNeg)), some (.inl (s1.1 60 0 (l3 + 2).toNatClampNeg)), none, none, none] [] s1) (fun x2 s2 => (if x1 = x2 then ev 237 1445 [some (.inr (.inr (60, 0))), some (.inr (.inr (0, 0))), some (.inr (.inr (30, 0))), some (.inl l3)] [] s2 else some (some (.inl 0), s2))) else none) else none)) else none) else none) := (ev_go [18, 216, 249, 292, 325, 348, 411, 434, 467, 510, 533, 566, 589, 622, 675, 698, 731, 764, 797, 810, 833, 866, 879, 902, 925, 958, 991, 1024, 1067, 1110, 1143, 1166, 1209, 1242, 1285, 1298, 1331, 1344, 1358, 1372, 1395, 1408, 1431, 1445] 60 237 1209 [some (.inr (.inr (60, 0))), some (.inr (.inr (0, 0))), some (.inr (.inr (30, 0))), some (.inl l3)] [] s).trans rfl
set_option maxRecDepth 20000 in
theorem q_237_at1242 (l3 : Int32) (s : SS) : ev 237 1242 [some (.inr (.inr (60, 0))), some (.inr (.inr (0, 0))), some (.inr (.inr (30, 0))), some (.inl l3)] [] s = (if ixB (l3 + 1) (s.1 60 1 0).toNatClampNeg = true then (if ixB (l3 + 2) (s.1 60 1 0).toNatClampNeg = true then (if ixB (l3 + 3) (s.1 60 1 0).toNatClampNeg = true then cI (ev 90 0 [some (.inr (.inr (0, 0))), some (.inl (s.1 60 0 (l3 + 1).toNatClampNeg)), some (.inl (s.1 60 0 (l3 + 2).toNatClampNeg)), some (.inl (s.1 60 0 (l3 + 3).toNatClampNeg)), none, none, none, none, none, none, none, none, none, none, none] [] s) (fun x1 s1 => (if ixB (l3 + 1) (s1.1 60 1 0).toNatClampNeg = true then (if ixB (l3 + 2) (s1.1 60 1 0).toNatClampNeg = true then (if ixB (l3 + 3) (s1.1 60 1 0).toNatClampNeg = true then cI (ev 225 0 [some (.inr (.inr (30, 0))), some (.inl (s1.1 60 0 (l3 + 1).toNatClampNeg)), some (.inl (s1.1 60 0 (l3 + 2).toNatClampNeg)), some (.inl (s1.1 60 0 (l3 + 3).toNatClampNeg)), none, none, none, none, none, none, none, none, none] [] s1) (fun x2 s2 => (if x1 = x2 then ev 237 1445 [some (.inr (.inr (60, 0))), some (.inr (.inr (0, 0))), some (.inr (.inr (30, 0))), some (.inl l3)] [] s2 else some (some (.inl 0), s2))) else none) else none) else none)) else none) else none) else none) := (ev_go [18, 216, 249, 292, 325, 348, 411, 434, 467, 510, 533, 566, 589, 622, 675, 698, 731, 764, 797, 810, 833, 866, 879, 902, 925, 958, 991, 1024, 1067, 1110, 1143, 1166, 1209, 1242, 1285, 1298, 1331, 1344, 1358, 1372, 1395, 1408, 1431, 1445] 60 237 1242 [some (.inr (.inr (60, 0))), some (.inr (.inr (0, 0))), some (.inr (.inr (30, 0))), some (.inl l3)] [] s).trans rfl
set_option maxRecDepth 20000 in
theorem q_237_at1285 (l3 : Int32) (s : SS) : ev 237 1285 [some (.inr (.inr (60, 0))), some (.inr (.inr (0, 0))), some (.inr (.inr (30, 0))), some (.inl l3)] [] s = cI (ev 91 0 [some (.inr (.inr (0, 0))), none, none, none, none, none] [] s) (fun x1 s1 => cI (ev 226 0 [some (.inr (.inr (30, 0))), none, none, none, none, none, none, none] [] s1) (fun x2 s2 => (if x1 = x2 then ev 237 1445 [some (.inr (.inr (60, 0))), some (.inr (.inr (0, 0))), some (.inr (.inr (30, 0))), some (.inl l3)] [] s2 else some (some (.inl 0), s2)))) := (ev_go [18, 216, 249, 292, 325, 348, 411, 434, 467, 510, 533, 566, 589, 622, 675, 698, 731, 764, 797, 810, 833, 866, 879, 902, 925, 958, 991, 1024, 1067, 1110, 1143, 1166, 1209, 1242, 1285, 1298, 1331, 1344, 1358, 1372, 1395, 1408, 1431, 1445] 60 237 1285 [some (.inr (.inr (60, 0))), some (.inr (.inr (0, 0))), some (.inr (.inr (30, 0))), some (.inl l3)] [] s).trans rfl
set_option maxRecDepth 20000 in
theorem q_237_at1298 (l3 : Int32) (s : SS) : ev 237 1298 [some (.inr (.inr (60, 0))), some (.inr (.inr (0, 0))), some (.inr (.inr (30, 0))), some (.inl l3)] [] s = (if ixB (l3 + 1) (s.1 60 1 0).toNatClampNeg = true then (if ixB (l3 + 2) (s.1 60 1 0).toNatClampNeg = true then cI (ev 92 0 [some (.inr (.inr (0, 0))), some (.inl (s.1 60 0 (l3 + 1).toNatClampNeg)), some (.inl (s.1 60 0 (l3 + 2).toNatClampNeg)), none, none, none, none] [] s) (fun x1 s1 => (if ixB (l3 + 1) (s1.1 60 1 0).toNatClampNeg = true then (if ixB (l3 + 2) (s1.1 60 1 0).toNatClampNeg = true then cI (ev 227 0 [some (.inr (.inr (30, 0))), some (.inl (s1.1 60 0 (l3 + 1).toNatClampNeg)), some (.inl (s1.1 60 0 (l3 + 2).toNatClampNeg)), none, none, none, none, none] [] s1) (fun x2 s2 => (if x1 = x2 then ev 237 1445 [some (.inr (.inr (60, 0))), some (.inr (.inr (0, 0))), some (.inr (.inr (30, 0))), some (.inl l3)] [] s2 else some (some (.inl 0), s2))) else none) else none)) else none) else none) := (ev_go [18, 216, 249, 292, 325, 348, 411, 434, 467, 510, 533, 566, 589, 622, 675, 698, 731, 764, 797, 810, 833, 866, 879, 902, 925, 958, 991, 1024, 1067, 1110, 1143, 1166, 1209, 1242, 1285, 1298, 1331, 1344, 1358, 1372, 1395, 1408, 1431, 1445] 60 237 1298 [some (.inr (.inr (60, 0))), some (.inr (.inr (0, 0))), some (.inr (.inr (30, 0))), some (.inl l3)] [] s).trans rfl
set_option maxRecDepth 20000 in
theorem q_237_at1331 (l3 : Int32) (s : SS) : ev 237 1331 [some (.inr (.inr (60, 0))), some (.inr (.inr (0, 0))), some (.inr (.inr (30, 0))), some (.inl l3)] [] s = cI (ev 93 0 [some (.inr (.inr (0, 0)))] [] s) (fun x1 s1 => cI (ev 228 0 [some (.inr (.inr (30, 0)))] [] s1) (fun x2 s2 => (if x1 = x2 then ev 237 1445 [some (.inr (.inr (60, 0))), some (.inr (.inr (0, 0))), some (.inr (.inr (30, 0))), some (.inl l3)] [] s2 else some (some (.inl 0), s2)))) := (ev_go [18, 216, 249, 292, 325, 348, 411, 434, 467, 510, 533, 566, 589, 622, 675, 698, 731, 764, 797, 810, 833, 866, 879, 902, 925, 958, 991, 1024, 1067, 1110, 1143, 1166, 1209, 1242, 1285, 1298, 1331, 1344, 1358, 1372, 1395, 1408, 1431, 1445] 60 237 1331 [some (.inr (.inr (60, 0))), some (.inr (.inr (0, 0))), some (.inr (.inr (30, 0))), some (.inl l3)] [] s).trans rfl
set_option maxRecDepth 20000 in
theorem q_237_at1344 (l3 : Int32) (s : SS) : ev 237 1344 [some (.inr (.inr (60, 0))), some (.inr (.inr (0, 0))), some (.inr (.inr (30, 0))), some (.inl l3)] [] s = cL (ev 94 0 [some (.inr (.inr (0, 0)))] [] s) (fun x1 s1 => cL (ev 229 0 [some (.inr (.inr (30, 0)))] [] s1) (fun x2 s2 => (if (lg_cmp x1 x2) = 0 then ev 237 1445 [some (.inr (.inr (60, 0))), some (.inr (.inr (0, 0))), some (.inr (.inr (30, 0))), some (.inl l3)] [] s2 else some (some (.inl 0), s2)))) := (ev_go [18, 216, 249, 292, 325, 348, 411, 434, 467, 510, 533, 566, 589, 622, 675, 698, 731, 764, 797, 810, 833, 866, 879, 902, 925, 958, 991, 1024, 1067, 1110, 1143, 1166, 1209, 1242, 1285, 1298, 1331, 1344, 1358, 1372, 1395, 1408, 1431, 1445] 60 237 1344 [some (.inr (.inr (60, 0))), some (.inr (.inr (0, 0))), some (.inr (.inr (30, 0))), some (.inl l3)] [] s).trans rfl
set_option maxRecDepth 20000 in
theorem q_237_at1358 (l3 : Int32) (s : SS) : ev 237 1358 [some (.inr (.inr (60, 0))), some (.inr (.inr (0, 0))), some (.inr (.inr (30, 0))), some (.inl l3)] [] s = cL (ev 95 0 [some (.inr (.inr (0, 0)))] [] s) (fun x1 s1 => cL (ev 230 0 [some (.inr (.inr (30, 0)))] [] s1) (fun x2 s2 => (if (lg_cmp x1 x2) = 0 then ev 237 1445 [some (.inr (.inr (60, 0))), some (.inr (.inr (0, 0))), some (.inr (.inr (30, 0))), some (.inl l3)] [] s2 else some (some (.inl 0), s2)))) := (ev_go [18, 216, 249, 292, 325, 348, 411, 434, 467, 510, 533, 566, 589, 622, 675, 698, 731, 764, 797, 810, 833, 866, 879, 902, 925, 958, 991, 1024, 1067, 1110, 1143, 1166, 1209, 1242, 1285, 1298, 1331, 1344, 1358, 1372, 1395, 1408, 1431, 1445] 60 237 1358 [some (.inr (.inr (60, 0))), some (.inr (.inr (0, 0))), some (.inr (.inr (30, 0))), some (.inl l3)] [] s).trans rfl
set_option maxRecDepth 20000 in
theorem q_237_at1372 (l3 : Int32) (s : SS) : ev 237 1372 [some (.inr (.inr (60, 0))), some (.inr (.inr (0, 0))), some (.inr (.inr (30, 0))), some (.inl l3)] [] s = (if ixB (l3 + 1) (s.1 60 1 0).toNatClampNeg = true then cI (ev 96 0 [some (.inr (.inr (0, 0))), some (.inl (s.1 60 0 (l3 + 1).toNatClampNeg))] [] s) (fun x1 s1 => (if ixB (l3 + 1) (s1.1 60 1 0).toNatClampNeg = true then cI (ev 232 0 [some (.inr (.inr (30, 0))), some (.inl (s1.1 60 0 (l3 + 1).toNatClampNeg))] [] s1) (fun x2 s2 => (if x1 = x2 then ev 237 1445 [some (.inr (.inr (60, 0))), some (.inr (.inr (0, 0))), some (.inr (.inr (30, 0))), some (.inl l3)] [] s2 else some (some (.inl 0), s2))) else none)) else none) := (ev_go [18, 216, 249, 292, 325, 348, 411, 434, 467, 510, 533, 566, 589, 622, 675, 698, 731, 764, 797, 810, 833, 866, 879, 902, 925, 958, 991, 1024, 1067, 1110, 1143, 1166, 1209, 1242, 1285, 1298, 1331, 1344, 1358, 1372, 1395, 1408, 1431, 1445] 60 237 1372 [some (.inr (.inr (60, 0))), some (.inr (.inr (0, 0))), some (.inr (.inr (30, 0))), some (.inl l3)] [] s).trans rfl
set_option maxRecDepth 20000 in
theorem q_237_at1395 (l3 : Int32) (s : SS) : ev 237 1395 [some (.inr (.inr (60, 0))), some (.inr (.inr (0, 0))), some (.inr (.inr (30, 0))), some (.inl l3)] [] s = cI (ev 97 0 [some (.inr (.inr (0, 0)))] [] s) (fun x1 s1 => cI (ev 233 0 [some (.inr (.inr (30, 0)))] [] s1) (fun x2 s2 => (if x1 = x2 then ev 237 1445 [some (.inr (.inr (60, 0))), some (.inr (.inr (0, 0))), some (.inr (.inr (30, 0))), some (.inl l3)] [] s2 else some (some (.inl 0), s2)))) := (ev_go [18, 216, 249, 292, 325, 348, 411, 434, 467, 510, 533, 566, 589, 622, 675, 698, 731, 764, 797, 810, 833, 866, 879, 902, 925, 958, 991, 1024, 1067, 1110, 1143, 1166, 1209, 1242, 1285, 1298, 1331, 1344, 1358, 1372, 1395, 1408, 1431, 1445] 60 237 1395 [some (.inr (.inr (60, 0))), some (.inr (.inr (0, 0))), some (.inr (.inr (30, 0))), some (.inl l3)] [] s).trans rfl
set_option maxRecDepth 20000 in
theorem q_237_at1408 (l3 : Int32) (s : SS) : ev 237 1408 [some (.inr (.inr (60, 0))), some (.inr (.inr (0, 0))), some (.inr (.inr (30, 0))), some (.inl l3)] [] s = (if ixB (l3 + 1) (s.1 60 1 0).toNatClampNeg = true then cI (ev 98 0 [some (.inr (.inr (0, 0))), some (.inl (s.1 60 0 (l3 + 1).toNatClampNeg))] [] s) (fun x1 s1 => (if ixB (l3 + 1) (s1.1 60 1 0).toNatClampNeg = true then cI (ev 234 0 [some (.inr (.inr (30, 0))), some (.inl (s1.1 60 0 (l3 + 1).toNatClampNeg))] [] s1) (fun x2 s2 => (if x1 = x2 then ev 237 1445 [some (.inr (.inr (60, 0))), some (.inr (.inr (0, 0))), some (.inr (.inr (30, 0))), some (.inl l3)] [] s2 else some (some (.inl 0), s2))) else none)) else none) := (ev_go [18, 216, 249, 292, 325, 348, 411, 434, 467, 510, 533, 566, 589, 622, 675, 698, 731, 764, 797, 810, 833, 866, 879, 902, 925, 958, 991, 1024, 1067, 1110, 1143, 1166, 1209, 1242, 1285, 1298, 1331, 1344, 1358, 1372, 1395, 1408, 1431, 1445] 60 237 1408 [some (.inr (.inr (60, 0))), some (.inr (.inr (0, 0))), some (.inr (.inr (30, 0))), some (.inl l3)] [] s).trans rfl
set_option maxRecDepth 20000 in
theorem q_237_at1431 (l3 : Int32) (s : SS) : ev 237 1431 [some (.inr (.inr (60, 0))), some (.inr (.inr (0, 0))), some (.inr (.inr (30, 0))), some (.inl l3)] [] s = cL (ev 99 0 [some (.inr (.inr (0, 0))), none, none, none] [] s) (fun x1 s1 => cL (ev 236 0 [some (.inr (.inr (30, 0))), none, none] [] s1) (fun x2 s2 => (if (lg_cmp x1 x2) = 0 then ev 237 1445 [some (.inr (.inr (60, 0))), some (.inr (.inr (0, 0))), some (.inr (.inr (30, 0))), some (.inl l3)] [] s2 else some (some (.inl 0), s2)))) := (ev_go [18, 216, 249, 292, 325, 348, 411, 434, 467, 510, 533, 566, 589, 622, 675, 698, 731, 764, 797, 810, 833, 866, 879, 902, 925, 958, 991, 1024, 1067, 1110, 1143, 1166, 1209, 1242, 1285, 1298, 1331, 1344, 1358, 1372, 1395, 1408, 1431, 1445] 60 237 1431 [some (.inr (.inr (60, 0))), some (.inr (.inr (0, 0))), some (.inr (.inr (30, 0))), some (.inl l3)] [] s).trans rfl
set_option maxRecDepth 20000 in
theorem q_237_at1445 (l3 : Int32) (s : SS) : ev 237 1445 [some (.inr (.inr (60, 0))), some (.inr (.inr (0, 0))), some (.inr (.inr (30, 0))), some (.inl l3)] [] s = ev 237 18 [some (.inr (.inr (60, 0))), some (.inr (.inr (0, 0))), some (.inr (.inr (30, 0))), some (.inl (l3 + 6))] [] s := (ev_go [18, 216, 249, 292, 325, 348, 411, 434, 467, 510, 533, 566, 589, 622, 675, 698, 731, 764, 797, 810, 833, 866, 879, 902, 925, 958, 991, 1024, 1067, 1110, 1143, 1166, 1209, 1242, 1285, 1298, 1331, 1344, 1358, 1372, 1395, 1408, 1431, 1445] 60 237 1445 [some (.inr (.inr (60, 0))), some (.inr (.inr (0, 0))), some (.inr (.inr (30, 0))), some (.inl l3)] [] s).trans rfl
end
section
/-! PURE ROWS over the small machine's meaning -/
def bI (b : Bool) : Int32 := if b = true then 1 else 0
theorem bI_0 (b : Bool) : (bI b = 0) = (b = false) := by cases b <;> decide
theorem bI_t : bI true = 1 := rfl
theorem bI_f : bI false = 0 := rfl
theorem bI_Z (b : Bool) : isZ (bI b) = true := by cases b <;> decide
theorem bI_1 (b : Bool) : bI b &&& 1 = bI b := by cases b <;> decide
theorem ite_bI {α : Type} (b : Bool) (X Y : α) : (if bI b = 0 then X else Y) = if b = true then Y else X := by cases b <;> rfl
theorem cI_s (x : Int32) (s : SS) (k : Int32 → SS → RE) : cI (some (some (.inl x), s)) k = k x s := rfl
theorem cV_s (s : SS) (k : SS → RE) : cV (some (none, s)) k = k s := rfl
theorem cL_s (x : Int64) (s : SS) (k : Int64 → SS → RE) : cL (some (some (.inr (.inl x)), s)) k = k x s := rfl
theorem cI_ite {c : Prop} [Decidable c] (a b : RE) (k : Int32 → SS → RE) : cI (if c then a else b) k = if c then cI a k else cI b k := by split <;> rfl
theorem cV_ite {c : Prop} [Decidable c] (a b : RE) (k : SS → RE) : cV (if c then a else b) k = if c then cV a k else cV b k := by split <;> rfl
theorem cL_ite {c : Prop} [Decidable c] (a b : RE) (k : Int64 → SS → RE) : cL (if c then a else b) k = if c then cL a k else cL b k := by split <;> rfl
theorem wI_1 (s : SS) (k j i : Nat) (v : Int32) (a b c : Nat) : (wI s k j i v).1 a b c = if a = k ∧ b = j ∧ c = i then v else s.1 a b c := rfl
theorem wI_2 (s : SS) (k j i : Nat) (v : Int32) : (wI s k j i v).2 = s.2 := rfl
theorem wL_1 (s : SS) (k j i : Nat) (v : Int64) : (wL s k j i v).1 = s.1 := rfl
theorem wL_2 (s : SS) (k j i : Nat) (v : Int64) (a b c : Nat) : (wL s k j i v).2.1 a b c = if a = k ∧ b = j ∧ c = i then v else s.2.1 a b c := rfl
theorem wL_3 (s : SS) (k j i : Nat) (v : Int64) : (wL s k j i v).2.2 = s.2.2 := rfl
theorem wR_1 (s : SS) (i v : Nat) : (wR s i v).1 = s.1 := rfl
theorem wR_2 (s : SS) (i v : Nat) : (wR s i v).2.1 = s.2.1 := rfl
theorem wR_3 (s : SS) (i v c : Nat) : (wR s i v).2.2 c = if c = i then v else s.2.2 c := rfl
theorem wA_1 (s : SS) (k j : Nat) (f : Nat → Int32) (a b c : Nat) : (wA s k j f).1 a b c = if a = k ∧ b = j then f c else s.1 a b c := rfl
theorem wA_2 (s : SS) (k j : Nat) (f : Nat → Int32) : (wA s k j f).2 = s.2 := rfl
/-! small numbers as ints -/
theorem lt_iff (a b : Int32) : a < b ↔ a.toInt < b.toInt := Int32.lt_iff_toInt_lt
theorem le_iff (a b : Int32) : a ≤ b ↔ a.toInt ≤ b.toInt := Int32.le_iff_toInt_le
theorem eq_iff (a b : Int32) : a = b ↔ a.toInt = b.toInt := Int32.toInt_inj.symm
theorem cl_nI {n : Nat} (h : n < 2147483648) : (nI n).toNatClampNeg = n := nI_clamp h
theorem ti_nI {n : Nat} (h : n < 2147483648) : (nI n).toInt = (n : Int) := nI_toInt h
theorem ixB_iff {x : Int32} {n : Nat} (hn : n < 2147483648) : ixB x n = true ↔ ∃ j, j < n ∧ x = nI j := by
  constructor
  · intro h
    exact vp_in_of (ixB_in h) hn
  · rintro ⟨j, hj, rfl⟩
    unfold ixB
    have h1 : ¬ nI j < 0 := nI_pos (by omega)
    have h2 : ¬ n ≤ (nI j).toNatClampNeg := by rw [cl_nI (by omega)]; omega
    simp [h1, h2]
theorem ixB_nI {j n : Nat} (h : j < n) (hn : n < 2147483648) : ixB (nI j) n = true := (ixB_iff hn).mpr ⟨j, h, rfl⟩
theorem ixB_no {x : Int32} {n : Nat} (hn : n < 2147483648) (h : ¬ ixB x n = true) : x < 0 ∨ nI n ≤ x := by
  rcases pk_ix x hn with h1 | h1 | h1
  · exact Or.inl h1
  · exact Or.inr h1
  · exact absurd ((ixB_iff hn).mpr h1) h
theorem ixB_toInt {x : Int32} {n : Nat} (hn : n < 2147483648) : ixB x n = true ↔ 0 ≤ x.toInt ∧ x.toInt < n := by
  rw [ixB_iff hn]
  constructor
  · rintro ⟨j, hj, rfl⟩
    rw [ti_nI (by omega)]
    omega
  · rintro ⟨h1, h2⟩
    refine ⟨x.toInt.toNat, by omega, ?_⟩
    apply Int32.toInt_inj.mp
    rw [ti_nI (by omega)]
    omega
theorem rg_ix {α : Type} (x : Int32) (n : Nat) (hn : n < 2147483648) (A B : α) : (if x < 0 then A else if x < nI n then B else A) = if ixB x n = true then B else A := by
  by_cases h : ixB x n = true
  · obtain ⟨j, hj, rfl⟩ := (ixB_iff hn).mp h
    rw [if_neg (nI_pos (by omega)), if_pos (nI_lt hj hn), if_pos h]
  · rw [if_neg h]
    rcases ixB_no hn h with h1 | h1
    · rw [if_pos h1]
    · have h2 : ¬ x < nI n := Int32.not_lt.mpr h1
      rw [if_neg h2, ite_self]
theorem ite_ss {α : Type} (c : Prop) [Decidable c] (a : α) : (if c then a else a) = a := ite_self a
/-! loops -/
def fo {σ : Type} (f : Nat → σ → σ) : Nat → σ → σ
  | 0, x => x
  | n + 1, x => f n (fo f n x)
theorem lpF {σ : Type} (P : Nat → σ → RE) (f : Nat → σ → σ) (I : Nat → σ → Prop) (N : Nat) (h : ∀ i x, i < N → I i x → P i x = P (i + 1) (f i x) ∧ I (i + 1) (f i x)) (x : σ) (h0 : I 0 x) : P 0 x = P N (fo f N x) ∧ I N (fo f N x) := by
  have key : ∀ m, m ≤ N → P 0 x = P m (fo f m x) ∧ I m (fo f m x) := by
    intro m
    induction m with
    | zero => exact fun _ => ⟨rfl, h0⟩
    | succ m ih =>
      intro hm
      obtain ⟨h1, h2⟩ := ih (by omega)
      obtain ⟨h3, h4⟩ := h m (fo f m x) (by omega) h2
      exact ⟨h1.trans h3, h4⟩
  exact key N (Nat.le_refl N)
theorem lpS {σ : Type} (P : Nat → σ → RE) (f : Nat → σ → σ) (N : Nat) (h : ∀ i x, i < N → P i x = P (i + 1) (f i x)) (x : σ) : P 0 x = P N (fo f N x) := (lpF P f (fun _ _ => True) N (fun i x hi _ => ⟨h i x hi, trivial⟩) x trivial).1
/-- a loop that may leave early at the first place where c holds -/
theorem lpE {P : Nat → RE} {c : Nat → Bool} {out : Nat → RE} (N : Nat) (h : ∀ i, i < N → P i = if c i = true then out i else P (i + 1)) : (∃ i, i < N ∧ c i = true ∧ (∀ k, k < i → c k = false) ∧ P 0 = out i) ∨ ((∀ k, k < N → c k = false) ∧ P 0 = P N) := by
  have key : ∀ m, m ≤ N → (∃ i, i < m ∧ c i = true ∧ (∀ k, k < i → c k = false) ∧ P 0 = out i) ∨ ((∀ k, k < m → c k = false) ∧ P 0 = P m) := by
    intro m
    induction m with
    | zero => exact fun _ => Or.inr ⟨fun k hk => absurd hk (Nat.not_lt_zero k), rfl⟩
    | succ m ih =>
      intro hm
      rcases ih (by omega) with ⟨i, h1, h2, h3, h4⟩ | ⟨h1, h2⟩
      · exact Or.inl ⟨i, by omega, h2, h3, h4⟩
      · have h3 := h m (by omega)
        cases hc : c m with
        | true =>
          rw [hc, if_pos rfl] at h3
          exact Or.inl ⟨m, by omega, hc, h1, h2.trans h3⟩
        | false =>
          rw [hc] at h3
          refine Or.inr ⟨fun k hk => ?_, h2.trans h3⟩
          by_cases e : k = m
          · rw [e]; exact hc
          · exact h1 k (by omega)
  exact key N (Nat.le_refl N)
theorem nI_s (n : Nat) : nI n + 1 = nI (n + 1) := nI_1 n
theorem nI_ll {a b : Nat} (ha : a < 2147483648) (hb : b < 2147483648) : (nI a < nI b) = (a < b) := propext (nI_ltI ha hb)
theorem nI_ee {a b : Nat} (ha : a < 2147483648) (hb : b < 2147483648) : (nI a = nI b) = (a = b) := propext (nI_eq ha hb)
theorem fo_wI (k j a0 : Nat) (v : Nat → Int32) (s : SS) (a b c : Nat) : ∀ n, (fo (fun i s => wI s k j (a0 + i) (v i)) n s).1 a b c = if a = k ∧ b = j ∧ a0 ≤ c ∧ c < a0 + n then v (c - a0) else s.1 a b c
  | 0 => by
    rw [if_neg (by omega)]
    rfl
  | n + 1 => by
    show (wI (fo (fun i s => wI s k j (a0 + i) (v i)) n s) k j (a0 + n) (v n)).1 a b c = _
    rw [wI_1, fo_wI k j a0 v s a b c n]
    by_cases h1 : a = k ∧ b = j
    · by_cases h2 : c = a0 + n
      · rw [if_pos ⟨h1.1, h1.2, h2⟩, if_pos ⟨h1.1, h1.2, by omega, by omega⟩]
        congr 1
        omega
      · rw [if_neg (fun z => h2 z.2.2)]
        by_cases h3 : a0 ≤ c ∧ c < a0 + n
        · rw [if_pos ⟨h1.1, h1.2, h3⟩, if_pos ⟨h1.1, h1.2, by omega, by omega⟩]
        · rw [if_neg (fun z => h3 z.2.2), if_neg (fun z => h3 ⟨z.2.2.1, by omega⟩)]
    · rw [if_neg (fun z => h1 ⟨z.1, z.2.1⟩), if_neg (fun z => h1 ⟨z.1, z.2.1⟩), if_neg (fun z => h1 ⟨z.1, z.2.1⟩)]
theorem fo_wI2 (k j a0 : Nat) (v : Nat → Int32) (s : SS) : ∀ n, (fo (fun i s => wI s k j (a0 + i) (v i)) n s).2 = s.2
  | 0 => rfl
  | n + 1 => fo_wI2 k j a0 v s n
/-! comparisons of small numbers, for simp with omega -/
theorem n_lt {a b : Nat} (ha : a < 2147483648) (hb : b < 2147483648) : (nI a < nI b) = (a < b) := propext (nI_ltI ha hb)
theorem n_le {a b : Nat} (ha : a < 2147483648) (hb : b < 2147483648) : (nI a ≤ nI b) = (a ≤ b) := propext (nI_leI ha hb)
theorem n_eq {a b : Nat} (ha : a < 2147483648) (hb : b < 2147483648) : (nI a = nI b) = (a = b) := propext (nI_eq ha hb)
theorem lit_nI (n : Nat) : (OfNat.ofNat n : Int32) = nI n := rfl
theorem n_ltL {a n : Nat} (ha : a < 2147483648) (hb : n < 2147483648) : (nI a < (OfNat.ofNat n : Int32)) = (a < OfNat.ofNat n) := n_lt ha hb
theorem L_ltn {a n : Nat} (ha : a < 2147483648) (hb : n < 2147483648) : ((OfNat.ofNat n : Int32) < nI a) = (OfNat.ofNat n < a) := n_lt hb ha
theorem n_leL {a n : Nat} (ha : a < 2147483648) (hb : n < 2147483648) : (nI a ≤ (OfNat.ofNat n : Int32)) = (a ≤ OfNat.ofNat n) := n_le ha hb
theorem L_len {a n : Nat} (ha : a < 2147483648) (hb : n < 2147483648) : ((OfNat.ofNat n : Int32) ≤ nI a) = (OfNat.ofNat n ≤ a) := n_le hb ha
theorem n_eqL {a n : Nat} (ha : a < 2147483648) (hb : n < 2147483648) : (nI a = (OfNat.ofNat n : Int32)) = (a = OfNat.ofNat n) := n_eq ha hb
theorem n_ne {a n : Nat} (ha : a < 2147483648) (hn : 0 < n) (hb : n ≤ 2147483647) : (nI a = -(OfNat.ofNat n : Int32)) = False := by
  apply propext
  refine ⟨fun h => ?_, False.elim⟩
  have h1 := congrArg Int32.toInt h
  have h2 : (-(OfNat.ofNat n : Int32)).toInt = -(n : Int) := by
    rw [lit_nI]
    exact sb_negT (by omega)
  rw [ti_nI ha, h2] at h1
  omega
theorem ng_lt {n m : Nat} (hn : n < 2147483648) (hm : m < 2147483648) (h : 0 < n) : (-(OfNat.ofNat n : Int32) < (OfNat.ofNat m : Int32)) = True := by
  apply propext
  refine ⟨fun _ => trivial, fun _ => ?_⟩
  have h2 : (-(OfNat.ofNat n : Int32)).toInt = -(n : Int) := by
    rw [lit_nI]
    exact sb_negT (by omega)
  rw [lt_iff, h2, lit_nI, ti_nI hm]
  omega
theorem ix_n {j n : Nat} (hj : j < 2147483648) (hn : n < 2147483648) : ixB (nI j) n = decide (j < n) := by
  by_cases h : j < n
  · rw [ixB_nI h hn]
    simp [h]
  · cases hb : ixB (nI j) n with
    | false => simp [h]
    | true =>
      have := ixB_lt hb
      rw [cl_nI hj] at this
      exact absurd this h
theorem n_add (a b : Nat) : nI a + nI b = nI (a + b) := nI_add a b
theorem n_mul (a b : Nat) : nI a * nI b = nI (a * b) := pk_mul a b
theorem n_sub {a b : Nat} (h : b ≤ a) : nI a - nI b = nI (a - b) := pk_sub h
theorem n_add1 (a n : Nat) : nI a + (OfNat.ofNat n : Int32) = nI (a + OfNat.ofNat n) := nI_add a n
theorem n_1add (a n : Nat) : (OfNat.ofNat n : Int32) + nI a = nI (OfNat.ofNat n + a) := nI_add n a
theorem n_mulL (a n : Nat) : (OfNat.ofNat n : Int32) * nI a = nI (OfNat.ofNat n * a) := pk_mul n a
theorem n_subL {a n : Nat} (h : n ≤ a) : nI a - (OfNat.ofNat n : Int32) = nI (a - OfNat.ofNat n) := pk_sub h
theorem irr (x : Int32) : ¬ x < x := by
  rw [lt_iff]
  omega
theorem n_lt0 {a : Nat} (ha : a < 2147483648) : (nI a < 0) = False := by
  apply propext
  exact ⟨fun h => nI_pos ha h, False.elim⟩
end
section
/-! the shelves: rows (kind 1: places 7, sizes 5) and texts (kind 2: places 8, sizes 6) -/
theorem c_9_1 (r : Int32) (s : SS) : ev 9 0 [some (.inr (.inr (1, 0))), some (.inl r)] [] s = some (some (.inl (bI (ixB r 6))), s) := by
  rw [q_9_1, rg_ix r 6 (by decide)]
  cases ixB r 6 <;> rfl
theorem c_9_2 (r : Int32) (s : SS) : ev 9 0 [some (.inr (.inr (2, 0))), some (.inl r)] [] s = some (some (.inl (bI (ixB r 4))), s) := by
  rw [q_9_2, rg_ix r 4 (by decide)]
  cases ixB r 4 <;> rfl
def hasR (s : SS) (r : Int32) : Bool := ixB r 6 && !(decide (s.1 5 0 r.toNatClampNeg = -1))
def hasT (s : SS) (r : Int32) : Bool := ixB r 4 && !(decide (s.1 6 0 r.toNatClampNeg = -1))
theorem c_10_1 (r : Int32) (s : SS) : ev 10 0 [some (.inr (.inr (1, 0))), some (.inl r)] [] s = some (some (.inl (bI (hasR s r))), s) := by
  rw [q_10_1, c_9_1, cI_s, ite_bI]
  unfold hasR
  by_cases h : ixB r 6 = true
  · rw [if_pos h, if_pos h, h]
    by_cases h2 : s.1 5 0 r.toNatClampNeg = -1 <;> simp [h2, bI]
  · rw [if_neg h]
    simp [h, bI]
theorem c_10_2 (r : Int32) (s : SS) : ev 10 0 [some (.inr (.inr (2, 0))), some (.inl r)] [] s = some (some (.inl (bI (hasT s r))), s) := by
  rw [q_10_2, c_9_2, cI_s, ite_bI]
  unfold hasT
  by_cases h : ixB r 4 = true
  · rw [if_pos h, if_pos h, h]
    by_cases h2 : s.1 6 0 r.toNatClampNeg = -1 <;> simp [h2, bI]
  · rw [if_neg h]
    simp [h, bI]
theorem hasR_ix {s : SS} {r : Int32} (h : hasR s r = true) : ixB r 6 = true := by
  unfold hasR at h
  simp only [Bool.and_eq_true] at h
  exact h.1
theorem hasT_ix {s : SS} {r : Int32} (h : hasT s r = true) : ixB r 4 = true := by
  unfold hasT at h
  simp only [Bool.and_eq_true] at h
  exact h.1
theorem c_11_1 (r : Int32) (s : SS) : ev 11 0 [some (.inr (.inr (1, 0))), some (.inl r)] [] s = some (some (.inl (if hasR s r = true then s.1 5 0 r.toNatClampNeg else 0)), s) := by
  rw [q_11_1, c_10_1, cI_s, ite_bI]
  by_cases h : hasR s r = true
  · simp [h, hasR_ix h]
  · simp [h]
theorem c_11_2 (r : Int32) (s : SS) : ev 11 0 [some (.inr (.inr (2, 0))), some (.inl r)] [] s = some (some (.inl (if hasT s r = true then s.1 6 0 r.toNatClampNeg else 0)), s) := by
  rw [q_11_2, c_10_2, cI_s, ite_bI]
  by_cases h : hasT s r = true
  · simp [h, hasT_ix h]
  · simp [h]
def hpR (s : SS) (r i n : Int32) : Bool := hasR s r && (!(decide (i < 0)) && (!(decide (n < 0)) && !(decide (s.1 5 0 r.toNatClampNeg - n < i))))
def hpT (s : SS) (r i n : Int32) : Bool := hasT s r && (!(decide (i < 0)) && (!(decide (n < 0)) && !(decide (s.1 6 0 r.toNatClampNeg - n < i))))
theorem c_12_1 (r i n : Int32) (s : SS) : ev 12 0 [some (.inr (.inr (1, 0))), some (.inl r), some (.inl i), some (.inl n)] [] s = some (some (.inl (bI (hpR s r i n))), s) := by
  rw [q_12_1, c_10_1, cI_s, ite_bI]
  unfold hpR
  by_cases h : hasR s r = true
  · by_cases h1 : i < 0 <;> by_cases h2 : n < 0 <;> by_cases h3 : s.1 5 0 r.toNatClampNeg - n < i <;> simp [h, hasR_ix h, h1, h2, h3, bI]
  · simp [h, bI]
theorem c_12_2 (r i n : Int32) (s : SS) : ev 12 0 [some (.inr (.inr (2, 0))), some (.inl r), some (.inl i), some (.inl n)] [] s = some (some (.inl (bI (hpT s r i n))), s) := by
  rw [q_12_2, c_10_2, cI_s, ite_bI]
  unfold hpT
  by_cases h : hasT s r = true
  · by_cases h1 : i < 0 <;> by_cases h2 : n < 0 <;> by_cases h3 : s.1 6 0 r.toNatClampNeg - n < i <;> simp [h, hasT_ix h, h1, h2, h3, bI]
  · simp [h, bI]
/-! THE COUPLING of the two systems, in parts -/
def JR (s : SS) : Prop := (∀ q, q < 6 → (s.1 5 0 q = -1 ∧ s.1 32 0 q = -9) ∨ ∃ n, n ≤ 40 ∧ s.1 5 0 q = nI n ∧ s.1 32 0 q = nI n) ∧ ∀ q i, q < 6 → i < 40 → s.1 7 q i = s.1 33 0 (40 * q + i)
def JT (s : SS) : Prop := (∀ q, q < 4 → (s.1 6 0 q = -1 ∧ s.1 35 0 q = -9) ∨ ∃ n, n ≤ 40 ∧ s.1 6 0 q = nI n ∧ s.1 35 0 q = nI n) ∧ ∀ q i, q < 4 → i < 40 → s.1 8 q i = s.1 36 0 (40 * q + i)
def JF (s : SS) : Prop := s.1 0 0 9 = s.1 30 0 2 ∧ s.1 0 0 12 = s.1 30 0 0 ∧ s.2.1 0 0 10 = s.2.1 30 0 3 ∧ s.2.1 0 0 11 = s.2.1 30 0 4 ∧ ∀ f, f < 6 → s.1 12 0 f = s.1 31 0 f
def fC (s : SS) (f : Nat) : SS := wI (wI s 0 0 12 (nI f)) 12 0 f (s.1 12 0 f + 1)
def fR (s : SS) (f : Nat) : SS := wI (wI s 30 0 0 (nI f)) 31 0 f (s.1 31 0 f + 1)
theorem c_100_1 (s : SS) : ev 100 0 [some (.inr (.inr (0, 0))), some (.inl 1)] [] s = some (some (.inl (-3)), fC s 1) := (q_100 1 s).trans rfl
theorem c_100_2 (s : SS) : ev 100 0 [some (.inr (.inr (0, 0))), some (.inl 2)] [] s = some (some (.inl (-3)), fC s 2) := (q_100 2 s).trans rfl
theorem c_100_3 (s : SS) : ev 100 0 [some (.inr (.inr (0, 0))), some (.inl 3)] [] s = some (some (.inl (-3)), fC s 3) := (q_100 3 s).trans rfl
theorem c_100_4 (s : SS) : ev 100 0 [some (.inr (.inr (0, 0))), some (.inl 4)] [] s = some (some (.inl (-3)), fC s 4) := (q_100 4 s).trans rfl
theorem c_100_5 (s : SS) : ev 100 0 [some (.inr (.inr (0, 0))), some (.inl 5)] [] s = some (some (.inl (-3)), fC s 5) := (q_100 5 s).trans rfl
theorem c_145_1 (s : SS) : ev 145 0 [some (.inr (.inr (30, 0))), some (.inl 1)] [] s = some (some (.inl (-3)), fR s 1) := (q_145 1 s).trans rfl
theorem c_145_2 (s : SS) : ev 145 0 [some (.inr (.inr (30, 0))), some (.inl 2)] [] s = some (some (.inl (-3)), fR s 2) := (q_145 2 s).trans rfl
theorem c_145_3 (s : SS) : ev 145 0 [some (.inr (.inr (30, 0))), some (.inl 3)] [] s = some (some (.inl (-3)), fR s 3) := (q_145 3 s).trans rfl
theorem c_145_4 (s : SS) : ev 145 0 [some (.inr (.inr (30, 0))), some (.inl 4)] [] s = some (some (.inl (-3)), fR s 4) := (q_145 4 s).trans rfl
theorem c_145_5 (s : SS) : ev 145 0 [some (.inr (.inr (30, 0))), some (.inl 5)] [] s = some (some (.inl (-3)), fR s 5) := (q_145 5 s).trans rfl
theorem JF_f {s : SS} (h : JF s) {f : Nat} (hf : f < 6) : JF (fR (fC s f) f) := by
  obtain ⟨h1, h2, h3, h4, h5⟩ := h
  refine ⟨h1, rfl, h3, h4, fun g hg => ?_⟩
  by_cases e : g = f
  · subst e
    simp [fR, fC, wI_1, h5 g hg]
  · simp [fR, fC, wI_1, e, h5 g hg]
def cn (p : Nat → Bool) : Nat → Nat
  | 0 => 0
  | n + 1 => cn p n + (if p n = true then 1 else 0)
/-- how a saying is told, as a number; the greater of its names -/
def tl (s : SS) (k : Nat) : Nat := (s.1 37 0 k).toNatClampNeg
def lsN (k : Nat) : Nat := if k < 12 then k % 4 else max ((k - 12) / 4) ((k - 12) % 4)
def nN (s : SS) : Nat := (s.1 30 0 10).toNatClampNeg
def JS (s : SS) : Prop := (1 ≤ nN s ∧ nN s ≤ 4 ∧ s.1 0 0 7 = nI (nN s) ∧ s.1 30 0 10 = nI (nN s)) ∧ (∀ k, k < 28 → s.1 9 0 k = nI (tl s k) ∧ s.1 37 0 k = nI (tl s k) ∧ tl s k < 4 ∧ (tl s k ≠ 0 → lsN k < nN s)) ∧ cn (fun k => tl s k == 3) 28 ≤ 10
/-- a part of a law, in both systems: not, sort, its names -/
def PJ (s : SS) (j k p : Nat) : Prop := ∃ d so on tw, d ≤ 1 ∧ so ≤ 3 ∧ on ≤ 1 ∧ tw ≤ 1 ∧ s.1 17 j p = nI d ∧ s.1 46 0 (6 * k + p) = nI d ∧ s.1 47 0 (6 * k + p) = nI so ∧ s.1 48 0 (6 * k + p) = nI on ∧ s.1 49 0 (6 * k + p) = nI tw ∧ ((so = 3 ∧ s.1 14 j p = nI 12 ∧ s.1 15 j p = nI on ∧ s.1 16 j p = nI tw) ∨ (so < 3 ∧ tw = 0 ∧ s.1 14 j p = nI (4 * so) ∧ s.1 15 j p = -1 ∧ s.1 16 j p = nI on))
def LJ (s : SS) (j k : Nat) : Prop := (s.1 13 j 0 = 0 ∧ s.1 42 0 k = -9) ∨ (s.1 13 j 0 = 1 ∧ ∃ kd np w f, kd < 5 ∧ 1 ≤ np ∧ np ≤ 6 ∧ w ≤ 9 ∧ f ≤ 4 ∧ s.1 13 j 1 = nI kd ∧ s.1 42 0 k = nI kd ∧ s.1 13 j 4 = nI np ∧ s.1 45 0 k = nI np ∧ s.1 13 j 2 = nI w ∧ s.1 43 0 k = nI w ∧ s.1 13 j 3 = nI f ∧ s.1 44 0 k = nI f ∧ (3 ≤ kd → np = 1 ∧ s.1 48 0 (6 * k) = nI 0 ∧ s.1 49 0 (6 * k) = nI 0) ∧ ∀ p, p < np → PJ s j k p)
def JL (s : SS) : Prop := (∀ k, k ≤ 8 → s.2.2 k < 9) ∧ (∀ a b, a ≤ 8 → b ≤ 8 → s.2.2 a = s.2.2 b → a = b) ∧ ∀ k, k < 8 → LJ s (s.2.2 k) k
/-- s and t agree on the kinds of a list -/
def Ag (K : List Nat) (s t : SS) : Prop := (∀ a, a ∈ K → (∀ b c, t.1 a b c = s.1 a b c) ∧ ∀ b c, t.2.1 a b c = s.2.1 a b c) ∧ t.2.2 = s.2.2
theorem Ag_rf {K : List Nat} {s : SS} : Ag K s s := ⟨fun _ _ => ⟨fun _ _ => rfl, fun _ _ => rfl⟩, rfl⟩
theorem Ag_tr {K : List Nat} {s t u : SS} (h1 : Ag K s t) (h2 : Ag K t u) : Ag K s u := ⟨fun a ha => ⟨fun b c => ((h2.1 a ha).1 b c).trans ((h1.1 a ha).1 b c), fun b c => ((h2.1 a ha).2 b c).trans ((h1.1 a ha).2 b c)⟩, h2.2.trans h1.2⟩
theorem Ag_sy {K : List Nat} {s t : SS} (h : Ag K s t) : Ag K t s := ⟨fun a ha => ⟨fun b c => ((h.1 a ha).1 b c).symm, fun b c => ((h.1 a ha).2 b c).symm⟩, h.2.symm⟩
theorem Ag_wI {K : List Nat} {s : SS} {k j i : Nat} {v : Int32} (h : k ∉ K) : Ag K s (wI s k j i v) := ⟨fun a ha => ⟨fun b c => by rw [wI_1, if_neg (show ¬ (a = k ∧ b = j ∧ c = i) from fun z => h (z.1 ▸ ha))], fun _ _ => rfl⟩, rfl⟩
theorem Ag_wL {K : List Nat} {s : SS} {k j i : Nat} {v : Int64} (h : k ∉ K) : Ag K s (wL s k j i v) := ⟨fun a ha => ⟨fun _ _ => rfl, fun b c => by rw [wL_2, if_neg (show ¬ (a = k ∧ b = j ∧ c = i) from fun z => h (z.1 ▸ ha))]⟩, rfl⟩
theorem Ag_wA {K : List Nat} {s : SS} {k j : Nat} {f : Nat → Int32} (h : k ∉ K) : Ag K s (wA s k j f) := ⟨fun a ha => ⟨fun b c => by rw [wA_1, if_neg (show ¬ (a = k ∧ b = j) from fun z => h (z.1 ▸ ha))], fun _ _ => rfl⟩, rfl⟩
theorem Ag_fo {K : List Nat} {f : Nat → SS → SS} (h : ∀ i s, Ag K s (f i s)) (s : SS) : ∀ n, Ag K s (fo f n s)
  | 0 => Ag_rf
  | n + 1 => Ag_tr (Ag_fo h s n) (h n _)
theorem Ag_fC {K : List Nat} {s : SS} {f : Nat} (h0 : 0 ∉ K) (h1 : 12 ∉ K) : Ag K s (fC s f) := Ag_tr (Ag_wI h0) (Ag_wI h1)
theorem Ag_fR {K : List Nat} {s : SS} {f : Nat} (h0 : 30 ∉ K) (h1 : 31 ∉ K) : Ag K s (fR s f) := Ag_tr (Ag_wI h0) (Ag_wI h1)
/-! worlds: what is so, what a law breaks -/
def soB (s : SS) (k w : Nat) : Bool := tl s k == 1 || (tl s k == 3 && w.testBit (cn (fun i => tl s i == 3) k))
def nW (s : SS) : Nat := 2 ^ cn (fun i => tl s i == 3) 28
def kdN (s : SS) (k : Nat) : Nat := (s.1 42 0 k).toNatClampNeg
def npN (s : SS) (k : Nat) : Nat := (s.1 45 0 k).toNatClampNeg
def wtN (s : SS) (k : Nat) : Nat := (s.1 43 0 k).toNatClampNeg
def fgN (s : SS) (k : Nat) : Nat := (s.1 44 0 k).toNatClampNeg
def ptN (s : SS) (i : Nat) : Bool := !(decide (s.1 46 0 i = 0))
def ptS (s : SS) (i : Nat) : Nat := (s.1 47 0 i).toNatClampNeg
def pt1 (s : SS) (i : Nat) : Nat := (s.1 48 0 i).toNatClampNeg
def pt2 (s : SS) (i : Nat) : Nat := (s.1 49 0 i).toNatClampNeg
def sayN (s : SS) (i x y : Nat) : Nat := if ptS s i = 3 then 12 + 4 * (if pt1 s i = 0 then x else y) + (if pt2 s i = 0 then x else y) else 4 * ptS s i + (if pt1 s i = 0 then x else y)
def holB (s : SS) (i x y w : Nat) : Bool := soB s (sayN s i x y) w != ptN s i
def anyB (p : Nat → Bool) : Nat → Bool
  | 0 => false
  | n + 1 => anyB p n || p n
def hasV (s : SS) (k v : Nat) : Bool := anyB (fun p => pt1 s (6 * k + p) == v || (ptS s (6 * k + p) == 3 && pt2 s (6 * k + p) == v)) (npN s k)
def sm (f : Nat → Nat) : Nat → Nat
  | 0 => 0
  | n + 1 => sm f n + f n
def nX (s : SS) (k : Nat) : Nat := if hasV s k 0 = true then nN s else 1
def nY (s : SS) (k : Nat) : Nat := if hasV s k 1 = true then nN s else 1
def brk (s : SS) (k w : Nat) : Nat := if kdN s k = 0 then 0 else if 3 ≤ kdN s k then (if kdN s k = 3 then (if cn (fun x => holB s (6 * k) x x w) (nN s) < fgN s k then 1 else 0) else (if cn (fun x => holB s (6 * k) x x w) (nN s) = 1 then 0 else 1)) else sm (fun x => sm (fun y => if anyB (fun p => holB s (6 * k + p) x y w) (npN s k) = true then 0 else 1) (nY s k)) (nX s k)
def trN (s : SS) (w : Nat) : Nat := sm (fun k => if soB s k w = true then 2 ^ k else 0) 28
def bkN (s : SS) (w : Nat) : Nat := sm (fun k => brk s k w * 256 ^ k) 8
/-- the table of worlds is that of the sayings, names and laws -/
def Tab (s : SS) : Prop := s.1 11 0 0 = nI (nW s) ∧ (∀ w, w < nW s → s.1 18 0 w = nI (trN s w)) ∧ ∀ w, w < nW s → s.2.1 19 0 w = lN (bkN s w)
def JB (s : SS) : Prop := s.1 0 0 8 = 1 ∨ (s.1 0 0 8 = 0 ∧ Tab s)
def J (s : SS) : Prop := JR s ∧ JT s ∧ JF s ∧ JS s ∧ JL s ∧ JB s
theorem JR_ag {s t : SS} (h : Ag [5, 7, 32, 33] s t) (hJ : JR s) : JR t := by
  have e := fun a ha => (h.1 a ha).1
  have e1 := e 5 (by decide)
  have e2 := e 7 (by decide)
  have e3 := e 32 (by decide)
  have e4 := e 33 (by decide)
  unfold JR
  simp only [e1, e2, e3, e4]
  exact hJ
theorem JT_ag {s t : SS} (h : Ag [6, 8, 35, 36] s t) (hJ : JT s) : JT t := by
  have e := fun a ha => (h.1 a ha).1
  have e1 := e 6 (by decide)
  have e2 := e 8 (by decide)
  have e3 := e 35 (by decide)
  have e4 := e 36 (by decide)
  unfold JT
  simp only [e1, e2, e3, e4]
  exact hJ
theorem JF_ag {s t : SS} (h : Ag [12, 31] s t) (e1 : t.1 0 0 9 = s.1 0 0 9) (e2 : t.1 0 0 12 = s.1 0 0 12) (e3 : t.1 30 0 0 = s.1 30 0 0) (e4 : t.1 30 0 2 = s.1 30 0 2) (e5 : t.2.1 0 0 10 = s.2.1 0 0 10) (e6 : t.2.1 0 0 11 = s.2.1 0 0 11) (e7 : t.2.1 30 0 3 = s.2.1 30 0 3) (e8 : t.2.1 30 0 4 = s.2.1 30 0 4) (hJ : JF s) : JF t := by
  have f1 := (h.1 12 (by decide)).1
  have f2 := (h.1 31 (by decide)).1
  unfold JF
  rw [e1, e2, e3, e4, e5, e6, e7, e8]
  simp only [f1, f2]
  exact hJ
theorem tl_ag {s t : SS} (h : Ag [37] s t) (k : Nat) : tl t k = tl s k := by
  unfold tl
  rw [(h.1 37 (by decide)).1]
theorem JS_ag {s t : SS} (h : Ag [9, 37] s t) (e7 : t.1 0 0 7 = s.1 0 0 7) (e10 : t.1 30 0 10 = s.1 30 0 10) (hJ : JS s) : JS t := by
  have f1 := (h.1 9 (by decide)).1
  have f2 := (h.1 37 (by decide)).1
  unfold JS tl nN
  simp only [e7, e10, f1, f2]
  exact hJ
theorem Ag_mono {K K' : List Nat} {s t : SS} (h : Ag K s t) (hk : ∀ a, a ∈ K' → a ∈ K) : Ag K' s t := ⟨fun a ha => h.1 a (hk a ha), h.2⟩
theorem brk_ag {s t : SS} (h : Ag [37, 42, 44, 45, 46, 47, 48, 49] s t) (e10 : t.1 30 0 10 = s.1 30 0 10) : brk t = brk s ∧ soB t = soB s ∧ nW t = nW s := by
  have f0 := (h.1 37 (by decide)).1
  have f1 := (h.1 42 (by decide)).1
  have f2 := (h.1 44 (by decide)).1
  have f3 := (h.1 45 (by decide)).1
  have f4 := (h.1 46 (by decide)).1
  have f5 := (h.1 47 (by decide)).1
  have f6 := (h.1 48 (by decide)).1
  have f7 := (h.1 49 (by decide)).1
  have e1 : tl t = tl s := by funext k; unfold tl; rw [f0]
  have e2 : soB t = soB s := by funext k w; unfold soB; rw [e1]
  have e3 : nN t = nN s := by unfold nN; rw [e10]
  have e4 : kdN t = kdN s := by funext k; unfold kdN; rw [f1]
  have e5 : fgN t = fgN s := by funext k; unfold fgN; rw [f2]
  have e6 : npN t = npN s := by funext k; unfold npN; rw [f3]
  have e7 : ptN t = ptN s := by funext k; unfold ptN; rw [f4]
  have e8 : ptS t = ptS s := by funext k; unfold ptS; rw [f5]
  have e9 : pt1 t = pt1 s := by funext k; unfold pt1; rw [f6]
  have ea : pt2 t = pt2 s := by funext k; unfold pt2; rw [f7]
  have eb : sayN t = sayN s := by funext i x y; unfold sayN; rw [e8, e9, ea]
  have ec : holB t = holB s := by funext i x y w; unfold holB; rw [e2, eb, e7]
  have ed : hasV t = hasV s := by funext k v; unfold hasV; rw [e8, e9, ea, e6]
  have ee : nX t = nX s := by funext k; unfold nX; rw [ed, e3]
  have ef : nY t = nY s := by funext k; unfold nY; rw [ed, e3]
  refine ⟨?_, e2, by unfold nW; rw [e1]⟩
  funext k w
  unfold brk
  rw [e4, ec, e3, e5, e6, ee, ef]
theorem JB_ag {s t : SS} (h : Ag [11, 18, 19, 37, 42, 44, 45, 46, 47, 48, 49] s t) (e8 : t.1 0 0 8 = s.1 0 0 8) (e10 : t.1 30 0 10 = s.1 30 0 10) (hJ : JB s) : JB t := by
  obtain ⟨b1, b2, b3⟩ := brk_ag (Ag_mono h (by decide)) e10
  have f1 := (h.1 11 (by decide)).1
  have f2 := (h.1 18 (by decide)).1
  have f3 := (h.1 19 (by decide)).2
  unfold JB Tab trN bkN
  rw [e8, b1, b2, b3]
  simp only [f1, f2, f3]
  exact hJ
theorem JL_ag {s t : SS} (h : Ag [13, 14, 15, 16, 17, 42, 43, 44, 45, 46, 47, 48, 49] s t) (hJ : JL s) : JL t := by
  have e := fun a ha => (h.1 a ha).1
  have e1 := e 13 (by decide)
  have e2 := e 14 (by decide)
  have e3 := e 15 (by decide)
  have e4 := e 16 (by decide)
  have e5 := e 17 (by decide)
  have e6 := e 42 (by decide)
  have e7 := e 43 (by decide)
  have e8 := e 44 (by decide)
  have e9 := e 45 (by decide)
  have e10 := e 46 (by decide)
  have e11 := e 47 (by decide)
  have e12 := e 48 (by decide)
  have e13 := e 49 (by decide)
  unfold JL LJ PJ
  simp only [e1, e2, e3, e4, e5, e6, e7, e8, e9, e10, e11, e12, e13, h.2]
  exact hJ
/-- a state that differs in what the calls told alone -/
theorem J_ag {s t : SS} (h : Ag [9, 11, 13, 14, 15, 16, 17, 18, 19, 37, 42, 43, 44, 45, 46, 47, 48, 49] s t) (e7 : t.1 0 0 7 = s.1 0 0 7) (e8 : t.1 0 0 8 = s.1 0 0 8) (e10 : t.1 30 0 10 = s.1 30 0 10) (hR : JR t) (hT : JT t) (hF : JF t) (hJ : J s) : J t := ⟨hR, hT, hF, JS_ag (Ag_mono h (by decide)) e7 e10 hJ.2.2.2.1, JL_ag (Ag_mono h (by decide)) hJ.2.2.2.2.1, JB_ag (Ag_mono h (by decide)) e8 e10 hJ.2.2.2.2.2⟩
end
section
/-! rows and texts: the two systems' methods -/
theorem c_8_7 (j : Nat) (v : Int32) (s : SS) : ev 8 0 [some (.inr (.inr (7, j))), some (.inl v), none, none] [] s = some (none, fo (fun i s => wI s 7 j (0 + i) v) 40 s) := by
  rw [q_8_7]
  have h := lpS (fun i s => ev 8 5 [some (.inr (.inr (7, j))), some (.inl v), some (.inl (nI i)), some (.inl (nI 40))] [] s) (fun i s => wI s 7 j (0 + i) v) 40 (fun i x hi => by
    show ev 8 5 _ _ x = _
    rw [q_8_at5_7, if_pos (nI_lt hi (by decide)), if_pos (ixB_nI hi (by decide)), nI_s, cl_nI (by omega), Nat.zero_add]) s
  refine (show ev 8 5 _ _ s = _ from h).trans ?_
  rw [q_8_at5_7, if_neg (irr _)]
theorem c_8_8 (j : Nat) (v : Int32) (s : SS) : ev 8 0 [some (.inr (.inr (8, j))), some (.inl v), none, none] [] s = some (none, fo (fun i s => wI s 8 j (0 + i) v) 40 s) := by
  rw [q_8_8]
  have h := lpS (fun i s => ev 8 5 [some (.inr (.inr (8, j))), some (.inl v), some (.inl (nI i)), some (.inl (nI 40))] [] s) (fun i s => wI s 8 j (0 + i) v) 40 (fun i x hi => by
    show ev 8 5 _ _ x = _
    rw [q_8_at5_8, if_pos (nI_lt hi (by decide)), if_pos (ixB_nI hi (by decide)), nI_s, cl_nI (by omega), Nat.zero_add]) s
  refine (show ev 8 5 _ _ s = _ from h).trans ?_
  rw [q_8_at5_8, if_neg (irr _)]
/-- the reference's range test -/
theorem c_144 (v a b : Int32) (s : SS) : ev 144 0 [some (.inl v), some (.inl a), some (.inl b)] [] s = some (some (.inl (bI (!(decide (v < a)) && !(decide (b < v))))), s) := by
  rw [q_144]
  by_cases h1 : v < a <;> by_cases h2 : b < v <;> simp [h1, h2, bI]
theorem in_ix (v : Int32) (n : Nat) (hn : n + 1 < 2147483648) : (!(decide (v < 0)) && !(decide (nI n < v))) = ixB v (n + 1) := by
  by_cases h : ixB v (n + 1) = true
  · rw [h]
    obtain ⟨j, hj, rfl⟩ := (ixB_iff (by omega)).mp h
    have h1 : ¬ nI j < 0 := nI_pos (by omega)
    have h2 : ¬ nI n < nI j := by
      rw [n_lt (by omega) (by omega)]
      omega
    simp [h1, h2]
  · cases hb : ixB v (n + 1) with
    | true => exact absurd hb h
    | false =>
      rcases ixB_no (by omega) h with h1 | h1
      · simp [h1]
      · have h2 : nI n < v := by
          rw [lt_iff, ti_nI (by omega)]
          rw [le_iff, ti_nI (by omega)] at h1
          omega
        simp [h2]
theorem c_150 (v : Int32) (s : SS) : ev 150 0 [some (.inl v)] [] s = some (some (.inl (bI (ixB v 6))), s) := by
  rw [q_150, c_144, cI_s, show (5 : Int32) = nI 5 from rfl, in_ix v 5 (by decide), bI_Z]
  rfl
theorem c_151 (v : Int32) (s : SS) : ev 151 0 [some (.inl v)] [] s = some (some (.inl (bI (ixB v 4))), s) := by
  rw [q_151, c_144, cI_s, show (3 : Int32) = nI 3 from rfl, in_ix v 3 (by decide), bI_Z]
  rfl
theorem c_146 (v a : Int32) (s : SS) : ev 146 0 [some (.inr (.inr (30, 0))), some (.inl v), some (.inl a)] [] s = some (some (.inl a), wI s 30 0 2 v) := q_146 v a s
theorem c_154 {q i : Nat} (hq : q < 6) (hi : i < 40) (s : SS) : ev 154 0 [some (.inr (.inr (30, 0))), some (.inl (nI q)), some (.inl (nI i))] [] s = some (some (.inl (s.1 33 0 (40 * q + i))), s) := by
  rw [q_154, n_mulL, n_add, if_pos (ixB_nI (by omega) (by decide)), cl_nI (by omega)]
/-! row -/
theorem row_c {j n : Nat} (hj : j < 6) (hn : n ≤ 40) (s : SS) : ev 58 0 [some (.inr (.inr (0, 0))), some (.inl (nI j)), some (.inl (nI n))] [] s = some (some (.inl (nI n)), fo (fun i s => wI s 7 j (0 + i) 0) 40 (wI s 5 0 j (nI n))) := by
  have h1 : ¬ (40 : Int32) < nI n := by
    rw [L_ltn (by omega) (by decide)]
    omega
  have h2 : ¬ nI n < 0 := nI_pos (by omega)
  rw [q_58, q_101_1, c_9_1, ixB_nI hj (by decide), cI_s, ite_bI, if_pos rfl, if_neg h1, if_neg h2, q_13_1, c_9_1, ixB_nI hj (by decide), cI_s, ite_bI, if_pos rfl, if_neg h2, if_neg h1, if_pos rfl, if_pos rfl, cl_nI (by omega), c_8_7, cV_s, cV_s, cI_s]
theorem row_r {j n : Nat} (hj : j < 6) (hn : n ≤ 40) (s : SS) : ev 155 0 [some (.inr (.inr (30, 0))), some (.inl (nI j)), some (.inl (nI n)), none] [] s = some (some (.inl (nI n)), fo (fun i s => wI s 33 0 (40 * j + i) 0) 40 (wI s 32 0 j (nI n))) := by
  have h1 : ¬ (40 : Int32) < nI n := by
    rw [L_ltn (by omega) (by decide)]
    omega
  have h2 : ¬ nI n < 0 := nI_pos (by omega)
  rw [q_155, c_150, ixB_nI hj (by decide), cI_s, ite_bI, if_pos rfl, if_neg h1, if_neg h2, if_pos rfl, cl_nI (by omega)]
  have h := lpS (fun i s => ev 155 34 [some (.inr (.inr (30, 0))), some (.inl (nI j)), some (.inl (nI n)), some (.inl (nI i))] [] s) (fun i s => wI s 33 0 (40 * j + i) 0) 40 (fun i x hi => by
    show ev 155 34 _ _ x = _
    rw [q_155_at34, if_pos (show nI i < (40 : Int32) from nI_lt hi (by decide)), n_mulL, n_add, if_pos (ixB_nI (by omega) (by decide)), nI_s, cl_nI (by omega)]) (wI s 32 0 j (nI n))
  refine (show ev 155 34 _ _ _ = _ from h).trans ?_
  rw [q_155_at34, if_neg (show ¬ nI 40 < (40 : Int32) from irr (nI 40))]
theorem text_c {j n : Nat} (hj : j < 4) (hn : n ≤ 40) (s : SS) : ev 64 0 [some (.inr (.inr (0, 0))), some (.inl (nI j)), some (.inl (nI n))] [] s = some (some (.inl (nI n)), fo (fun i s => wI s 8 j (0 + i) 32) 40 (wI s 6 0 j (nI n))) := by
  have h1 : ¬ (40 : Int32) < nI n := by
    rw [L_ltn (by omega) (by decide)]
    omega
  have h2 : ¬ nI n < 0 := nI_pos (by omega)
  rw [q_64, q_101_2, c_9_2, ixB_nI hj (by decide), cI_s, ite_bI, if_pos rfl, if_neg h1, if_neg h2, q_13_2, c_9_2, ixB_nI hj (by decide), cI_s, ite_bI, if_pos rfl, if_neg h2, if_neg h1, if_pos rfl, if_pos rfl, cl_nI (by omega), c_8_8, cV_s, cV_s, cI_s]
theorem text_r {j n : Nat} (hj : j < 4) (hn : n ≤ 40) (s : SS) : ev 161 0 [some (.inr (.inr (30, 0))), some (.inl (nI j)), some (.inl (nI n)), none] [] s = some (some (.inl (nI n)), fo (fun i s => wI s 36 0 (40 * j + i) 32) 40 (wI s 35 0 j (nI n))) := by
  have h1 : ¬ (40 : Int32) < nI n := by
    rw [L_ltn (by omega) (by decide)]
    omega
  have h2 : ¬ nI n < 0 := nI_pos (by omega)
  rw [q_161, c_151, ixB_nI hj (by decide), cI_s, ite_bI, if_pos rfl, if_neg h1, if_neg h2, if_pos rfl, cl_nI (by omega)]
  have h := lpS (fun i s => ev 161 34 [some (.inr (.inr (30, 0))), some (.inl (nI j)), some (.inl (nI n)), some (.inl (nI i))] [] s) (fun i s => wI s 36 0 (40 * j + i) 32) 40 (fun i x hi => by
    show ev 161 34 _ _ x = _
    rw [q_161_at34, if_pos (show nI i < (40 : Int32) from nI_lt hi (by decide)), n_mulL, n_add, if_pos (ixB_nI (by omega) (by decide)), nI_s, cl_nI (by omega)]) (wI s 35 0 j (nI n))
  refine (show ev 161 34 _ _ _ = _ from h).trans ?_
  rw [q_161_at34, if_neg (show ¬ nI 40 < (40 : Int32) from irr (nI 40))]
/-- one call in both systems: the same answer, the coupling again, the script as it was -/
def PI (cm rm : Nat) (ca ra : LO) (s : SS) : Prop := ∃ (a : Int32) (s1 s2 : SS), ev cm 0 ca [] s = some (some (.inl a), s1) ∧ ev rm 0 ra [] s1 = some (some (.inl a), s2) ∧ J s2 ∧ (∀ b c, s1.1 60 b c = s.1 60 b c) ∧ ∀ b c, s2.1 60 b c = s.1 60 b c
def PL (cm rm : Nat) (ca ra : LO) (s : SS) : Prop := ∃ (a : Int64) (s1 s2 : SS), ev cm 0 ca [] s = some (some (.inr (.inl a)), s1) ∧ ev rm 0 ra [] s1 = some (some (.inr (.inl a)), s2) ∧ J s2 ∧ (∀ b c, s1.1 60 b c = s.1 60 b c) ∧ ∀ b c, s2.1 60 b c = s.1 60 b c
theorem J_f {s : SS} (h : J s) {f : Nat} (hf : f < 6) : J (fR (fC s f) f) := J_ag (s := s) (Ag_tr (Ag_fC (by decide) (by decide)) (Ag_fR (by decide) (by decide))) rfl rfl rfl (JR_ag (Ag_tr (Ag_fC (by decide) (by decide)) (Ag_fR (by decide) (by decide))) h.1) (JT_ag (Ag_tr (Ag_fC (by decide) (by decide)) (Ag_fR (by decide) (by decide))) h.2.1) (JF_f h.2.2.1 hf) h
/-- a finding in both -/
theorem PI_f {cm rm f : Nat} {ca ra : LO} {s : SS} (h : J s) (hf : f < 6) (h1 : ev cm 0 ca [] s = some (some (.inl (-3)), fC s f)) (h2 : ∀ t, Ag [32, 35, 37, 42] s t → t.1 30 0 10 = s.1 30 0 10 → ev rm 0 ra [] t = some (some (.inl (-3)), fR t f)) : PI cm rm ca ra s := ⟨-3, _, _, h1, h2 _ (Ag_fC (by decide) (by decide)) rfl, J_f h hf, fun _ _ => rfl, fun _ _ => rfl⟩
theorem PI_0 {cm rm : Nat} {ca ra : LO} {s : SS} (h : J s) (a : Int32) (h1 : ev cm 0 ca [] s = some (some (.inl a), s)) (h2 : ev rm 0 ra [] s = some (some (.inl a), s)) : PI cm rm ca ra s := ⟨a, s, s, h1, h2, h, fun _ _ => rfl, fun _ _ => rfl⟩
/-- what a call tells by asked() -/
theorem J_ask {s : SS} (h : J s) (v : Int32) : J (wI (wI s 0 0 9 v) 30 0 2 v) := by
  obtain ⟨h1, h2, h3, h4, h5, h6⟩ := h
  refine J_ag (s := s) (Ag_tr (Ag_wI (by decide)) (Ag_wI (by decide))) rfl rfl rfl (JR_ag (Ag_tr (Ag_wI (by decide)) (Ag_wI (by decide))) h1) (JT_ag (Ag_tr (Ag_wI (by decide)) (Ag_wI (by decide))) h2) ?_ ⟨h1, h2, h3, h4, h5, h6⟩
  exact ⟨rfl, h3.2.1, h3.2.2.1, h3.2.2.2.1, h3.2.2.2.2⟩
theorem ix_no {x : Int32} {n : Nat} (h : ¬ ixB x n = true) : ixB x n = false := by
  cases hb : ixB x n with
  | false => rfl
  | true => exact absurd hb h
/-- an int is too small, or too large, or in place -/
theorem three (x : Int32) (n : Nat) (hn : n + 1 < 2147483648) : x < 0 ∨ (nI n < x) ∨ ∃ m, m ≤ n ∧ x = nI m := by
  rcases pk_ix x (n := n + 1) hn with h | h | ⟨m, h1, h2⟩
  · exact Or.inl h
  · refine Or.inr (Or.inl ?_)
    rw [lt_iff, ti_nI (by omega)]
    rw [le_iff, ti_nI hn] at h
    omega
  · exact Or.inr (Or.inr ⟨m, by omega, h2⟩)
theorem neg_lt {x : Int32} (h : x < 0) (n : Nat) (hn : n < 2147483648) : ¬ nI n < x := by
  rw [lt_iff, ti_nI hn]
  rw [lt_iff] at h
  have : (0 : Int32).toInt = 0 := rfl
  omega
theorem big_nn {x : Int32} {n : Nat} (h : nI n < x) (hn : n < 2147483648) : ¬ x < 0 := by
  rw [lt_iff]
  rw [lt_iff, ti_nI hn] at h
  have : (0 : Int32).toInt = 0 := rfl
  omega
/-- t differs from s in the ints of some kinds alone -/
def OffK (K : List Nat) (s t : SS) : Prop := (∀ a b c, a ∉ K → t.1 a b c = s.1 a b c) ∧ t.2 = s.2
theorem Off_rf {K : List Nat} {s : SS} : OffK K s s := ⟨fun _ _ _ _ => rfl, rfl⟩
theorem Off_tr {K : List Nat} {s t u : SS} (h1 : OffK K s t) (h2 : OffK K t u) : OffK K s u := ⟨fun a b c h => (h2.1 a b c h).trans (h1.1 a b c h), h2.2.trans h1.2⟩
theorem Off_wI {K : List Nat} {s : SS} {k j i : Nat} {v : Int32} (h : k ∈ K) : OffK K s (wI s k j i v) := ⟨fun a b c ha => by rw [wI_1, if_neg (show ¬ (a = k ∧ b = j ∧ c = i) from fun z => ha (z.1 ▸ h))], rfl⟩
theorem Off_wA {K : List Nat} {s : SS} {k j : Nat} {f : Nat → Int32} (h : k ∈ K) : OffK K s (wA s k j f) := ⟨fun a b c ha => by rw [wA_1, if_neg (show ¬ (a = k ∧ b = j) from fun z => ha (z.1 ▸ h))], rfl⟩
theorem Off_fo {K : List Nat} {f : Nat → SS → SS} (h : ∀ i s, OffK K s (f i s)) (s : SS) : ∀ n, OffK K s (fo f n s)
  | 0 => Off_rf
  | n + 1 => Off_tr (Off_fo h s n) (h n _)
theorem Ag_off {K K' : List Nat} {s t : SS} (h : OffK K s t) (hd : ∀ a, a ∈ K' → a ∉ K) : Ag K' s t := ⟨fun a ha => ⟨fun b c => h.1 a b c (hd a ha), fun b c => by rw [h.2]⟩, by rw [h.2]⟩
theorem J_off {K : List Nat} {s t : SS} (h : OffK K s t) (hd : ∀ a, a ∈ [0, 9, 11, 12, 13, 14, 15, 16, 17, 18, 19, 30, 31, 37, 42, 43, 44, 45, 46, 47, 48, 49] → a ∉ K) (hR : JR t) (hT : JT t) (hJ : J s) : J t := by
  have e0 : ∀ b c, t.1 0 b c = s.1 0 b c := fun b c => h.1 0 b c (hd 0 (by decide))
  have e30 : ∀ b c, t.1 30 b c = s.1 30 b c := fun b c => h.1 30 b c (hd 30 (by decide))
  refine J_ag (s := s) (Ag_mono (Ag_off h hd) (by decide)) (e0 _ _) (e0 _ _) (e30 _ _) hR hT ?_ hJ
  exact JF_ag (Ag_mono (Ag_off h hd) (by decide)) (e0 _ _) (e0 _ _) (e30 _ _) (e30 _ _) (by rw [h.2]) (by rw [h.2]) (by rw [h.2]) (by rw [h.2]) hJ.2.2.1
/-! row -/
theorem pub_row {s : SS} (h : J s) (r n : Int32) : PI 58 155 [some (.inr (.inr (0, 0))), some (.inl r), some (.inl n)] [some (.inr (.inr (30, 0))), some (.inl r), some (.inl n), none] s := by
  by_cases hr : ixB r 6 = true
  · rcases three n 40 (by decide) with hn | hn | ⟨m, hm, rfl⟩
    · have hn2 : ¬ (40 : Int32) < n := neg_lt hn 40 (by decide)
      refine PI_f h (f := 5) (by decide) ?_ (fun t _ _ => ?_)
      · rw [q_58, q_101_1, c_9_1, hr, cI_s, ite_bI, if_pos rfl, if_neg hn2, if_pos hn, c_100_5, cI_s, cI_s]
      · rw [q_155, c_150, hr, cI_s, ite_bI, if_pos rfl, if_neg hn2, if_pos hn, c_145_5, cI_s]
    · have hn2 : (40 : Int32) < n := hn
      refine PI_0 h (-1) ?_ ?_
      · rw [q_58, q_101_1, c_9_1, hr, cI_s, ite_bI, if_pos rfl, if_pos hn2, cI_s]
      · rw [q_155, c_150, hr, cI_s, ite_bI, if_pos rfl, if_pos hn2]
    · obtain ⟨j, hj, rfl⟩ := (ixB_iff (by decide)).mp hr
      have hoff : OffK [5, 7, 32, 33] s (fo (fun i s => wI s 33 0 (40 * j + i) 0) 40 (wI (fo (fun i s => wI s 7 j (0 + i) 0) 40 (wI s 5 0 j (nI m))) 32 0 j (nI m))) := Off_tr (Off_tr (Off_tr (Off_wI (by decide)) (Off_fo (fun _ _ => Off_wI (by decide)) _ _)) (Off_wI (by decide))) (Off_fo (fun _ _ => Off_wI (by decide)) _ _)
      refine ⟨nI m, _, _, row_c hj hm s, row_r hj hm _, J_off hoff (by decide) ⟨fun q hq => ?_, fun q i hq hi => ?_⟩ (JT_ag (Ag_off hoff (by decide)) h.2.1) h, fun b c => (Off_tr (Off_wI (K := [5, 7]) (by decide)) (Off_fo (fun _ _ => Off_wI (by decide)) _ _)).1 60 b c (by decide), fun b c => hoff.1 60 b c (by decide)⟩
      · by_cases e : q = j
        · subst e
          refine Or.inr ⟨m, hm, ?_, ?_⟩ <;> simp only [fo_wI, wI_1] <;> simp
        · rcases h.1.1 q hq with g | ⟨n, g1, g2, g3⟩
          · exact Or.inl (by simp only [fo_wI, wI_1]; simpa [e] using g)
          · exact Or.inr ⟨n, g1, by simp only [fo_wI, wI_1]; simpa [e] using g2, by simp only [fo_wI, wI_1]; simpa [e] using g3⟩
      · have g := h.1.2 q i hq hi
        by_cases e : q = j
        · subst e
          have : 40 * q + i < 40 * q + 40 := by omega
          simp only [fo_wI, wI_1]
          simp [hi]
        · have e2 : ¬ (40 * j ≤ 40 * q + i ∧ 40 * q + i < 40 * j + 40) := by omega
          simp only [fo_wI, wI_1]
          simp [e, e2, g]
  · have hr' := ix_no hr
    refine PI_0 h (-1) ?_ ?_
    · rw [q_58, q_101_1, c_9_1, hr', cI_s, ite_bI, if_neg (by decide), cI_s]
    · rw [q_155, c_150, hr', cI_s, ite_bI, if_neg (by decide)]
theorem pub_text {s : SS} (h : J s) (r n : Int32) : PI 64 161 [some (.inr (.inr (0, 0))), some (.inl r), some (.inl n)] [some (.inr (.inr (30, 0))), some (.inl r), some (.inl n), none] s := by
  by_cases hr : ixB r 4 = true
  · rcases three n 40 (by decide) with hn | hn | ⟨m, hm, rfl⟩
    · have hn2 : ¬ (40 : Int32) < n := neg_lt hn 40 (by decide)
      refine PI_f h (f := 5) (by decide) ?_ (fun t _ _ => ?_)
      · rw [q_64, q_101_2, c_9_2, hr, cI_s, ite_bI, if_pos rfl, if_neg hn2, if_pos hn, c_100_5, cI_s, cI_s]
      · rw [q_161, c_151, hr, cI_s, ite_bI, if_pos rfl, if_neg hn2, if_pos hn, c_145_5, cI_s]
    · have hn2 : (40 : Int32) < n := hn
      refine PI_0 h (-1) ?_ ?_
      · rw [q_64, q_101_2, c_9_2, hr, cI_s, ite_bI, if_pos rfl, if_pos hn2, cI_s]
      · rw [q_161, c_151, hr, cI_s, ite_bI, if_pos rfl, if_pos hn2]
    · obtain ⟨j, hj, rfl⟩ := (ixB_iff (by decide)).mp hr
      have hoff : OffK [6, 8, 35, 36] s (fo (fun i s => wI s 36 0 (40 * j + i) 32) 40 (wI (fo (fun i s => wI s 8 j (0 + i) 32) 40 (wI s 6 0 j (nI m))) 35 0 j (nI m))) := Off_tr (Off_tr (Off_tr (Off_wI (by decide)) (Off_fo (fun _ _ => Off_wI (by decide)) _ _)) (Off_wI (by decide))) (Off_fo (fun _ _ => Off_wI (by decide)) _ _)
      refine ⟨nI m, _, _, text_c hj hm s, text_r hj hm _, J_off hoff (by decide) (JR_ag (Ag_off hoff (by decide)) h.1) ⟨fun q hq => ?_, fun q i hq hi => ?_⟩ h, fun b c => (Off_tr (Off_wI (K := [6, 8]) (by decide)) (Off_fo (fun _ _ => Off_wI (by decide)) _ _)).1 60 b c (by decide), fun b c => hoff.1 60 b c (by decide)⟩
      · by_cases e : q = j
        · subst e
          refine Or.inr ⟨m, hm, ?_, ?_⟩ <;> simp only [fo_wI, wI_1] <;> simp
        · rcases h.2.1.1 q hq with g | ⟨n, g1, g2, g3⟩
          · exact Or.inl (by simp only [fo_wI, wI_1]; simpa [e] using g)
          · exact Or.inr ⟨n, g1, by simp only [fo_wI, wI_1]; simpa [e] using g2, by simp only [fo_wI, wI_1]; simpa [e] using g3⟩
      · have g := h.2.1.2 q i hq hi
        by_cases e : q = j
        · subst e
          have : 40 * q + i < 40 * q + 40 := by omega
          simp only [fo_wI, wI_1]
          simp [hi]
        · have e2 : ¬ (40 * j ≤ 40 * q + i ∧ 40 * q + i < 40 * j + 40) := by omega
          simp only [fo_wI, wI_1]
          simp [e, e2, g]
  · have hr' := ix_no hr
    refine PI_0 h (-1) ?_ ?_
    · rw [q_64, q_101_2, c_9_2, hr', cI_s, ite_bI, if_neg (by decide), cI_s]
    · rw [q_161, c_151, hr', cI_s, ite_bI, if_neg (by decide)]
end
section
theorem sub1_lt {n : Nat} (hn : n < 1073741824) (x : Int32) : (nI n - 1 < x) = (nI n ≤ x) := by
  apply propext
  rw [lt_iff, le_iff, show (1 : Int32) = nI 1 from rfl, pk_sub_toInt hn (by decide), ti_nI (by omega)]
  omega
theorem nm1 (n : Nat) (h : n < 2147483648) : ¬ nI n = -1 := by
  rw [n_ne h (by decide) (by decide)]
  exact id
theorem hasR_y {s : SS} {j n : Nat} (hj : j < 6) (hn : n ≤ 40) (h : s.1 5 0 j = nI n) : hasR s (nI j) = true := by
  unfold hasR
  rw [ixB_nI hj (by decide), cl_nI (by omega), h]
  simp [nm1 n (by omega)]
theorem hasR_n {s : SS} {j : Nat} (hj : j < 6) (h : s.1 5 0 j = -1) : hasR s (nI j) = false := by
  unfold hasR
  rw [cl_nI (by omega), h]
  simp
theorem hasT_y {s : SS} {j n : Nat} (hj : j < 4) (hn : n ≤ 40) (h : s.1 6 0 j = nI n) : hasT s (nI j) = true := by
  unfold hasT
  rw [ixB_nI hj (by decide), cl_nI (by omega), h]
  simp [nm1 n (by omega)]
theorem hasT_n {s : SS} {j : Nat} (hj : j < 4) (h : s.1 6 0 j = -1) : hasT s (nI j) = false := by
  unfold hasT
  rw [cl_nI (by omega), h]
  simp
/-- a place that there is -/
theorem hpR_y {s : SS} {j n k : Nat} (hj : j < 6) (hn : n ≤ 40) (hk : k < n) (h : s.1 5 0 j = nI n) : hpR s (nI j) (nI k) 1 = true := by
  unfold hpR
  rw [hasR_y hj hn h, cl_nI (by omega), h]
  have h1 : ¬ nI k < 0 := nI_pos (by omega)
  have h2 : ¬ nI n - 1 < nI k := by
    rw [sub1_lt (by omega), n_le (by omega) (by omega)]
    omega
  have h3 : ¬ (1 : Int32) < 0 := by decide
  simp [h1, h2, h3]
theorem hpR_n {s : SS} {j n : Nat} {i : Int32} (hj : j < 6) (hn : n ≤ 40) (h : s.1 5 0 j = nI n) (hi : i < 0 ∨ nI n ≤ i) : hpR s (nI j) i 1 = false := by
  unfold hpR
  rw [cl_nI (by omega), h]
  rcases hi with h1 | h1
  · simp [h1]
  · have h2 : nI n - 1 < i := by
      rw [sub1_lt (by omega)]
      exact h1
    simp [h2]
theorem hpT_y {s : SS} {j n k : Nat} (hj : j < 4) (hn : n ≤ 40) (hk : k < n) (h : s.1 6 0 j = nI n) : hpT s (nI j) (nI k) 1 = true := by
  unfold hpT
  rw [hasT_y hj hn h, cl_nI (by omega), h]
  have h1 : ¬ nI k < 0 := nI_pos (by omega)
  have h2 : ¬ nI n - 1 < nI k := by
    rw [sub1_lt (by omega), n_le (by omega) (by omega)]
    omega
  have h3 : ¬ (1 : Int32) < 0 := by decide
  simp [h1, h2, h3]
theorem hpT_n {s : SS} {j n : Nat} {i : Int32} (hj : j < 4) (hn : n ≤ 40) (h : s.1 6 0 j = nI n) (hi : i < 0 ∨ nI n ≤ i) : hpT s (nI j) i 1 = false := by
  unfold hpT
  rw [cl_nI (by omega), h]
  rcases hi with h1 | h1
  · simp [h1]
  · have h2 : nI n - 1 < i := by
      rw [sub1_lt (by omega)]
      exact h1
    simp [h2]
theorem in_y {n k : Nat} (hn : n ≤ 40) (hk : k < n) : (!(decide (nI k < 0)) && !(decide (nI n - 1 < nI k))) = true := by
  have h1 : ¬ nI k < 0 := nI_pos (by omega)
  have h2 : ¬ nI n - 1 < nI k := by
    rw [sub1_lt (by omega), n_le (by omega) (by omega)]
    omega
  simp [h1, h2]
theorem in_n {n : Nat} {i : Int32} (hn : n ≤ 40) (hi : i < 0 ∨ nI n ≤ i) : (!(decide (i < 0)) && !(decide (nI n - 1 < i))) = false := by
  rcases hi with h1 | h1
  · simp [h1]
  · have h2 : nI n - 1 < i := by
      rw [sub1_lt (by omega)]
      exact h1
    simp [h2]
/-! the four ways of a place, class: rows -/
theorem ref1_b {s : SS} {r i : Int32} (h : ixB r 6 = false) : ev 102 0 [some (.inr (.inr (0, 0))), some (.inr (.inr (1, 0))), some (.inl r), some (.inl i)] [] s = some (some (.inl (-1)), s) := by
  rw [q_102_1, c_9_1, h, cI_s, ite_bI, if_neg (by decide)]
theorem ref1_m {s : SS} {j : Nat} {i : Int32} (hj : j < 6) (h : s.1 5 0 j = -1) : ev 102 0 [some (.inr (.inr (0, 0))), some (.inr (.inr (1, 0))), some (.inl (nI j)), some (.inl i)] [] s = some (some (.inl (-3)), fC s 1) := by
  rw [q_102_1, c_9_1, ixB_nI hj (by decide), cI_s, ite_bI, if_pos rfl, c_10_1, hasR_n hj h, cI_s, ite_bI, if_neg (by decide), c_100_1, cI_s]
theorem ref1_n {s : SS} {j n : Nat} {i : Int32} (hj : j < 6) (hn : n ≤ 40) (h : s.1 5 0 j = nI n) (hi : i < 0 ∨ nI n ≤ i) : ev 102 0 [some (.inr (.inr (0, 0))), some (.inr (.inr (1, 0))), some (.inl (nI j)), some (.inl i)] [] s = some (some (.inl (-3)), fC s 2) := by
  rw [q_102_1, c_9_1, ixB_nI hj (by decide), cI_s, ite_bI, if_pos rfl, c_10_1, hasR_y hj hn h, cI_s, ite_bI, if_pos rfl, c_12_1, hpR_n hj hn h hi, cI_s, ite_bI, if_neg (by decide), c_100_2, cI_s]
theorem ref1_y {s : SS} {j n k : Nat} (hj : j < 6) (hn : n ≤ 40) (h : s.1 5 0 j = nI n) (hk : k < n) : ev 102 0 [some (.inr (.inr (0, 0))), some (.inr (.inr (1, 0))), some (.inl (nI j)), some (.inl (nI k))] [] s = some (some (.inl 0), s) := by
  rw [q_102_1, c_9_1, ixB_nI hj (by decide), cI_s, ite_bI, if_pos rfl, c_10_1, hasR_y hj hn h, cI_s, ite_bI, if_pos rfl, c_12_1, hpR_y hj hn hk h, cI_s, ite_bI, if_pos rfl]
theorem ref2_b {s : SS} {r i : Int32} (h : ixB r 4 = false) : ev 102 0 [some (.inr (.inr (0, 0))), some (.inr (.inr (2, 0))), some (.inl r), some (.inl i)] [] s = some (some (.inl (-1)), s) := by
  rw [q_102_2, c_9_2, h, cI_s, ite_bI, if_neg (by decide)]
theorem ref2_m {s : SS} {j : Nat} {i : Int32} (hj : j < 4) (h : s.1 6 0 j = -1) : ev 102 0 [some (.inr (.inr (0, 0))), some (.inr (.inr (2, 0))), some (.inl (nI j)), some (.inl i)] [] s = some (some (.inl (-3)), fC s 1) := by
  rw [q_102_2, c_9_2, ixB_nI hj (by decide), cI_s, ite_bI, if_pos rfl, c_10_2, hasT_n hj h, cI_s, ite_bI, if_neg (by decide), c_100_1, cI_s]
theorem ref2_n {s : SS} {j n : Nat} {i : Int32} (hj : j < 4) (hn : n ≤ 40) (h : s.1 6 0 j = nI n) (hi : i < 0 ∨ nI n ≤ i) : ev 102 0 [some (.inr (.inr (0, 0))), some (.inr (.inr (2, 0))), some (.inl (nI j)), some (.inl i)] [] s = some (some (.inl (-3)), fC s 2) := by
  rw [q_102_2, c_9_2, ixB_nI hj (by decide), cI_s, ite_bI, if_pos rfl, c_10_2, hasT_y hj hn h, cI_s, ite_bI, if_pos rfl, c_12_2, hpT_n hj hn h hi, cI_s, ite_bI, if_neg (by decide), c_100_2, cI_s]
theorem ref2_y {s : SS} {j n k : Nat} (hj : j < 4) (hn : n ≤ 40) (h : s.1 6 0 j = nI n) (hk : k < n) : ev 102 0 [some (.inr (.inr (0, 0))), some (.inr (.inr (2, 0))), some (.inl (nI j)), some (.inl (nI k))] [] s = some (some (.inl 0), s) := by
  rw [q_102_2, c_9_2, ixB_nI hj (by decide), cI_s, ite_bI, if_pos rfl, c_10_2, hasT_y hj hn h, cI_s, ite_bI, if_pos rfl, c_12_2, hpT_y hj hn hk h, cI_s, ite_bI, if_pos rfl]
/-! the reference's -/
theorem ar_b {s : SS} {r : Int32} (h : ixB r 6 = false) : ev 152 0 [some (.inr (.inr (30, 0))), some (.inl r)] [] s = some (some (.inl (-1)), s) := by
  rw [q_152, c_150, h, cI_s, ite_bI, if_neg (by decide)]
theorem ar_m {s : SS} {j : Nat} (hj : j < 6) (h : s.1 32 0 j = -9) : ev 152 0 [some (.inr (.inr (30, 0))), some (.inl (nI j))] [] s = some (some (.inl (-3)), fR s 1) := by
  rw [q_152, c_150, ixB_nI hj (by decide), cI_s, ite_bI, if_pos rfl, if_pos rfl, cl_nI (by omega), h, if_pos (by decide), c_145_1, cI_s]
theorem ar_y {s : SS} {j n : Nat} (hj : j < 6) (hn : n ≤ 40) (h : s.1 32 0 j = nI n) : ev 152 0 [some (.inr (.inr (30, 0))), some (.inl (nI j))] [] s = some (some (.inl 0), s) := by
  rw [q_152, c_150, ixB_nI hj (by decide), cI_s, ite_bI, if_pos rfl, if_pos rfl, cl_nI (by omega), h, if_neg (nI_pos (by omega))]
theorem at_b {s : SS} {r : Int32} (h : ixB r 4 = false) : ev 153 0 [some (.inr (.inr (30, 0))), some (.inl r)] [] s = some (some (.inl (-1)), s) := by
  rw [q_153, c_151, h, cI_s, ite_bI, if_neg (by decide)]
theorem at_m {s : SS} {j : Nat} (hj : j < 4) (h : s.1 35 0 j = -9) : ev 153 0 [some (.inr (.inr (30, 0))), some (.inl (nI j))] [] s = some (some (.inl (-3)), fR s 1) := by
  rw [q_153, c_151, ixB_nI hj (by decide), cI_s, ite_bI, if_pos rfl, if_pos rfl, cl_nI (by omega), h, if_pos (by decide), c_145_1, cI_s]
theorem at_y {s : SS} {j n : Nat} (hj : j < 4) (hn : n ≤ 40) (h : s.1 35 0 j = nI n) : ev 153 0 [some (.inr (.inr (30, 0))), some (.inl (nI j))] [] s = some (some (.inl 0), s) := by
  rw [q_153, c_151, ixB_nI hj (by decide), cI_s, ite_bI, if_pos rfl, if_pos rfl, cl_nI (by omega), h, if_neg (nI_pos (by omega))]
theorem ix3 (i : Int32) (n : Nat) (hn : n < 2147483648) : (i < 0 ∨ nI n ≤ i) ∨ ∃ k, k < n ∧ i = nI k := by
  rcases pk_ix i hn with h | h | h
  · exact Or.inl (Or.inl h)
  · exact Or.inl (Or.inr h)
  · exact Or.inr h
/-! at -/
theorem at_r_b {s : SS} {r i : Int32} (h : ixB r 6 = false) : ev 156 0 [some (.inr (.inr (30, 0))), some (.inl r), some (.inl i), none] [] s = some (some (.inl (-1)), s) := by
  rw [q_156, ar_b h, cI_s, if_pos (by decide)]
theorem at_r_m {s : SS} {j : Nat} {i : Int32} (hj : j < 6) (h : s.1 32 0 j = -9) : ev 156 0 [some (.inr (.inr (30, 0))), some (.inl (nI j)), some (.inl i), none] [] s = some (some (.inl (-3)), fR s 1) := by
  rw [q_156, ar_m hj h, cI_s, if_pos (by decide)]
theorem at_r_n {s : SS} {j n : Nat} {i : Int32} (hj : j < 6) (hn : n ≤ 40) (h : s.1 32 0 j = nI n) (hi : i < 0 ∨ nI n ≤ i) : ev 156 0 [some (.inr (.inr (30, 0))), some (.inl (nI j)), some (.inl i), none] [] s = some (some (.inl (-3)), fR s 2) := by
  rw [q_156, ar_y hj hn h, cI_s, if_neg (by decide), if_pos (ixB_nI hj (by decide)), cl_nI (by omega), h, c_144, in_n hn hi, cI_s, ite_bI, if_neg (by decide), c_145_2, cI_s]
theorem at_r_y {s : SS} {j n k : Nat} (hj : j < 6) (hn : n ≤ 40) (h : s.1 32 0 j = nI n) (hk : k < n) : ev 156 0 [some (.inr (.inr (30, 0))), some (.inl (nI j)), some (.inl (nI k)), none] [] s = some (some (.inl 1), wI s 30 0 2 (s.1 33 0 (40 * j + k))) := by
  rw [q_156, ar_y hj hn h, cI_s, if_neg (by decide), if_pos (ixB_nI hj (by decide)), cl_nI (by omega), h, c_144, in_y hn hk, cI_s, ite_bI, if_pos rfl, c_154 hj (by omega), cI_s, c_146, cI_s]
theorem plR_y {s : SS} {j n k : Nat} (hj : j < 6) (hn : n ≤ 40) (h : s.1 5 0 j = nI n) (hk : k < n) : ev 15 0 [some (.inr (.inr (1, 0))), some (.inl (nI j)), some (.inl (nI k))] [] s = some (some (.inl (s.1 7 j k)), s) := by
  rw [q_15_1, c_12_1, hpR_y hj hn hk h, cI_s, ite_bI, if_pos rfl, if_pos (ixB_nI hj (by decide)), if_pos (ixB_nI (by omega) (by decide)), cl_nI (by omega), cl_nI (by omega)]
theorem plT_y {s : SS} {j n k : Nat} (hj : j < 4) (hn : n ≤ 40) (h : s.1 6 0 j = nI n) (hk : k < n) : ev 15 0 [some (.inr (.inr (2, 0))), some (.inl (nI j)), some (.inl (nI k))] [] s = some (some (.inl (s.1 8 j k)), s) := by
  rw [q_15_2, c_12_2, hpT_y hj hn hk h, cI_s, ite_bI, if_pos rfl, if_pos (ixB_nI hj (by decide)), if_pos (ixB_nI (by omega) (by decide)), cl_nI (by omega), cl_nI (by omega)]
theorem pub_at {s : SS} (h : J s) (r i : Int32) : PI 60 156 [some (.inr (.inr (0, 0))), some (.inl r), some (.inl i), none] [some (.inr (.inr (30, 0))), some (.inl r), some (.inl i), none] s := by
  by_cases hr : ixB r 6 = true
  · obtain ⟨j, hj, rfl⟩ := (ixB_iff (by decide)).mp hr
    rcases h.1.1 j hj with ⟨g1, g2⟩ | ⟨n, hn, g1, g2⟩
    · refine PI_f h (f := 1) (by decide) ?_ (fun t ha _ => at_r_m hj (by rw [(ha.1 32 (by decide)).1]; exact g2))
      rw [q_60, ref1_m hj g1, cI_s, if_neg (by decide)]
    · rcases ix3 i n (by omega) with hi | ⟨k, hk, rfl⟩
      · refine PI_f h (f := 2) (by decide) ?_ (fun t ha _ => at_r_n hj hn (by rw [(ha.1 32 (by decide)).1]; exact g2) hi)
        rw [q_60, ref1_n hj hn g1 hi, cI_s, if_neg (by decide)]
      · have e := h.1.2 j k hj (by omega)
        have h1 : ev 60 0 [some (.inr (.inr (0, 0))), some (.inl (nI j)), some (.inl (nI k)), none] [] s = some (some (.inl 1), wI s 0 0 9 (s.1 33 0 (40 * j + k))) := by
          rw [q_60, ref1_y hj hn g1 hk, cI_s, if_pos rfl, plR_y hj hn g1 hk, cI_s, e]
        exact ⟨1, _, _, h1, at_r_y (s := wI s 0 0 9 (s.1 33 0 (40 * j + k))) hj hn g2 hk, J_ask h _, fun _ _ => rfl, fun _ _ => rfl⟩
  · refine PI_0 h (-1) ?_ (at_r_b (ix_no hr))
    rw [q_60, ref1_b (ix_no hr), cI_s, if_neg (by decide)]
theorem pub_lay {s : SS} (h : J s) (r i v : Int32) : PI 59 157 [some (.inr (.inr (0, 0))), some (.inl r), some (.inl i), some (.inl v), none] [some (.inr (.inr (30, 0))), some (.inl r), some (.inl i), some (.inl v), none] s := by
  by_cases hr : ixB r 6 = true
  · obtain ⟨j, hj, rfl⟩ := (ixB_iff (by decide)).mp hr
    rcases h.1.1 j hj with ⟨g1, g2⟩ | ⟨n, hn, g1, g2⟩
    · refine PI_f h (f := 1) (by decide) ?_ (fun t ha _ => ?_)
      · rw [q_59, ref1_m hj g1, cI_s, if_neg (by decide)]
      · rw [q_157, at_r_m hj (by rw [(ha.1 32 (by decide)).1]; exact g2), cI_s, if_pos (by decide)]
    · rcases ix3 i n (by omega) with hi | ⟨k, hk, rfl⟩
      · refine PI_f h (f := 2) (by decide) ?_ (fun t ha _ => ?_)
        · rw [q_59, ref1_n hj hn g1 hi, cI_s, if_neg (by decide)]
        · rw [q_157, at_r_n hj hn (by rw [(ha.1 32 (by decide)).1]; exact g2) hi, cI_s, if_pos (by decide)]
      · have e := h.1.2 j k hj (by omega)
        have h1 : ev 59 0 [some (.inr (.inr (0, 0))), some (.inl (nI j)), some (.inl (nI k)), some (.inl v), none] [] s = some (some (.inl 1), wI (wI s 0 0 9 (s.1 33 0 (40 * j + k))) 7 j k v) := by
          rw [q_59, ref1_y hj hn g1 hk, cI_s, if_pos rfl, plR_y hj hn g1 hk, cI_s, e, q_16_1, c_12_1, hpR_y (s := wI s 0 0 9 _) hj hn hk g1, cI_s, ite_bI, if_pos rfl, if_pos (ixB_nI hj (by decide)), if_pos (ixB_nI (by omega) (by decide)), cl_nI (by omega), cl_nI (by omega), cV_s]
        have h2 : ev 157 0 [some (.inr (.inr (30, 0))), some (.inl (nI j)), some (.inl (nI k)), some (.inl v), none] [] (wI (wI s 0 0 9 (s.1 33 0 (40 * j + k))) 7 j k v) = some (some (.inl 1), wI (wI (wI (wI s 0 0 9 (s.1 33 0 (40 * j + k))) 7 j k v) 30 0 2 (s.1 33 0 (40 * j + k))) 33 0 (40 * j + k) v) := by
          rw [q_157, at_r_y (s := wI (wI s 0 0 9 _) 7 j k v) hj hn g2 hk, cI_s, if_neg (by decide), n_mulL, n_add, if_pos (ixB_nI (by omega) (by decide)), cl_nI (by omega)]
          rfl
        refine ⟨1, _, _, h1, h2, ?_, fun _ _ => rfl, fun _ _ => rfl⟩
        have hA := J_ask h (s.1 33 0 (40 * j + k))
        have hoff : OffK [7, 33] (wI (wI s 0 0 9 (s.1 33 0 (40 * j + k))) 30 0 2 (s.1 33 0 (40 * j + k))) (wI (wI (wI (wI s 0 0 9 (s.1 33 0 (40 * j + k))) 7 j k v) 30 0 2 (s.1 33 0 (40 * j + k))) 33 0 (40 * j + k) v) := by
          refine ⟨fun a b c ha => ?_, rfl⟩
          have a7 : a ≠ 7 := fun z => ha (by simp [z])
          have a33 : a ≠ 33 := fun z => ha (by simp [z])
          simp [wI_1, a7, a33]
        refine J_off hoff (by decide) ⟨hA.1.1, fun q x hq hx => ?_⟩ (JT_ag (Ag_off hoff (by decide)) hA.2.1) hA
        have g := h.1.2 q x hq hx
        by_cases e1 : q = j ∧ x = k
        · obtain ⟨rfl, rfl⟩ := e1
          simp [wI_1]
        · have e2 : ¬ 40 * q + x = 40 * j + k := by omega
          have e3 : ¬ (q = j ∧ x = k) := e1
          simp [wI_1, e2, e3, g]
  · refine PI_0 h (-1) ?_ ?_
    · rw [q_59, ref1_b (ix_no hr), cI_s, if_neg (by decide)]
    · rw [q_157, at_r_b (ix_no hr), cI_s, if_pos (by decide)]
theorem pub_tear {s : SS} (h : J s) (r : Int32) : PI 61 158 [some (.inr (.inr (0, 0))), some (.inl r)] [some (.inr (.inr (30, 0))), some (.inl r), none] s := by
  by_cases hr : ixB r 6 = true
  · obtain ⟨j, hj, rfl⟩ := (ixB_iff (by decide)).mp hr
    rcases h.1.1 j hj with ⟨g1, g2⟩ | ⟨n, hn, g1, g2⟩
    · refine PI_f h (f := 1) (by decide) ?_ (fun t ha _ => ?_)
      · rw [q_61, c_9_1, hr, cI_s, ite_bI, if_pos rfl, c_10_1, hasR_n hj g1, cI_s, ite_bI, if_neg (by decide), c_100_1, cI_s]
      · rw [q_158, ar_m hj (by rw [(ha.1 32 (by decide)).1]; exact g2), cI_s, if_pos (by decide)]
    · have h1 : ev 61 0 [some (.inr (.inr (0, 0))), some (.inl (nI j))] [] s = some (some (.inl 1), wI s 5 0 j (-1)) := by
        rw [q_61, c_9_1, hr, cI_s, ite_bI, if_pos rfl, c_10_1, hasR_y hj hn g1, cI_s, ite_bI, if_pos rfl, q_14_1, c_9_1, hr, cI_s, ite_bI, if_pos rfl, if_pos rfl, cl_nI (by omega), cV_s]
      have h2 : ev 158 0 [some (.inr (.inr (30, 0))), some (.inl (nI j)), none] [] (wI s 5 0 j (-1)) = some (some (.inl 1), wI (wI s 5 0 j (-1)) 32 0 j (-9)) := by
        rw [q_158, ar_y (s := wI s 5 0 j (-1)) hj hn g2, cI_s, if_neg (by decide), if_pos hr, cl_nI (by omega)]
      have hoff : OffK [5, 32] s (wI (wI s 5 0 j (-1)) 32 0 j (-9)) := Off_tr (Off_wI (by decide)) (Off_wI (by decide))
      refine ⟨1, _, _, h1, h2, J_off hoff (by decide) ⟨fun q hq => ?_, h.1.2⟩ (JT_ag (Ag_off hoff (by decide)) h.2.1) h, fun _ _ => rfl, fun _ _ => rfl⟩
      by_cases e : q = j
      · subst e
        exact Or.inl ⟨by simp [wI_1], by simp [wI_1]⟩
      · rcases h.1.1 q hq with g | ⟨n, g1, g2, g3⟩
        · exact Or.inl (by simpa [wI_1, e] using g)
        · exact Or.inr ⟨n, g1, by simpa [wI_1, e] using g2, by simpa [wI_1, e] using g3⟩
  · refine PI_0 h (-1) ?_ ?_
    · rw [q_61, c_9_1, ix_no hr, cI_s, ite_bI, if_neg (by decide)]
    · rw [q_158, ar_b (ix_no hr), cI_s, if_pos (by decide)]
theorem pub_put {s : SS} (h : J s) (r i v : Int32) : PI 65 162 [some (.inr (.inr (0, 0))), some (.inl r), some (.inl i), some (.inl v), none, none] [some (.inr (.inr (30, 0))), some (.inl r), some (.inl i), some (.inl v), none, none] s := by
  by_cases hr : ixB r 4 = true
  · obtain ⟨j, hj, rfl⟩ := (ixB_iff (by decide)).mp hr
    rcases h.2.1.1 j hj with ⟨g1, g2⟩ | ⟨n, hn, g1, g2⟩
    · refine PI_f h (f := 1) (by decide) ?_ (fun t ha _ => ?_)
      · rw [q_65, ref2_m hj g1, cI_s, if_neg (by decide)]
      · rw [q_162, at_m hj (by rw [(ha.1 35 (by decide)).1]; exact g2), cI_s, if_pos (by decide)]
    · rcases ix3 i n (by omega) with hi | ⟨k, hk, rfl⟩
      · refine PI_f h (f := 2) (by decide) ?_ (fun t ha _ => ?_)
        · rw [q_65, ref2_n hj hn g1 hi, cI_s, if_neg (by decide)]
        · have g3 : t.1 35 0 j = nI n := by rw [(ha.1 35 (by decide)).1]; exact g2
          rw [q_162, at_y hj hn g3, cI_s, if_neg (by decide), if_pos hr, cl_nI (by omega), g3, c_144, in_n hn hi, cI_s, ite_bI, if_neg (by decide), c_145_2, cI_s]
      · have e := h.2.1.2 j k hj (by omega)
        have h1 : ev 65 0 [some (.inr (.inr (0, 0))), some (.inl (nI j)), some (.inl (nI k)), some (.inl v), none, none] [] s = some (some (.inl (s.1 36 0 (40 * j + k) + 1000)), wI s 8 j k v.toInt8.toInt32) := by
          rw [q_65, ref2_y hj hn g1 hk, cI_s, if_pos rfl, plT_y hj hn g1 hk, cI_s, e, q_16_2, c_12_2, hpT_y hj hn hk g1, cI_s, ite_bI, if_pos rfl, if_pos hr, if_pos (ixB_nI (by omega) (by decide)), cl_nI (by omega), cl_nI (by omega), cV_s]
        have h2 : ev 162 0 [some (.inr (.inr (30, 0))), some (.inl (nI j)), some (.inl (nI k)), some (.inl v), none, none] [] (wI s 8 j k v.toInt8.toInt32) = some (some (.inl (s.1 36 0 (40 * j + k) + 1000)), wI (wI s 8 j k v.toInt8.toInt32) 36 0 (40 * j + k) v.toInt8.toInt32) := by
          have g3 : (wI s 8 j k v.toInt8.toInt32).1 35 0 j = nI n := g2
          rw [q_162, at_y hj hn g3, cI_s, if_neg (by decide), if_pos hr, cl_nI (by omega), g3, c_144, in_y hn hk, cI_s, ite_bI, if_pos rfl, n_mulL, n_add, if_pos (ixB_nI (by omega) (by decide)), if_pos (ixB_nI (by omega) (by decide)), cl_nI (by omega)]
          rfl
        have hoff : OffK [8, 36] s (wI (wI s 8 j k v.toInt8.toInt32) 36 0 (40 * j + k) v.toInt8.toInt32) := Off_tr (Off_wI (by decide)) (Off_wI (by decide))
        refine ⟨_, _, _, h1, h2, J_off hoff (by decide) (JR_ag (Ag_off hoff (by decide)) h.1) ⟨h.2.1.1, fun q x hq hx => ?_⟩ h, fun _ _ => rfl, fun _ _ => rfl⟩
        have g := h.2.1.2 q x hq hx
        by_cases e1 : q = j ∧ x = k
        · obtain ⟨rfl, rfl⟩ := e1
          simp [wI_1]
        · have e2 : ¬ 40 * q + x = 40 * j + k := by omega
          have e3 : ¬ (q = j ∧ x = k) := e1
          simp [wI_1, e2, e3, g]
  · refine PI_0 h (-1) ?_ ?_
    · rw [q_65, ref2_b (ix_no hr), cI_s, if_neg (by decide)]
    · rw [q_162, at_b (ix_no hr), cI_s, if_pos (by decide)]
end
section
theorem PI_ask {cm rm : Nat} {ca ra : LO} {s : SS} (h : J s) (a v : Int32) (h1 : ev cm 0 ca [] s = some (some (.inl a), wI s 0 0 9 v)) (h2 : ev rm 0 ra [] (wI s 0 0 9 v) = some (some (.inl a), wI (wI s 0 0 9 v) 30 0 2 v)) : PI cm rm ca ra s := ⟨a, _, _, h1, h2, J_ask h v, fun _ _ => rfl, fun _ _ => rfl⟩
/-! mean -/
theorem n64_ne {n : Nat} (h0 : 0 < n) (hn : n ≤ 40) : ¬ ((nI n).toInt64 : Int64) = 0 := by
  intro h
  have h1 := congrArg Int64.toInt h
  rw [Int32.toInt_toInt64, ti_nI (by omega)] at h1
  have : (0 : Int64).toInt = 0 := rfl
  omega
def sL (f : Nat → Int32) : Nat → Int64
  | 0 => 0
  | n + 1 => sL f n + (f n).toInt64
theorem c_18_1 {s : SS} {j n : Nat} (hj : j < 6) (hn : n ≤ 40) (h : s.1 5 0 j = nI n) : ev 18 0 [some (.inr (.inr (1, 0))), some (.inl (nI j)), none, none, none] [] s = some (some (.inr (.inl (sL (s.1 7 j) n))), s) := by
  rw [q_18_1]
  have hl := lpS (fun i (x : Unit) => ev 18 5 [some (.inr (.inr (1, 0))), some (.inl (nI j)), some (.inr (.inl (sL (s.1 7 j) i))), none, some (.inl (nI i))] [] s) (fun _ x => x) n (fun i x hi => by
    show ev 18 5 [some (.inr (.inr (1, 0))), some (.inl (nI j)), some (.inr (.inl (sL (s.1 7 j) i))), none, some (.inl (nI i))] [] s = _
    rw [q_18_at5_1, c_11_1, hasR_y hj hn h, if_pos rfl, cl_nI (by omega), h, cI_s, if_pos (nI_lt hi (by omega)), if_pos (ixB_nI hj (by decide)), if_pos (ixB_nI (by omega) (by decide)), nI_s, cl_nI (by omega)]
    rfl) ()
  refine (show ev 18 5 [some (.inr (.inr (1, 0))), some (.inl (nI j)), some (.inr (.inl (sL (s.1 7 j) 0))), none, some (.inl (nI 0))] [] s = _ from hl).trans ?_
  rw [q_18_at5_1, c_11_1, hasR_y hj hn h, if_pos rfl, cl_nI (by omega), h, cI_s, if_neg (irr _)]
theorem c_160 {s : SS} {j n : Nat} (hj : j < 6) (hn : n ≤ 40) (h : s.1 32 0 j = nI n) : ev 160 17 [some (.inr (.inr (30, 0))), some (.inl (nI j)), none, some (.inr (.inl 0)), none, some (.inl 0)] [] s = ev 160 17 [some (.inr (.inr (30, 0))), some (.inl (nI j)), none, some (.inr (.inl (sL (fun i => s.1 33 0 (40 * j + i)) n))), none, some (.inl (nI n))] [] s := by
  have hl := lpS (fun i (x : Unit) => ev 160 17 [some (.inr (.inr (30, 0))), some (.inl (nI j)), none, some (.inr (.inl (sL (fun i => s.1 33 0 (40 * j + i)) i))), none, some (.inl (nI i))] [] s) (fun _ x => x) n (fun i x hi => by
    show ev 160 17 [some (.inr (.inr (30, 0))), some (.inl (nI j)), none, some (.inr (.inl (sL (fun i => s.1 33 0 (40 * j + i)) i))), none, some (.inl (nI i))] [] s = _
    rw [q_160_at17, if_pos (ixB_nI hj (by decide)), cl_nI (by omega), h, if_pos (nI_lt hi (by omega)), c_154 hj (by omega), cI_s, nI_s]
    rfl) ()
  exact hl
theorem sL_cg {f g : Nat → Int32} : ∀ n, (∀ i, i < n → f i = g i) → sL f n = sL g n
  | 0, _ => rfl
  | n + 1, h => by
    show sL f n + _ = sL g n + _
    rw [sL_cg n (fun i hi => h i (by omega)), h n (by omega)]
theorem pub_mean {s : SS} (h : J s) (r : Int32) : PI 63 160 [some (.inr (.inr (0, 0))), some (.inl r), none] [some (.inr (.inr (30, 0))), some (.inl r), none, none, none, none] s := by
  by_cases hr : ixB r 6 = true
  · obtain ⟨j, hj, rfl⟩ := (ixB_iff (by decide)).mp hr
    rcases h.1.1 j hj with ⟨g1, g2⟩ | ⟨n, hn, g1, g2⟩
    · refine PI_f h (f := 1) (by decide) ?_ (fun t ha _ => ?_)
      · rw [q_63, c_9_1, hr, cI_s, ite_bI, if_pos rfl, c_10_1, hasR_n hj g1, cI_s, ite_bI, if_neg (by decide), c_100_1, cI_s]
      · rw [q_160, ar_m hj (by rw [(ha.1 32 (by decide)).1]; exact g2), cI_s, if_pos (by decide)]
    · by_cases h0 : n = 0
      · subst h0
        refine PI_f h (f := 4) (by decide) ?_ (fun t ha _ => ?_)
        · rw [q_63, c_9_1, hr, cI_s, ite_bI, if_pos rfl, c_10_1, hasR_y hj hn g1, cI_s, ite_bI, if_pos rfl, c_11_1, hasR_y hj hn g1, if_pos rfl, cl_nI (by omega), g1, cI_s, if_neg (by decide), c_100_4, cI_s]
        · have g3 : t.1 32 0 j = nI 0 := by rw [(ha.1 32 (by decide)).1]; exact g2
          rw [q_160, ar_y hj hn g3, cI_s, if_neg (by decide), q_160_at17, if_pos hr, cl_nI (by omega), g3, if_neg (by decide), if_pos hr, if_pos (show nI 0 = 0 from rfl), c_145_4, cI_s]
      · have e : sL (s.1 7 j) n = sL (fun i => s.1 33 0 (40 * j + i)) n := sL_cg n (fun i hi => h.1.2 j i hj (by omega))
        have h1 : ev 63 0 [some (.inr (.inr (0, 0))), some (.inl (nI j)), none] [] s = some (some (.inl 1), wI s 0 0 9 ((sL (fun i => s.1 33 0 (40 * j + i)) n / (nI n).toInt64).toInt32)) := by
          rw [q_63, c_9_1, hr, cI_s, ite_bI, if_pos rfl, c_10_1, hasR_y hj hn g1, cI_s, ite_bI, if_pos rfl, c_11_1, hasR_y hj hn g1, if_pos rfl, cl_nI (by omega), g1, cI_s, if_pos (show (0 : Int32) < nI n from nI_lt (show 0 < n by omega) (by omega)), c_18_1 hj hn g1, cL_s, if_neg (n64_ne (by omega) hn), e]
        have g3 : (wI s 0 0 9 ((sL (fun i => s.1 33 0 (40 * j + i)) n / (nI n).toInt64).toInt32)).1 32 0 j = nI n := g2
        refine PI_ask h 1 _ h1 ?_
        have hz : ¬ nI n = 0 := by
          rw [show (0 : Int32) = nI 0 from rfl, n_eq (by omega) (by omega)]
          exact h0
        rw [q_160, ar_y hj hn g3, cI_s, if_neg (by decide), c_160 hj hn g3, q_160_at17, if_pos hr, cl_nI (by omega), g3, if_neg (irr _), if_pos hr, if_neg hz, if_pos hr, if_neg (n64_ne (by omega) hn), c_146, cI_s]
        rfl
  · refine PI_0 h (-1) ?_ ?_
    · rw [q_63, c_9_1, ix_no hr, cI_s, ite_bI, if_neg (by decide)]
    · rw [q_160, ar_b (ix_no hr), cI_s, if_pos (by decide)]
/-! copy -/
theorem l_lt (a b : Int64) : a < b ↔ a.toInt < b.toInt := Int64.lt_iff_toInt_lt
theorem l_le (a b : Int64) : a ≤ b ↔ a.toInt ≤ b.toInt := Int64.le_iff_toInt_le
theorem l_eq (a b : Int64) : a = b ↔ a.toInt = b.toInt := Int64.toInt_inj.symm
theorem lg_gt (a b : Int64) : (0 < lg_cmp a b) = (b < a) := by
  apply propext
  unfold lg_cmp
  by_cases h1 : a > b
  · simp [h1]
  · by_cases h2 : a = b
    · simp [h2]
    · simp [h1, h2]
theorem lg_z (a b : Int64) : (lg_cmp a b = 0) = (a = b) := by
  apply propext
  unfold lg_cmp
  by_cases h1 : a > b
  · have h2 : ¬ a = b := by
      intro h
      rw [h] at h1
      exact absurd ((l_lt _ _).mp h1) (Int.lt_irrefl _)
    simp [h1, h2]
  · by_cases h2 : a = b
    · simp [h2]
    · simp [h1, h2]
theorem lg_lt (a b : Int64) : (lg_cmp a b < 0) = (a < b) := by
  apply propext
  unfold lg_cmp
  by_cases h1 : a > b
  · have h2 : ¬ a < b := by
      have h3 : b < a := h1
      rw [l_lt] at h3
      rw [l_lt]
      omega
    simp [h1, h2]
  · by_cases h2 : a = b
    · simp [h2]
    · have h3 : a < b := by
        have h4 : ¬ b < a := h1
        rw [l_lt] at h4
        rw [l_eq] at h2
        rw [l_lt]
        omega
      simp [h1, h2, h3]
theorem lpN {P : Nat → RE} : ∀ (N : Nat), (∀ i, i < N → P i = P (i + 1)) → P 0 = P N
  | 0, _ => rfl
  | N + 1, h => (lpN N (fun i hi => h i (by omega))).trans (h N (by omega))
theorem ge0 {x : Int32} (h : ¬ x < 0) : 0 ≤ x.toInt := by
  rw [lt_iff] at h
  have : (0 : Int32).toInt = 0 := rfl
  omega
theorem ge0_n {x : Int32} (h : ¬ x < 0) : ∃ a : Nat, a < 2147483648 ∧ x = nI a ∧ x.toInt = a := by
  have h1 := ge0 h
  have h2 := Int32.toInt_lt x
  refine ⟨x.toInt.toNat, by omega, ?_, by omega⟩
  rw [eq_iff, ti_nI (by omega)]
  omega
theorem sub_t {m a : Nat} (hm : m ≤ 40) (ha : a < 2147483648) : (nI m - nI a).toInt = (m : Int) - a := by
  rw [Int32.toInt_sub, ti_nI (by omega), ti_nI ha]
  rw [Int.bmod_eq_of_le] <;> omega
theorem add64_t {a b : Nat} (ha : a < 2147483648) (hb : b < 2147483648) : ((nI a).toInt64 + (nI b).toInt64).toInt = (a : Int) + b := by
  rw [Int64.toInt_add, Int32.toInt_toInt64, Int32.toInt_toInt64, ti_nI ha, ti_nI hb]
  rw [Int.bmod_eq_of_le] <;> omega
theorem cp_lt {m a c : Nat} (hm : m ≤ 40) (ha : a < 2147483648) (hc : c < 2147483648) : (nI m - nI c < nI a) = (m < a + c) := by
  apply propext
  rw [lt_iff, sub_t hm hc, ti_nI ha]
  omega
theorem cp_lg {m a c : Nat} (hm : m ≤ 40) (ha : a < 2147483648) (hc : c < 2147483648) : (0 < lg_cmp ((nI a).toInt64 + (nI c).toInt64) (nI m).toInt64) = (m < a + c) := by
  rw [lg_gt]
  apply propext
  rw [l_lt, add64_t ha hc, Int32.toInt_toInt64, ti_nI (by omega)]
  omega
theorem hpR_g {s : SS} {j n a c : Nat} (hj : j < 6) (hn : n ≤ 40) (h : s.1 5 0 j = nI n) (ha : a < 2147483648) (hc : c < 2147483648) : hpR s (nI j) (nI a) (nI c) = decide (a + c ≤ n) := by
  unfold hpR
  rw [hasR_y hj hn h, cl_nI (by omega), h]
  have h1 : ¬ nI a < 0 := nI_pos ha
  have h2 : ¬ nI c < 0 := nI_pos hc
  have h3 := cp_lt hn ha hc
  by_cases h4 : n < a + c
  · have h5 : ¬ a + c ≤ n := by omega
    simp [h1, h2, h3, h4, h5]
  · have h5 : a + c ≤ n := by omega
    simp [h1, h2, h3, h4, h5]
theorem hpR_ng {s : SS} {r i n : Int32} (hi : i < 0) : hpR s r i n = false := by
  unfold hpR
  simp [hi]
def mvF (s : SS) (q a : Nat) (i : Nat) (t : SS) : SS := fo (fun k s' => wI s' 34 0 (0 + k) (s.1 33 0 (40 * q + (a + k)))) i t
theorem mv_33 (s t : SS) (q a i b c : Nat) : (mvF s q a i t).1 33 b c = t.1 33 b c := by
  unfold mvF
  rw [fo_wI, if_neg (by omega)]
def pvF (s : SS) (q b : Nat) (i : Nat) (t : SS) : SS := fo (fun k s' => wI s' 33 0 (40 * q + b + k) (s.1 34 0 k)) i t
theorem pv_34 (s t : SS) (q a i b c : Nat) : (pvF s q a i t).1 34 b c = t.1 34 b c := by
  unfold pvF
  rw [fo_wI, if_neg (by omega)]
theorem cp_1 {s : SS} {q1 q2 a b c : Nat} (h1 : q1 < 6) (ha : a + c ≤ 40) : ev 159 104 [some (.inr (.inr (30, 0))), some (.inl (nI q1)), some (.inl (nI a)), some (.inl (nI q2)), some (.inl (nI b)), some (.inl (nI c)), some (.inl 0)] [] s = ev 159 136 [some (.inr (.inr (30, 0))), none, none, some (.inl (nI q2)), some (.inl (nI b)), some (.inl (nI c)), some (.inl 0)] [] (mvF s q1 a c s) := by
  have h := lpN (P := fun i => ev 159 104 [some (.inr (.inr (30, 0))), some (.inl (nI q1)), some (.inl (nI a)), some (.inl (nI q2)), some (.inl (nI b)), some (.inl (nI c)), some (.inl (nI i))] [] (mvF s q1 a i s)) c (fun i hi => by
    show ev 159 104 [some (.inr (.inr (30, 0))), some (.inl (nI q1)), some (.inl (nI a)), some (.inl (nI q2)), some (.inl (nI b)), some (.inl (nI c)), some (.inl (nI i))] [] (mvF s q1 a i s) = _
    rw [q_159_at104, if_pos (nI_lt hi (by omega)), n_add, c_154 h1 (by omega), cI_s, if_pos (ixB_nI (by omega) (by decide)), nI_s, cl_nI (by omega), mv_33]
    show _ = ev 159 104 [some (.inr (.inr (30, 0))), some (.inl (nI q1)), some (.inl (nI a)), some (.inl (nI q2)), some (.inl (nI b)), some (.inl (nI c)), some (.inl (nI (i + 1)))] [] (wI (mvF s q1 a i s) 34 0 (0 + i) (s.1 33 0 (40 * q1 + (a + i))))
    rw [Nat.zero_add])
  refine (show ev 159 104 [some (.inr (.inr (30, 0))), some (.inl (nI q1)), some (.inl (nI a)), some (.inl (nI q2)), some (.inl (nI b)), some (.inl (nI c)), some (.inl (nI 0))] [] s = _ from h).trans ?_
  rw [q_159_at104, if_neg (irr _)]
theorem cp_2 {s : SS} {q2 b c : Nat} (h2 : q2 < 6) (hb : b + c ≤ 40) : ev 159 136 [some (.inr (.inr (30, 0))), none, none, some (.inl (nI q2)), some (.inl (nI b)), some (.inl (nI c)), some (.inl 0)] [] s = some (some (.inl 1), pvF s q2 b c s) := by
  have h := lpN (P := fun i => ev 159 136 [some (.inr (.inr (30, 0))), none, none, some (.inl (nI q2)), some (.inl (nI b)), some (.inl (nI c)), some (.inl (nI i))] [] (pvF s q2 b i s)) c (fun i hi => by
    show ev 159 136 [some (.inr (.inr (30, 0))), none, none, some (.inl (nI q2)), some (.inl (nI b)), some (.inl (nI c)), some (.inl (nI i))] [] (pvF s q2 b i s) = _
    rw [q_159_at136, if_pos (nI_lt hi (by omega)), if_pos (ixB_nI (by omega) (by decide)), n_mulL, n_add, n_add, if_pos (ixB_nI (by omega) (by decide)), nI_s, cl_nI (by omega), cl_nI (by omega), pv_34]
    rfl)
  refine (show ev 159 136 [some (.inr (.inr (30, 0))), none, none, some (.inl (nI q2)), some (.inl (nI b)), some (.inl (nI c)), some (.inl (nI 0))] [] s = _ from h).trans ?_
  rw [q_159_at136, if_neg (irr _)]
theorem pub_copy {s : SS} (h : J s) (r i q j n : Int32) : PI 62 159 [some (.inr (.inr (0, 0))), some (.inl r), some (.inl i), some (.inl q), some (.inl j), some (.inl n)] [some (.inr (.inr (30, 0))), some (.inl r), some (.inl i), some (.inl q), some (.inl j), some (.inl n), none] s := by
  by_cases hr : ixB r 6 = true
  · by_cases hq : ixB q 6 = true
    · by_cases hn : n < 0
      · refine PI_f h (f := 5) (by decide) ?_ (fun t ha _ => ?_)
        · rw [q_62, c_9_1, hr, cI_s, ite_bI, if_pos rfl, c_9_1, hq, cI_s, ite_bI, if_pos rfl, if_pos hn, c_100_5, cI_s]
        · rw [q_159, c_150, hr, cI_s, ite_bI, if_pos rfl, c_150, hq, cI_s, ite_bI, if_pos rfl, if_pos hn, c_145_5, cI_s]
      · obtain ⟨q1, hq1, rfl⟩ := (ixB_iff (by decide)).mp hr
        obtain ⟨q2, hq2, rfl⟩ := (ixB_iff (by decide)).mp hq
        rcases h.1.1 q1 hq1 with ⟨g1, g2⟩ | ⟨m1, hm1, g1, g2⟩
        · refine PI_f h (f := 1) (by decide) ?_ (fun t ha _ => ?_)
          · rw [q_62, c_9_1, hr, cI_s, ite_bI, if_pos rfl, c_9_1, hq, cI_s, ite_bI, if_pos rfl, if_neg hn, c_10_1, hasR_n hq1 g1, cI_s, ite_bI, if_neg (by decide), c_100_1, cI_s]
          · have g3 : t.1 32 0 q1 = -9 := by rw [(ha.1 32 (by decide)).1]; exact g2
            rw [q_159, c_150, hr, cI_s, ite_bI, if_pos rfl, c_150, hq, cI_s, ite_bI, if_pos rfl, if_neg hn, if_pos rfl, cl_nI (by omega), g3, if_pos (by decide), c_145_1, cI_s]
        rcases h.1.1 q2 hq2 with ⟨g3, g4⟩ | ⟨m2, hm2, g3, g4⟩
        · refine PI_f h (f := 1) (by decide) ?_ (fun t ha _ => ?_)
          · rw [q_62, c_9_1, hr, cI_s, ite_bI, if_pos rfl, c_9_1, hq, cI_s, ite_bI, if_pos rfl, if_neg hn, c_10_1, hasR_y hq1 hm1 g1, cI_s, ite_bI, if_pos rfl, c_10_1, hasR_n hq2 g3, cI_s, ite_bI, if_neg (by decide), c_100_1, cI_s]
          · have g5 : t.1 32 0 q1 = nI m1 := by rw [(ha.1 32 (by decide)).1]; exact g2
            have g6 : t.1 32 0 q2 = -9 := by rw [(ha.1 32 (by decide)).1]; exact g4
            rw [q_159, c_150, hr, cI_s, ite_bI, if_pos rfl, c_150, hq, cI_s, ite_bI, if_pos rfl, if_neg hn, if_pos rfl, cl_nI (by omega), g5, if_neg (nI_pos (by omega)), if_pos rfl, cl_nI (by omega), g6, if_pos (by decide), c_145_1, cI_s]
        obtain ⟨c, hc, rfl, -⟩ := ge0_n hn
        by_cases hi : i < 0
        · refine PI_f h (f := 2) (by decide) ?_ (fun t ha _ => ?_)
          · rw [q_62, c_9_1, hr, cI_s, ite_bI, if_pos rfl, c_9_1, hq, cI_s, ite_bI, if_pos rfl, if_neg hn, c_10_1, hasR_y hq1 hm1 g1, cI_s, ite_bI, if_pos rfl, c_10_1, hasR_y hq2 hm2 g3, cI_s, ite_bI, if_pos rfl, c_12_1, hpR_ng hi, cI_s, ite_bI, if_neg (by decide), c_100_2, cI_s]
          · have g5 : t.1 32 0 q1 = nI m1 := by rw [(ha.1 32 (by decide)).1]; exact g2
            have g6 : t.1 32 0 q2 = nI m2 := by rw [(ha.1 32 (by decide)).1]; exact g4
            rw [q_159, c_150, hr, cI_s, ite_bI, if_pos rfl, c_150, hq, cI_s, ite_bI, if_pos rfl, if_neg hn, if_pos rfl, cl_nI (by omega), g5, if_neg (nI_pos (by omega)), if_pos rfl, cl_nI (by omega), g6, if_neg (nI_pos (by omega)), if_pos hi, c_145_2, cI_s]
        obtain ⟨a, ha, rfl, -⟩ := ge0_n hi
        by_cases hac : a + c ≤ m1
        · by_cases hj : j < 0
          · refine PI_f h (f := 2) (by decide) ?_ (fun t ha _ => ?_)
            · rw [q_62, c_9_1, hr, cI_s, ite_bI, if_pos rfl, c_9_1, hq, cI_s, ite_bI, if_pos rfl, if_neg hn, c_10_1, hasR_y hq1 hm1 g1, cI_s, ite_bI, if_pos rfl, c_10_1, hasR_y hq2 hm2 g3, cI_s, ite_bI, if_pos rfl, c_12_1, hpR_g hq1 hm1 g1 ha hc, decide_eq_true hac, cI_s, ite_bI, if_pos rfl, c_12_1, hpR_ng hj, cI_s, ite_bI, if_neg (by decide), c_100_2, cI_s]
            · have g5 : t.1 32 0 q1 = nI m1 := by rw [(ha.1 32 (by decide)).1]; exact g2
              have g6 : t.1 32 0 q2 = nI m2 := by rw [(ha.1 32 (by decide)).1]; exact g4
              rw [q_159, c_150, hr, cI_s, ite_bI, if_pos rfl, c_150, hq, cI_s, ite_bI, if_pos rfl, if_neg hn, if_pos rfl, cl_nI (by omega), g5, if_neg (nI_pos (by omega)), if_pos rfl, cl_nI (by omega), g6, if_neg (nI_pos (by omega)), if_neg hi, if_pos hj, c_145_2, cI_s]
          obtain ⟨b, hb, rfl, -⟩ := ge0_n hj
          by_cases hbc : b + c ≤ m2
          · have e1 : ev 62 0 [some (.inr (.inr (0, 0))), some (.inl (nI q1)), some (.inl (nI a)), some (.inl (nI q2)), some (.inl (nI b)), some (.inl (nI c))] [] s = some (some (.inl 1), wA s 7 q2 (va_cpy (s.1 7 q1) (s.1 7 q2) a b c)) := by
              rw [q_62, c_9_1, hr, cI_s, ite_bI, if_pos rfl, c_9_1, hq, cI_s, ite_bI, if_pos rfl, if_neg hn, c_10_1, hasR_y hq1 hm1 g1, cI_s, ite_bI, if_pos rfl, c_10_1, hasR_y hq2 hm2 g3, cI_s, ite_bI, if_pos rfl, c_12_1, hpR_g hq1 hm1 g1 ha hc, decide_eq_true hac, cI_s, ite_bI, if_pos rfl, c_12_1, hpR_g hq2 hm2 g3 hb hc, decide_eq_true hbc, cI_s, ite_bI, if_pos rfl, q_17_1, c_12_1, hpR_g hq1 hm1 g1 ha hc, decide_eq_true hac, cI_s, ite_bI, if_pos rfl, c_12_1, hpR_g hq2 hm2 g3 hb hc, decide_eq_true hbc, cI_s, ite_bI, if_pos rfl, if_pos hr, if_pos hq, cl_nI ha, cl_nI hb, cl_nI hc, cl_nI (n := q1) (by omega), cl_nI (n := q2) (by omega), if_pos ⟨hi, hj, hn, by omega, by omega⟩, cV_s]
            have e2 : ∀ t : SS, t.1 32 0 q1 = nI m1 → t.1 32 0 q2 = nI m2 → ev 159 0 [some (.inr (.inr (30, 0))), some (.inl (nI q1)), some (.inl (nI a)), some (.inl (nI q2)), some (.inl (nI b)), some (.inl (nI c)), none] [] t = some (some (.inl 1), pvF (mvF t q1 a c t) q2 b c (mvF t q1 a c t)) := by
              intro t g5 g6
              have k1 : ¬ 0 < lg_cmp ((nI a).toInt64 + (nI c).toInt64) (nI m1).toInt64 := by
                rw [cp_lg hm1 ha hc]
                omega
              have k2 : ¬ 0 < lg_cmp ((nI b).toInt64 + (nI c).toInt64) (nI m2).toInt64 := by
                rw [cp_lg hm2 hb hc]
                omega
              rw [q_159, c_150, hr, cI_s, ite_bI, if_pos rfl, c_150, hq, cI_s, ite_bI, if_pos rfl, if_neg hn, if_pos rfl, cl_nI (by omega), g5, if_neg (nI_pos (by omega)), if_pos rfl, cl_nI (by omega), g6, if_neg (nI_pos (by omega)), if_neg hi, if_neg hj, if_pos rfl, if_neg k1, if_pos rfl, if_neg k2, cp_1 hq1 (by omega), cp_2 hq2 (by omega)]
            have hoff : ∀ t : SS, OffK [7, 33, 34] t (pvF (mvF t q1 a c t) q2 b c (mvF t q1 a c t)) := fun t => Off_tr (Off_fo (fun _ _ => Off_wI (by decide)) _ _) (Off_fo (fun _ _ => Off_wI (by decide)) _ _)
            have hof2 := Off_tr (Off_wA (K := [7, 33, 34]) (s := s) (k := 7) (j := q2) (f := va_cpy (s.1 7 q1) (s.1 7 q2) a b c) (by decide)) (hoff _)
            refine ⟨1, _, _, e1, e2 _ g2 g4, J_off hof2 (by decide) ⟨fun q hq => ?_, fun q x hq hx => ?_⟩ (JT_ag (Ag_off hof2 (by decide)) h.2.1) h, fun b c => (Off_wA (K := [7]) (by decide)).1 60 b c (by decide), fun b c => hof2.1 60 b c (by decide)⟩
            · rcases h.1.1 q hq with g | ⟨n, g, g'⟩
              · exact Or.inl (by rw [hof2.1 5 _ _ (by decide), hof2.1 32 _ _ (by decide)]; exact g)
              · exact Or.inr ⟨n, g, by rw [hof2.1 5 _ _ (by decide), hof2.1 32 _ _ (by decide)]; exact g'⟩
            · have w1 := h.1.2 q x hq hx
              have w2 : ∀ x, x < 40 → s.1 7 q1 x = s.1 33 0 (40 * q1 + x) := fun x hx => h.1.2 q1 x hq1 hx
              unfold pvF mvF
              simp only [fo_wI, wA_1]
              by_cases e : q = q2 ∧ b ≤ x ∧ x < b + c
              · obtain ⟨rfl, h5, h6⟩ := e
                have w3 := w2 (a + (x - b)) (by omega)
                have e3 : 40 * q + x - (40 * q + b) = x - b := by omega
                have e4 : 40 * q + b ≤ 40 * q + x := by omega
                have e5 : 40 * q + x < 40 * q + b + c := by omega
                have e6 : x - b < c := by omega
                simp [va_cpy, h5, h6, e3, e4, e5, e6, w3]
              · have e4 : ¬ (40 * q2 + b ≤ 40 * q + x ∧ 40 * q + x < 40 * q2 + b + c) := by omega
                by_cases e5 : q = q2
                · subst e5
                  have e6 : ¬ (b ≤ x ∧ x < b + c) := fun z => e ⟨rfl, z⟩
                  simp [va_cpy, e6, e4, w1]
                  intro z1 z2
                  exact absurd ⟨z1, by omega⟩ e6
                · simp [e4, e5, w1]
          · refine PI_f h (f := 2) (by decide) ?_ (fun t ht _ => ?_)
            · rw [q_62, c_9_1, hr, cI_s, ite_bI, if_pos rfl, c_9_1, hq, cI_s, ite_bI, if_pos rfl, if_neg hn, c_10_1, hasR_y hq1 hm1 g1, cI_s, ite_bI, if_pos rfl, c_10_1, hasR_y hq2 hm2 g3, cI_s, ite_bI, if_pos rfl, c_12_1, hpR_g hq1 hm1 g1 ha hc, decide_eq_true hac, cI_s, ite_bI, if_pos rfl, c_12_1, hpR_g hq2 hm2 g3 hb hc, decide_eq_false hbc, cI_s, ite_bI, if_neg (by decide), c_100_2, cI_s]
            · have g5 : t.1 32 0 q1 = nI m1 := by rw [(ht.1 32 (by decide)).1]; exact g2
              have g6 : t.1 32 0 q2 = nI m2 := by rw [(ht.1 32 (by decide)).1]; exact g4
              have k1 : ¬ 0 < lg_cmp ((nI a).toInt64 + (nI c).toInt64) (nI m1).toInt64 := by
                rw [cp_lg hm1 ha hc]
                omega
              have k2 : 0 < lg_cmp ((nI b).toInt64 + (nI c).toInt64) (nI m2).toInt64 := by
                rw [cp_lg hm2 hb hc]
                omega
              rw [q_159, c_150, hr, cI_s, ite_bI, if_pos rfl, c_150, hq, cI_s, ite_bI, if_pos rfl, if_neg hn, if_pos rfl, cl_nI (by omega), g5, if_neg (nI_pos (by omega)), if_pos rfl, cl_nI (by omega), g6, if_neg (nI_pos (by omega)), if_neg hi, if_neg hj, if_pos rfl, if_neg k1, if_pos rfl, if_pos k2, c_145_2, cI_s]
        · refine PI_f h (f := 2) (by decide) ?_ (fun t ht _ => ?_)
          · rw [q_62, c_9_1, hr, cI_s, ite_bI, if_pos rfl, c_9_1, hq, cI_s, ite_bI, if_pos rfl, if_neg hn, c_10_1, hasR_y hq1 hm1 g1, cI_s, ite_bI, if_pos rfl, c_10_1, hasR_y hq2 hm2 g3, cI_s, ite_bI, if_pos rfl, c_12_1, hpR_g hq1 hm1 g1 ha hc, decide_eq_false hac, cI_s, ite_bI, if_neg (by decide), c_100_2, cI_s]
          · have g5 : t.1 32 0 q1 = nI m1 := by rw [(ht.1 32 (by decide)).1]; exact g2
            have g6 : t.1 32 0 q2 = nI m2 := by rw [(ht.1 32 (by decide)).1]; exact g4
            have k1 : 0 < lg_cmp ((nI a).toInt64 + (nI c).toInt64) (nI m1).toInt64 := by
              rw [cp_lg hm1 ha hc]
              omega
            by_cases hj : j < 0
            · rw [q_159, c_150, hr, cI_s, ite_bI, if_pos rfl, c_150, hq, cI_s, ite_bI, if_pos rfl, if_neg hn, if_pos rfl, cl_nI (by omega), g5, if_neg (nI_pos (by omega)), if_pos rfl, cl_nI (by omega), g6, if_neg (nI_pos (by omega)), if_neg hi, if_pos hj, c_145_2, cI_s]
            · rw [q_159, c_150, hr, cI_s, ite_bI, if_pos rfl, c_150, hq, cI_s, ite_bI, if_pos rfl, if_neg hn, if_pos rfl, cl_nI (by omega), g5, if_neg (nI_pos (by omega)), if_pos rfl, cl_nI (by omega), g6, if_neg (nI_pos (by omega)), if_neg hi, if_neg hj, if_pos rfl, if_pos k1, c_145_2, cI_s]
    · refine PI_0 h (-1) ?_ ?_
      · rw [q_62, c_9_1, hr, cI_s, ite_bI, if_pos rfl, c_9_1, ix_no hq, cI_s, ite_bI, if_neg (by decide)]
      · rw [q_159, c_150, hr, cI_s, ite_bI, if_pos rfl, c_150, ix_no hq, cI_s, ite_bI, if_neg (by decide)]
  · refine PI_0 h (-1) ?_ ?_
    · rw [q_62, c_9_1, ix_no hr, cI_s, ite_bI, if_neg (by decide)]
    · rw [q_159, c_150, ix_no hr, cI_s, ite_bI, if_neg (by decide)]
end
