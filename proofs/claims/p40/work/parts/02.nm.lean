/-! classes, fields and methods by name (begun from the printed names of the claim) -/
def RX0 : String := "SaywhatSeen$Fact"
def TX0 : u_T := fun k => match k with
  | 0 => ("SaywhatSeen$Fact", "seenAt", "I", false)
  | 1 => ("SaywhatSeen$Fact", "by", "I", false)
  | 2 => ("SaywhatSeen$Fact", "weight", "I", true)
  | 3 => ("SaywhatSeen$Fact", "ahead", "I", true)
  | 4 => ("SaywhatSeen$Fact", "isOver", "Z", true)
  | 5 => ("SaywhatSeen$Fact", "person", "I", false)
  | 6 => ("SaywhatSeen$Fact", "thing", "I", false)
  | 7 => ("SaywhatSeen$Fact", "term", "I", false)
  | 8 => ("SaywhatSeen$Fact", "versions", "I", false)
  | _ => ("SaywhatSeen$Fact", "syllables", "[I", true)
def tyX0 : Nat → FieldType := fun k => match k with
  | 0 => .int
  | 1 => .int
  | 2 => .int
  | 3 => .int
  | 4 => .boolean
  | 5 => .int
  | 6 => .int
  | 7 => .int
  | 8 => .int
  | _ => .array .int
abbrev wsX00 : List Cond := u_ws RX0 TX0 10
theorem nmX0 : ∀ a, a < 10 → ∀ b, b < 10 → a ≠ b → (TX0 a).2.1 ≠ (TX0 b).2.1 := by decide +kernel
theorem tyX0_ok : ∀ k, k < 10 → parseFieldDescriptor (TX0 k).2.2.1 = some (tyX0 k) := by decide +kernel
abbrev cX0_init : ByteArray := prog_2_method_1_code
def yX0_init : MethodName := ⟨RX0, "<init>", "(IIIIZ)V"⟩
abbrev cX0_twin : ByteArray := prog_2_method_2_code
def yX0_twin : MethodName := ⟨RX0, "twin", "()LSaywhatSeen$Fact;"⟩
abbrev cX0_hasVersion : ByteArray := prog_2_method_3_code
def yX0_hasVersion : MethodName := ⟨RX0, "hasVersion", "(I)Z"⟩
abbrev cX0_mostSyllables : ByteArray := prog_2_method_4_code
def yX0_mostSyllables : MethodName := ⟨RX0, "mostSyllables", "()I"⟩
abbrev cX0_addVersion : ByteArray := prog_2_method_5_code
def yX0_addVersion : MethodName := ⟨RX0, "addVersion", "(I)V"⟩
abbrev cX0_length : ByteArray := prog_2_method_6_code
def yX0_length : MethodName := ⟨RX0, "length", "(II)I"⟩
abbrev cX0_isUnlike : ByteArray := prog_2_method_7_code
def yX0_isUnlike : MethodName := ⟨RX0, "isUnlike", "(LSaywhatSeen$Fact;)Z"⟩
def RX1 : String := "SaywhatSeen$Film"
def TX1 : u_T := fun k => match k with
  | 0 => ("SaywhatSeen$Film", "ticks", "I", false)
  | 1 => ("SaywhatSeen$Film", "sounds", "Ljava/util/ArrayList;", true)
  | 2 => ("SaywhatSeen$Film", "namedAt", "[I", true)
  | _ => ("SaywhatSeen$Film", "facts", "[LSaywhatSeen$Fact;", true)
def tyX1 : Nat → FieldType := fun k => match k with
  | 0 => .int
  | 1 => .object "java/util/ArrayList"
  | 2 => .array .int
  | _ => .array (.object "SaywhatSeen$Fact")
abbrev wsX10 : List Cond := u_ws RX1 TX1 4
theorem nmX1 : ∀ a, a < 4 → ∀ b, b < 4 → a ≠ b → (TX1 a).2.1 ≠ (TX1 b).2.1 := by decide +kernel
theorem tyX1_ok : ∀ k, k < 4 → parseFieldDescriptor (TX1 k).2.2.1 = some (tyX1 k) := by decide +kernel
abbrev cX1_init : ByteArray := prog_3_method_1_code
def yX1_init : MethodName := ⟨RX1, "<init>", "()V"⟩
abbrev cX1_becomeLike : ByteArray := prog_3_method_2_code
def yX1_becomeLike : MethodName := ⟨RX1, "becomeLike", "(LSaywhatSeen$Film;)V"⟩
abbrev cX1_reachesBeyond : ByteArray := prog_3_method_3_code
def yX1_reachesBeyond : MethodName := ⟨RX1, "reachesBeyond", "(I)Z"⟩
abbrev cX1_find : ByteArray := prog_3_method_4_code
def yX1_find : MethodName := ⟨RX1, "find", "(I)LSaywhatSeen$Fact;"⟩
abbrev cX1_forget : ByteArray := prog_3_method_5_code
def yX1_forget : MethodName := ⟨RX1, "forget", "(I)V"⟩
abbrev cX1_freeNumber : ByteArray := prog_3_method_6_code
def yX1_freeNumber : MethodName := ⟨RX1, "freeNumber", "()I"⟩
abbrev cX1_factBits : ByteArray := prog_3_method_7_code
def yX1_factBits : MethodName := ⟨RX1, "factBits", "()I"⟩
abbrev cX1_countFacts : ByteArray := prog_3_method_8_code
def yX1_countFacts : MethodName := ⟨RX1, "countFacts", "()I"⟩
abbrev cX1_countTexts : ByteArray := prog_3_method_9_code
def yX1_countTexts : MethodName := ⟨RX1, "countTexts", "()I"⟩
abbrev cX1_weightOfFacts : ByteArray := prog_3_method_10_code
def yX1_weightOfFacts : MethodName := ⟨RX1, "weightOfFacts", "()I"⟩
abbrev cX1_isNoisy : ByteArray := prog_3_method_11_code
def yX1_isNoisy : MethodName := ⟨RX1, "isNoisy", "(IIZ)Z"⟩
abbrev cX1_quietFrom : ByteArray := prog_3_method_12_code
def yX1_quietFrom : MethodName := ⟨RX1, "quietFrom", "(IIZ)I"⟩
abbrev cX1_gapEnd : ByteArray := prog_3_method_13_code
def yX1_gapEnd : MethodName := ⟨RX1, "gapEnd", "(ZI)I"⟩
abbrev cX1_gapStart : ByteArray := prog_3_method_14_code
def yX1_gapStart : MethodName := ⟨RX1, "gapStart", "(ZI)I"⟩
abbrev cX1_countGaps : ByteArray := prog_3_method_15_code
def yX1_countGaps : MethodName := ⟨RX1, "countGaps", "(Z)I"⟩
abbrev cX1_areGapsClean : ByteArray := prog_3_method_16_code
def yX1_areGapsClean : MethodName := ⟨RX1, "areGapsClean", "(Z)Z"⟩
abbrev cX1_earliestStart : ByteArray := prog_3_method_17_code
def yX1_earliestStart : MethodName := ⟨RX1, "earliestStart", "(LSaywhatSeen$Fact;)I"⟩
abbrev cX1_canPlace : ByteArray := prog_3_method_18_code
def yX1_canPlace : MethodName := ⟨RX1, "canPlace", "(LSaywhatSeen$Fact;II)Z"⟩
abbrev cX1_placeFrom : ByteArray := prog_3_method_19_code
def yX1_placeFrom : MethodName := ⟨RX1, "placeFrom", "(LSaywhatSeen$Fact;II)I"⟩
abbrev cX1_takeOut : ByteArray := prog_3_method_20_code
def yX1_takeOut : MethodName := ⟨RX1, "takeOut", "(II)V"⟩
abbrev cX1_afterCut : ByteArray := prog_3_method_21_code
def yX1_afterCut : MethodName := ⟨RX1, "afterCut", "(III)I"⟩
abbrev cX1_putIn : ByteArray := prog_3_method_22_code
def yX1_putIn : MethodName := ⟨RX1, "putIn", "(II)V"⟩
def RX2 : String := "SaywhatSeen$Marks"
def TX2 : u_T := fun k => match k with
  | _ => ("SaywhatSeen$Marks", "given", "[I", true)
def tyX2 : Nat → FieldType := fun k => match k with
  | _ => .array .int
abbrev wsX20 : List Cond := u_ws RX2 TX2 1
theorem nmX2 : ∀ a, a < 1 → ∀ b, b < 1 → a ≠ b → (TX2 a).2.1 ≠ (TX2 b).2.1 := by decide +kernel
theorem tyX2_ok : ∀ k, k < 1 → parseFieldDescriptor (TX2 k).2.2.1 = some (tyX2 k) := by decide +kernel
abbrev cX2_init : ByteArray := prog_4_method_1_code
def yX2_init : MethodName := ⟨RX2, "<init>", "()V"⟩
abbrev cX2_give : ByteArray := prog_4_method_2_code
def yX2_give : MethodName := ⟨RX2, "give", "(III)I"⟩
abbrev cX2_forget : ByteArray := prog_4_method_3_code
def yX2_forget : MethodName := ⟨RX2, "forget", "(I)V"⟩
abbrev cX2_of : ByteArray := prog_4_method_4_code
def yX2_of : MethodName := ⟨RX2, "of", "(II)I"⟩
abbrev cX2_meanInside : ByteArray := prog_4_method_5_code
def yX2_meanInside : MethodName := ⟨RX2, "meanInside", "(I)I"⟩
def RX3 : String := "SaywhatSeen$Plan"
def TX3 : u_T := fun k => match k with
  | 0 => ("SaywhatSeen$Plan", "isMade", "Z", false)
  | 1 => ("SaywhatSeen$Plan", "count", "I", false)
  | 2 => ("SaywhatSeen$Plan", "weight", "I", false)
  | 3 => ("SaywhatSeen$Plan", "facts", "[I", true)
  | 4 => ("SaywhatSeen$Plan", "starts", "[I", true)
  | _ => ("SaywhatSeen$Plan", "versions", "[I", true)
def tyX3 : Nat → FieldType := fun k => match k with
  | 0 => .boolean
  | 1 => .int
  | 2 => .int
  | 3 => .array .int
  | 4 => .array .int
  | _ => .array .int
abbrev wsX30 : List Cond := u_ws RX3 TX3 6
theorem nmX3 : ∀ a, a < 6 → ∀ b, b < 6 → a ≠ b → (TX3 a).2.1 ≠ (TX3 b).2.1 := by decide +kernel
theorem tyX3_ok : ∀ k, k < 6 → parseFieldDescriptor (TX3 k).2.2.1 = some (tyX3 k) := by decide +kernel
abbrev cX3_init : ByteArray := prog_5_method_1_code
def yX3_init : MethodName := ⟨RX3, "<init>", "()V"⟩
abbrev cX3_make : ByteArray := prog_5_method_2_code
def yX3_make : MethodName := ⟨RX3, "make", "(LSaywhatSeen$Film;LSaywhatSeen$Ways;II)V"⟩
abbrev cX3_longestVersion : ByteArray := prog_5_method_3_code
def yX3_longestVersion : MethodName := ⟨RX3, "longestVersion", "(LSaywhatSeen$Film;III)I"⟩
abbrev cX3_canBeAt : ByteArray := prog_5_method_4_code
def yX3_canBeAt : MethodName := ⟨RX3, "canBeAt", "(LSaywhatSeen$Film;IIII)Z"⟩
abbrev cX3_isPlaceable : ByteArray := prog_5_method_5_code
def yX3_isPlaceable : MethodName := ⟨RX3, "isPlaceable", "(LSaywhatSeen$Film;II)Z"⟩
abbrev cX3_placeOf : ByteArray := prog_5_method_6_code
def yX3_placeOf : MethodName := ⟨RX3, "placeOf", "(I)I"⟩
def RX4 : String := "SaywhatSeen$Sound"
def TX4 : u_T := fun k => match k with
  | 0 => ("SaywhatSeen$Sound", "kind", "C", true)
  | 1 => ("SaywhatSeen$Sound", "from", "I", true)
  | _ => ("SaywhatSeen$Sound", "to", "I", true)
def tyX4 : Nat → FieldType := fun k => match k with
  | 0 => .char
  | 1 => .int
  | _ => .int
abbrev wsX40 : List Cond := u_ws RX4 TX4 3
theorem nmX4 : ∀ a, a < 3 → ∀ b, b < 3 → a ≠ b → (TX4 a).2.1 ≠ (TX4 b).2.1 := by decide +kernel
theorem tyX4_ok : ∀ k, k < 3 → parseFieldDescriptor (TX4 k).2.2.1 = some (tyX4 k) := by decide +kernel
abbrev cX4_init : ByteArray := prog_6_method_1_code
def yX4_init : MethodName := ⟨RX4, "<init>", "(CII)V"⟩
abbrev cX4_isHeard : ByteArray := prog_6_method_2_code
def yX4_isHeard : MethodName := ⟨RX4, "isHeard", "(Z)Z"⟩
abbrev cX4_isWithin : ByteArray := prog_6_method_3_code
def yX4_isWithin : MethodName := ⟨RX4, "isWithin", "(II)Z"⟩
def RX5 : String := "SaywhatSeen$Stage"
def TX5 : u_T := fun k => match k with
  | 0 => ("SaywhatSeen$Stage", "isLive", "Z", false)
  | 1 => ("SaywhatSeen$Stage", "isSpeaking", "Z", false)
  | 2 => ("SaywhatSeen$Stage", "isCalled", "[Z", true)
  | 3 => ("SaywhatSeen$Stage", "became", "[C", true)
  | 4 => ("SaywhatSeen$Stage", "underWay", "I", false)
  | 5 => ("SaywhatSeen$Stage", "left", "I", false)
  | _ => ("SaywhatSeen$Stage", "sinceText", "I", false)
def tyX5 : Nat → FieldType := fun k => match k with
  | 0 => .boolean
  | 1 => .boolean
  | 2 => .array .boolean
  | 3 => .array .char
  | 4 => .int
  | 5 => .int
  | _ => .int
abbrev wsX50 : List Cond := u_ws RX5 TX5 7
theorem nmX5 : ∀ a, a < 7 → ∀ b, b < 7 → a ≠ b → (TX5 a).2.1 ≠ (TX5 b).2.1 := by decide +kernel
theorem tyX5_ok : ∀ k, k < 7 → parseFieldDescriptor (TX5 k).2.2.1 = some (tyX5 k) := by decide +kernel
abbrev cX5_init : ByteArray := prog_7_method_1_code
def yX5_init : MethodName := ⟨RX5, "<init>", "()V"⟩
abbrev cX5_begin : ByteArray := prog_7_method_2_code
def yX5_begin : MethodName := ⟨RX5, "begin", "()V"⟩
abbrev cX5_hear : ByteArray := prog_7_method_3_code
def yX5_hear : MethodName := ⟨RX5, "hear", "(Z)V"⟩
abbrev cX5_canBegin : ByteArray := prog_7_method_4_code
def yX5_canBegin : MethodName := ⟨RX5, "canBegin", "(III)Z"⟩
abbrev cX5_startText : ByteArray := prog_7_method_5_code
def yX5_startText : MethodName := ⟨RX5, "startText", "(II)V"⟩
abbrev cX5_pass : ByteArray := prog_7_method_6_code
def yX5_pass : MethodName := ⟨RX5, "pass", "(I)I"⟩
abbrev cX5_forget : ByteArray := prog_7_method_7_code
def yX5_forget : MethodName := ⟨RX5, "forget", "(I)V"⟩
abbrev cX5_becameOf : ByteArray := prog_7_method_8_code
def yX5_becameOf : MethodName := ⟨RX5, "becameOf", "(I)C"⟩
abbrev cX5_become : ByteArray := prog_7_method_9_code
def yX5_become : MethodName := ⟨RX5, "become", "(IC)V"⟩
abbrev cX5_breakOff : ByteArray := prog_7_method_10_code
def yX5_breakOff : MethodName := ⟨RX5, "breakOff", "(C)V"⟩
def RX6 : String := "SaywhatSeen$Ways"
def TX6 : u_T := fun k => match k with
  | 0 => ("SaywhatSeen$Ways", "isLaid", "Z", false)
  | 1 => ("SaywhatSeen$Ways", "breath", "I", false)
  | 2 => ("SaywhatSeen$Ways", "texted", "I", false)
  | 3 => ("SaywhatSeen$Ways", "heaviest", "I", false)
  | 4 => ("SaywhatSeen$Ways", "weights", "[I", true)
  | 5 => ("SaywhatSeen$Ways", "lengths", "[I", true)
  | 6 => ("SaywhatSeen$Ways", "unlike", "[I", true)
  | 7 => ("SaywhatSeen$Ways", "quietEnds", "[I", true)
  | 8 => ("SaywhatSeen$Ways", "silentEnds", "[I", true)
  | 9 => ("SaywhatSeen$Ways", "starts", "[[I", true)
  | 10 => ("SaywhatSeen$Ways", "ends", "[I", true)
  | _ => ("SaywhatSeen$Ways", "lasts", "[I", true)
def tyX6 : Nat → FieldType := fun k => match k with
  | 0 => .boolean
  | 1 => .int
  | 2 => .int
  | 3 => .int
  | 4 => .array .int
  | 5 => .array .int
  | 6 => .array .int
  | 7 => .array .int
  | 8 => .array .int
  | 9 => .array (.array .int)
  | 10 => .array .int
  | _ => .array .int
abbrev wsX60 : List Cond := u_ws RX6 TX6 12
theorem nmX6 : ∀ a, a < 12 → ∀ b, b < 12 → a ≠ b → (TX6 a).2.1 ≠ (TX6 b).2.1 := by decide +kernel
theorem tyX6_ok : ∀ k, k < 12 → parseFieldDescriptor (TX6 k).2.2.1 = some (tyX6 k) := by decide +kernel
abbrev cX6_init : ByteArray := prog_8_method_1_code
def yX6_init : MethodName := ⟨RX6, "<init>", "()V"⟩
abbrev cX6_lay : ByteArray := prog_8_method_2_code
def yX6_lay : MethodName := ⟨RX6, "lay", "(LSaywhatSeen$Film;II)V"⟩
abbrev cX6_bitsUnlike : ByteArray := prog_8_method_3_code
def yX6_bitsUnlike : MethodName := ⟨RX6, "bitsUnlike", "(LSaywhatSeen$Film;LSaywhatSeen$Fact;)I"⟩
abbrev cX6_fillGapEnds : ByteArray := prog_8_method_4_code
def yX6_fillGapEnds : MethodName := ⟨RX6, "fillGapEnds", "(LSaywhatSeen$Film;Z[I)V"⟩
abbrev cX6_fillStarts : ByteArray := prog_8_method_5_code
def yX6_fillStarts : MethodName := ⟨RX6, "fillStarts", "(LSaywhatSeen$Film;LSaywhatSeen$Fact;I[I)V"⟩
abbrev cX6_startBehind : ByteArray := prog_8_method_6_code
def yX6_startBehind : MethodName := ⟨RX6, "startBehind", "(III)I"⟩
abbrev cX6_layWay : ByteArray := prog_8_method_7_code
def yX6_layWay : MethodName := ⟨RX6, "layWay", "(I)V"⟩
abbrev cX6_endOf : ByteArray := prog_8_method_8_code
def yX6_endOf : MethodName := ⟨RX6, "endOf", "(I)I"⟩
abbrev cX6_lastOf : ByteArray := prog_8_method_9_code
def yX6_lastOf : MethodName := ⟨RX6, "lastOf", "(I)I"⟩
abbrev cX6_lengthOf : ByteArray := prog_8_method_10_code
def yX6_lengthOf : MethodName := ⟨RX6, "lengthOf", "(I)I"⟩
abbrev cX6_weightOf : ByteArray := prog_8_method_11_code
def yX6_weightOf : MethodName := ⟨RX6, "weightOf", "(I)I"⟩
abbrev cX6_bestSet : ByteArray := prog_8_method_12_code
def yX6_bestSet : MethodName := ⟨RX6, "bestSet", "()I"⟩
abbrev cX6_hasMoreThan : ByteArray := prog_8_method_13_code
def yX6_hasMoreThan : MethodName := ⟨RX6, "hasMoreThan", "(I)Z"⟩
abbrev cX6_isMoreFound : ByteArray := prog_8_method_14_code
def yX6_isMoreFound : MethodName := ⟨RX6, "isMoreFound", "(LSaywhatSeen$Ways;IIIII)Z"⟩
def RX7 : String := "SaywhatSeen"
def TX7 : u_T := fun k => match k with
  | 0 => ("SaywhatSeen", "film", "LSaywhatSeen$Film;", true)
  | 1 => ("SaywhatSeen", "editions", "[LSaywhatSeen$Film;", true)
  | 2 => ("SaywhatSeen", "editionCount", "I", false)
  | 3 => ("SaywhatSeen", "speed", "I", false)
  | 4 => ("SaywhatSeen", "breath", "I", false)
  | 5 => ("SaywhatSeen", "ways", "LSaywhatSeen$Ways;", true)
  | 6 => ("SaywhatSeen", "plan", "LSaywhatSeen$Plan;", true)
  | 7 => ("SaywhatSeen", "stage", "LSaywhatSeen$Stage;", true)
  | _ => ("SaywhatSeen", "marks", "LSaywhatSeen$Marks;", true)
def tyX7 : Nat → FieldType := fun k => match k with
  | 0 => .object "SaywhatSeen$Film"
  | 1 => .array (.object "SaywhatSeen$Film")
  | 2 => .int
  | 3 => .int
  | 4 => .int
  | 5 => .object "SaywhatSeen$Ways"
  | 6 => .object "SaywhatSeen$Plan"
  | 7 => .object "SaywhatSeen$Stage"
  | _ => .object "SaywhatSeen$Marks"
abbrev wsX70 : List Cond := u_ws RX7 TX7 9
theorem nmX7 : ∀ a, a < 9 → ∀ b, b < 9 → a ≠ b → (TX7 a).2.1 ≠ (TX7 b).2.1 := by decide +kernel
theorem tyX7_ok : ∀ k, k < 9 → parseFieldDescriptor (TX7 k).2.2.1 = some (tyX7 k) := by decide +kernel
abbrev cX7_init : ByteArray := prog_1_method_1_code
def yX7_init : MethodName := ⟨RX7, "<init>", "()V"⟩
abbrev cX7_film : ByteArray := prog_1_method_2_code
def yX7_film : MethodName := ⟨RX7, "film", "(I)I"⟩
abbrev cX7_sound : ByteArray := prog_1_method_3_code
def yX7_sound : MethodName := ⟨RX7, "sound", "(CII)I"⟩
abbrev cX7_sounds : ByteArray := prog_1_method_4_code
def yX7_sounds : MethodName := ⟨RX7, "sounds", "()I"⟩
abbrev cX7_unsound : ByteArray := prog_1_method_5_code
def yX7_unsound : MethodName := ⟨RX7, "unsound", "()I"⟩
abbrev cX7_gaps : ByteArray := prog_1_method_6_code
def yX7_gaps : MethodName := ⟨RX7, "gaps", "(Z)I"⟩
abbrev cX7_gapAt : ByteArray := prog_1_method_7_code
def yX7_gapAt : MethodName := ⟨RX7, "gapAt", "(ZIZ)I"⟩
abbrev cX7_named : ByteArray := prog_1_method_8_code
def yX7_named : MethodName := ⟨RX7, "named", "(II)I"⟩
abbrev cX7_voice : ByteArray := prog_1_method_9_code
def yX7_voice : MethodName := ⟨RX7, "voice", "(II)I"⟩
abbrev cX7_fact : ByteArray := prog_1_method_10_code
def yX7_fact : MethodName := ⟨RX7, "fact", "(IIIIZ)I"⟩
abbrev cX7_drop : ByteArray := prog_1_method_11_code
def yX7_drop : MethodName := ⟨RX7, "drop", "(I)I"⟩
abbrev cX7_names : ByteArray := prog_1_method_12_code
def yX7_names : MethodName := ⟨RX7, "names", "(II)I"⟩
abbrev cX7_thing : ByteArray := prog_1_method_13_code
def yX7_thing : MethodName := ⟨RX7, "thing", "(III)I"⟩
abbrev cX7_version : ByteArray := prog_1_method_14_code
def yX7_version : MethodName := ⟨RX7, "version", "(II)I"⟩
abbrev cX7_ticks : ByteArray := prog_1_method_15_code
def yX7_ticks : MethodName := ⟨RX7, "ticks", "(II)I"⟩
abbrev cX7_canStart : ByteArray := prog_1_method_16_code
def yX7_canStart : MethodName := ⟨RX7, "canStart", "(III)Z"⟩
abbrev cX7_firstStart : ByteArray := prog_1_method_17_code
def yX7_firstStart : MethodName := ⟨RX7, "firstStart", "(III)I"⟩
abbrev cX7_plan : ByteArray := prog_1_method_18_code
def yX7_plan : MethodName := ⟨RX7, "plan", "()I"⟩
abbrev cX7_weight : ByteArray := prog_1_method_19_code
def yX7_weight : MethodName := ⟨RX7, "weight", "()I"⟩
abbrev cX7_loss : ByteArray := prog_1_method_20_code
def yX7_loss : MethodName := ⟨RX7, "loss", "()I"⟩
abbrev cX7_planned : ByteArray := prog_1_method_21_code
def yX7_planned : MethodName := ⟨RX7, "planned", "(I)I"⟩
abbrev cX7_start : ByteArray := prog_1_method_22_code
def yX7_start : MethodName := ⟨RX7, "start", "(I)I"⟩
abbrev cX7_versionOf : ByteArray := prog_1_method_23_code
def yX7_versionOf : MethodName := ⟨RX7, "versionOf", "(I)I"⟩
abbrev cX7_canTell : ByteArray := prog_1_method_24_code
def yX7_canTell : MethodName := ⟨RX7, "canTell", "(I)Z"⟩
abbrev cX7_cut : ByteArray := prog_1_method_25_code
def yX7_cut : MethodName := ⟨RX7, "cut", "(II)I"⟩
abbrev cX7_insert : ByteArray := prog_1_method_26_code
def yX7_insert : MethodName := ⟨RX7, "insert", "(II)I"⟩
abbrev cX7_edition : ByteArray := prog_1_method_27_code
def yX7_edition : MethodName := ⟨RX7, "edition", "()I"⟩
abbrev cX7_use : ByteArray := prog_1_method_28_code
def yX7_use : MethodName := ⟨RX7, "use", "(I)I"⟩
abbrev cX7_live : ByteArray := prog_1_method_29_code
def yX7_live : MethodName := ⟨RX7, "live", "()I"⟩
abbrev cX7_speak : ByteArray := prog_1_method_30_code
def yX7_speak : MethodName := ⟨RX7, "speak", "(Z)Z"⟩
abbrev cX7_call : ByteArray := prog_1_method_31_code
def yX7_call : MethodName := ⟨RX7, "call", "(I)Z"⟩
abbrev cX7_cue : ByteArray := prog_1_method_32_code
def yX7_cue : MethodName := ⟨RX7, "cue", "(I)I"⟩
abbrev cX7_tick : ByteArray := prog_1_method_33_code
def yX7_tick : MethodName := ⟨RX7, "tick", "(I)I"⟩
abbrev cX7_told : ByteArray := prog_1_method_34_code
def yX7_told : MethodName := ⟨RX7, "told", "(I)C"⟩
abbrev cX7_mark : ByteArray := prog_1_method_35_code
def yX7_mark : MethodName := ⟨RX7, "mark", "(III)I"⟩
abbrev cX7_review : ByteArray := prog_1_method_36_code
def yX7_review : MethodName := ⟨RX7, "review", "(I)I"⟩
abbrev cX7_isSound : ByteArray := prog_1_method_38_code
def yX7_isSound : MethodName := ⟨RX7, "isSound", "()Z"⟩
abbrev cX7_existing : ByteArray := prog_1_method_39_code
def yX7_existing : MethodName := ⟨RX7, "existing", "(I)LSaywhatSeen$Fact;"⟩
abbrev cX7_existingLength : ByteArray := prog_1_method_40_code
def yX7_existingLength : MethodName := ⟨RX7, "existingLength", "(LSaywhatSeen$Fact;I)I"⟩
abbrev cX7_checkPlan : ByteArray := prog_1_method_41_code
def yX7_checkPlan : MethodName := ⟨RX7, "checkPlan", "()V"⟩
abbrev cX7_placeInPlan : ByteArray := prog_1_method_42_code
def yX7_placeInPlan : MethodName := ⟨RX7, "placeInPlan", "(I)I"⟩
abbrev cX7_checkStage : ByteArray := prog_1_method_43_code
def yX7_checkStage : MethodName := ⟨RX7, "checkStage", "()V"⟩
abbrev cX7_forgetPlan : ByteArray := prog_1_method_44_code
def yX7_forgetPlan : MethodName := ⟨RX7, "forgetPlan", "()V"⟩
abbrev cX7_layWays : ByteArray := prog_1_method_45_code
def yX7_layWays : MethodName := ⟨RX7, "layWays", "()V"⟩
abbrev cX7_forgetGoneFacts : ByteArray := prog_1_method_46_code
def yX7_forgetGoneFacts : MethodName := ⟨RX7, "forgetGoneFacts", "()V"⟩
def RX8 : String := "SaywhatSeenModel"
def TX8 : u_T := fun k => match k with
  | _ => ("", "", "", false)
def tyX8 : Nat → FieldType := fun k => match k with
  | _ => .int
abbrev wsX80 : List Cond := u_ws RX8 TX8 0
theorem nmX8 : ∀ a, a < 0 → ∀ b, b < 0 → a ≠ b → (TX8 a).2.1 ≠ (TX8 b).2.1 := by decide +kernel
theorem tyX8_ok : ∀ k, k < 0 → parseFieldDescriptor (TX8 k).2.2.1 = some (tyX8 k) := by decide +kernel
def RJx145de : String := "java/io/Serializable"
def TJx145de : u_T := fun k => match k with
  | _ => ("", "", "", false)
def tyJx145de : Nat → FieldType := fun k => match k with
  | _ => .int
abbrev wsJx145de0 : List Cond := u_ws RJx145de TJx145de 0
theorem nmJx145de : ∀ a, a < 0 → ∀ b, b < 0 → a ≠ b → (TJx145de a).2.1 ≠ (TJx145de b).2.1 := by decide +kernel
theorem tyJx145de_ok : ∀ k, k < 0 → parseFieldDescriptor (TJx145de k).2.2.1 = some (tyJx145de k) := by decide +kernel
def RJx8e188 : String := "java/lang/Cloneable"
def TJx8e188 : u_T := fun k => match k with
  | _ => ("", "", "", false)
def tyJx8e188 : Nat → FieldType := fun k => match k with
  | _ => .int
abbrev wsJx8e1880 : List Cond := u_ws RJx8e188 TJx8e188 0
theorem nmJx8e188 : ∀ a, a < 0 → ∀ b, b < 0 → a ≠ b → (TJx8e188 a).2.1 ≠ (TJx8e188 b).2.1 := by decide +kernel
theorem tyJx8e188_ok : ∀ k, k < 0 → parseFieldDescriptor (TJx8e188 k).2.2.1 = some (tyJx8e188 k) := by decide +kernel
def RJ6 : String := "java/lang/Integer"
def TJ6 : u_T := fun k => match k with
  | _ => ("", "", "", false)
def tyJ6 : Nat → FieldType := fun k => match k with
  | _ => .int
abbrev wsJ60 : List Cond := u_ws RJ6 TJ6 0
theorem nmJ6 : ∀ a, a < 0 → ∀ b, b < 0 → a ≠ b → (TJ6 a).2.1 ≠ (TJ6 b).2.1 := by decide +kernel
theorem tyJ6_ok : ∀ k, k < 0 → parseFieldDescriptor (TJ6 k).2.2.1 = some (tyJ6 k) := by decide +kernel
abbrev cJ6_bitCount_0f7a4 : ByteArray := prog_17_method_49_code
def yJ6_bitCount_0f7a4 : MethodName := ⟨RJ6, "bitCount", "(I)I"⟩
def RJxab1ab : String := "java/lang/Iterable"
def TJxab1ab : u_T := fun k => match k with
  | _ => ("", "", "", false)
def tyJxab1ab : Nat → FieldType := fun k => match k with
  | _ => .int
abbrev wsJxab1ab0 : List Cond := u_ws RJxab1ab TJxab1ab 0
theorem nmJxab1ab : ∀ a, a < 0 → ∀ b, b < 0 → a ≠ b → (TJxab1ab a).2.1 ≠ (TJxab1ab b).2.1 := by decide +kernel
theorem tyJxab1ab_ok : ∀ k, k < 0 → parseFieldDescriptor (TJxab1ab k).2.2.1 = some (tyJxab1ab k) := by decide +kernel
def RJ9 : String := "java/lang/Math"
def TJ9 : u_T := fun k => match k with
  | _ => ("", "", "", false)
def tyJ9 : Nat → FieldType := fun k => match k with
  | _ => .int
abbrev wsJ90 : List Cond := u_ws RJ9 TJ9 0
theorem nmJ9 : ∀ a, a < 0 → ∀ b, b < 0 → a ≠ b → (TJ9 a).2.1 ≠ (TJ9 b).2.1 := by decide +kernel
theorem tyJ9_ok : ∀ k, k < 0 → parseFieldDescriptor (TJ9 k).2.2.1 = some (tyJ9 k) := by decide +kernel
abbrev cJ9_max_7cf53 : ByteArray := prog_19_method_65_code
def yJ9_max_7cf53 : MethodName := ⟨RJ9, "max", "(II)I"⟩
abbrev cJ9_min_7cf53 : ByteArray := prog_19_method_69_code
def yJ9_min_7cf53 : MethodName := ⟨RJ9, "min", "(II)I"⟩
def RJ0 : String := "java/lang/String"
def TJ0 : u_T := fun k => match k with
  | _ => ("", "", "", false)
def tyJ0 : Nat → FieldType := fun k => match k with
  | _ => .int
abbrev wsJ00 : List Cond := u_ws RJ0 TJ0 0
theorem nmJ0 : ∀ a, a < 0 → ∀ b, b < 0 → a ≠ b → (TJ0 a).2.1 ≠ (TJ0 b).2.1 := by decide +kernel
theorem tyJ0_ok : ∀ k, k < 0 → parseFieldDescriptor (TJ0 k).2.2.1 = some (tyJ0 k) := by decide +kernel
def RJ10 : String := "java/lang/System"
def TJ10 : u_T := fun k => match k with
  | _ => ("", "", "", false)
def tyJ10 : Nat → FieldType := fun k => match k with
  | _ => .int
abbrev wsJ100 : List Cond := u_ws RJ10 TJ10 0
theorem nmJ10 : ∀ a, a < 0 → ∀ b, b < 0 → a ≠ b → (TJ10 a).2.1 ≠ (TJ10 b).2.1 := by decide +kernel
theorem tyJ10_ok : ∀ k, k < 0 → parseFieldDescriptor (TJ10 k).2.2.1 = some (tyJ10 k) := by decide +kernel
def RJxa1e45 : String := "java/util/AbstractCollection"
def TJxa1e45 : u_T := fun k => match k with
  | _ => ("", "", "", false)
def tyJxa1e45 : Nat → FieldType := fun k => match k with
  | _ => .int
abbrev wsJxa1e450 : List Cond := u_ws RJxa1e45 TJxa1e45 0
theorem nmJxa1e45 : ∀ a, a < 0 → ∀ b, b < 0 → a ≠ b → (TJxa1e45 a).2.1 ≠ (TJxa1e45 b).2.1 := by decide +kernel
theorem tyJxa1e45_ok : ∀ k, k < 0 → parseFieldDescriptor (TJxa1e45 k).2.2.1 = some (tyJxa1e45 k) := by decide +kernel
abbrev cJxa1e45_init_da8c8 : ByteArray := prog_25_method_1_code
def yJxa1e45_init_da8c8 : MethodName := ⟨RJxa1e45, "<init>", "()V"⟩
def RJxc12de : String := "java/util/AbstractList"
def TJxc12de : u_T := fun k => match k with
  | _ => ("", "", "", false)
def tyJxc12de : Nat → FieldType := fun k => match k with
  | _ => .int
abbrev wsJxc12de0 : List Cond := u_ws RJxc12de TJxc12de 0
theorem nmJxc12de : ∀ a, a < 0 → ∀ b, b < 0 → a ≠ b → (TJxc12de a).2.1 ≠ (TJxc12de b).2.1 := by decide +kernel
theorem tyJxc12de_ok : ∀ k, k < 0 → parseFieldDescriptor (TJxc12de k).2.2.1 = some (tyJxc12de k) := by decide +kernel
abbrev cJxc12de_init_da8c8 : ByteArray := prog_26_method_1_code
def yJxc12de_init_da8c8 : MethodName := ⟨RJxc12de, "<init>", "()V"⟩
def RJx4a65c : String := "java/util/ArrayList"
def TJx4a65c : u_T := fun k => match k with
  | 0 => ("java/util/AbstractList", "modCount", "I", false)
  | 1 => ("java/util/ArrayList", "elementData", "[Ljava/lang/Object;", false)
  | _ => ("java/util/ArrayList", "size", "I", false)
def tyJx4a65c : Nat → FieldType := fun k => match k with
  | 0 => .int
  | 1 => .array (.object "java/lang/Object")
  | _ => .int
abbrev wsJx4a65c0 : List Cond := u_ws RJx4a65c TJx4a65c 3
theorem nmJx4a65c : ∀ a, a < 3 → ∀ b, b < 3 → a ≠ b → (TJx4a65c a).2.1 ≠ (TJx4a65c b).2.1 := by decide +kernel
theorem tyJx4a65c_ok : ∀ k, k < 3 → parseFieldDescriptor (TJx4a65c k).2.2.1 = some (tyJx4a65c k) := by decide +kernel
abbrev cJx4a65c_init_da8c8 : ByteArray := prog_27_method_2_code
def yJx4a65c_init_da8c8 : MethodName := ⟨RJx4a65c, "<init>", "()V"⟩
abbrev cJx4a65c_grow_92f84 : ByteArray := prog_27_method_6_code
def yJx4a65c_grow_92f84 : MethodName := ⟨RJx4a65c, "grow", "(I)[Ljava/lang/Object;"⟩
abbrev cJx4a65c_grow_d5877 : ByteArray := prog_27_method_7_code
def yJx4a65c_grow_d5877 : MethodName := ⟨RJx4a65c, "grow", "()[Ljava/lang/Object;"⟩
abbrev cJx4a65c_size_8abf5 : ByteArray := prog_27_method_8_code
def yJx4a65c_size_8abf5 : MethodName := ⟨RJx4a65c, "size", "()I"⟩
abbrev cJx4a65c_isEmpty_aae02 : ByteArray := prog_27_method_9_code
def yJx4a65c_isEmpty_aae02 : MethodName := ⟨RJx4a65c, "isEmpty", "()Z"⟩
abbrev cJx4a65c_elementData_915e3 : ByteArray := prog_27_method_18_code
def yJx4a65c_elementData_915e3 : MethodName := ⟨RJx4a65c, "elementData", "(I)Ljava/lang/Object;"⟩
abbrev cJx4a65c_get_915e3 : ByteArray := prog_27_method_20_code
def yJx4a65c_get_915e3 : MethodName := ⟨RJx4a65c, "get", "(I)Ljava/lang/Object;"⟩
abbrev cJx4a65c_set_bcc79 : ByteArray := prog_27_method_23_code
def yJx4a65c_set_bcc79 : MethodName := ⟨RJx4a65c, "set", "(ILjava/lang/Object;)Ljava/lang/Object;"⟩
abbrev cJx4a65c_add_72be8 : ByteArray := prog_27_method_24_code
def yJx4a65c_add_72be8 : MethodName := ⟨RJx4a65c, "add", "(Ljava/lang/Object;[Ljava/lang/Object;I)V"⟩
abbrev cJx4a65c_add_9ea2d : ByteArray := prog_27_method_25_code
def yJx4a65c_add_9ea2d : MethodName := ⟨RJx4a65c, "add", "(Ljava/lang/Object;)Z"⟩
abbrev cJx4a65c_remove_915e3 : ByteArray := prog_27_method_29_code
def yJx4a65c_remove_915e3 : MethodName := ⟨RJx4a65c, "remove", "(I)Ljava/lang/Object;"⟩
abbrev cJx4a65c_fastRemove_b59b0 : ByteArray := prog_27_method_39_code
def yJx4a65c_fastRemove_b59b0 : MethodName := ⟨RJx4a65c, "fastRemove", "([Ljava/lang/Object;I)V"⟩
abbrev cJx4a65c_clear_da8c8 : ByteArray := prog_27_method_40_code
def yJx4a65c_clear_da8c8 : MethodName := ⟨RJx4a65c, "clear", "()V"⟩
def RJ7 : String := "java/util/Arrays"
def TJ7 : u_T := fun k => match k with
  | _ => ("", "", "", false)
def tyJ7 : Nat → FieldType := fun k => match k with
  | _ => .int
abbrev wsJ70 : List Cond := u_ws RJ7 TJ7 0
theorem nmJ7 : ∀ a, a < 0 → ∀ b, b < 0 → a ≠ b → (TJ7 a).2.1 ≠ (TJ7 b).2.1 := by decide +kernel
theorem tyJ7_ok : ∀ k, k < 0 → parseFieldDescriptor (TJ7 k).2.2.1 = some (tyJ7 k) := by decide +kernel
abbrev cJ7_sort_2022b : ByteArray := prog_28_method_2_code
def yJ7_sort_2022b : MethodName := ⟨RJ7, "sort", "([I)V"⟩
abbrev cJ7_fill_53178 : ByteArray := prog_28_method_103_code
def yJ7_fill_53178 : MethodName := ⟨RJ7, "fill", "([II)V"⟩
abbrev cJ7_copyOf_1904c : ByteArray := prog_28_method_119_code
def yJ7_copyOf_1904c : MethodName := ⟨RJ7, "copyOf", "([Ljava/lang/Object;I)[Ljava/lang/Object;"⟩
abbrev cJ7_copyOf_6403c : ByteArray := prog_28_method_120_code
def yJ7_copyOf_6403c : MethodName := ⟨RJ7, "copyOf", "([Ljava/lang/Object;ILjava/lang/Class;)[Ljava/lang/Object;"⟩
abbrev cJ7_copyOf_59c91 : ByteArray := prog_28_method_123_code
def yJ7_copyOf_59c91 : MethodName := ⟨RJ7, "copyOf", "([II)[I"⟩
def RJx5ef63 : String := "java/util/Collection"
def TJx5ef63 : u_T := fun k => match k with
  | _ => ("", "", "", false)
def tyJx5ef63 : Nat → FieldType := fun k => match k with
  | _ => .int
abbrev wsJx5ef630 : List Cond := u_ws RJx5ef63 TJx5ef63 0
theorem nmJx5ef63 : ∀ a, a < 0 → ∀ b, b < 0 → a ≠ b → (TJx5ef63 a).2.1 ≠ (TJx5ef63 b).2.1 := by decide +kernel
theorem tyJx5ef63_ok : ∀ k, k < 0 → parseFieldDescriptor (TJx5ef63 k).2.2.1 = some (tyJx5ef63 k) := by decide +kernel
def RX9 : String := "java/util/DualPivotQuicksort"
def TX9 : u_T := fun k => match k with
  | _ => ("", "", "", false)
def tyX9 : Nat → FieldType := fun k => match k with
  | _ => .int
abbrev wsX90 : List Cond := u_ws RX9 TX9 0
theorem nmX9 : ∀ a, a < 0 → ∀ b, b < 0 → a ≠ b → (TX9 a).2.1 ≠ (TX9 b).2.1 := by decide +kernel
theorem tyX9_ok : ∀ k, k < 0 → parseFieldDescriptor (TX9 k).2.2.1 = some (tyX9 k) := by decide +kernel
abbrev cX9_sort : ByteArray := prog_30_method_3_code
def yX9_sort : MethodName := ⟨RX9, "sort", "([IIII)V"⟩
abbrev cX9_sort_ : ByteArray := prog_30_method_4_code
def yX9_sort_ : MethodName := ⟨RX9, "sort", "(Ljava/util/DualPivotQuicksort$Sorter;[IIII)V"⟩
abbrev cX9_mixedInsertionSort : ByteArray := prog_30_method_5_code
def yX9_mixedInsertionSort : MethodName := ⟨RX9, "mixedInsertionSort", "([IIII)V"⟩
abbrev cX9_insertionSort : ByteArray := prog_30_method_6_code
def yX9_insertionSort : MethodName := ⟨RX9, "insertionSort", "([III)V"⟩
abbrev cX9_heapSort : ByteArray := prog_30_method_7_code
def yX9_heapSort : MethodName := ⟨RX9, "heapSort", "([III)V"⟩
abbrev cX9_pushDown : ByteArray := prog_30_method_8_code
def yX9_pushDown : MethodName := ⟨RX9, "pushDown", "([IIIII)V"⟩
abbrev cX9_tryMergeRuns : ByteArray := prog_30_method_9_code
def yX9_tryMergeRuns : MethodName := ⟨RX9, "tryMergeRuns", "(Ljava/util/DualPivotQuicksort$Sorter;[III)Z"⟩
abbrev cX9_mergeRuns : ByteArray := prog_30_method_10_code
def yX9_mergeRuns : MethodName := ⟨RX9, "mergeRuns", "([I[IIIZ[III)[I"⟩
abbrev cX9_mergeParts : ByteArray := prog_30_method_11_code
def yX9_mergeParts : MethodName := ⟨RX9, "mergeParts", "(Ljava/util/DualPivotQuicksort$Merger;[II[III[III)V"⟩
def RJxbd725 : String := "java/util/List"
def TJxbd725 : u_T := fun k => match k with
  | _ => ("", "", "", false)
def tyJxbd725 : Nat → FieldType := fun k => match k with
  | _ => .int
abbrev wsJxbd7250 : List Cond := u_ws RJxbd725 TJxbd725 0
theorem nmJxbd725 : ∀ a, a < 0 → ∀ b, b < 0 → a ≠ b → (TJxbd725 a).2.1 ≠ (TJxbd725 b).2.1 := by decide +kernel
theorem tyJxbd725_ok : ∀ k, k < 0 → parseFieldDescriptor (TJxbd725 k).2.2.1 = some (tyJxbd725 k) := by decide +kernel
def RJ15 : String := "java/util/Objects"
def TJ15 : u_T := fun k => match k with
  | _ => ("", "", "", false)
def tyJ15 : Nat → FieldType := fun k => match k with
  | _ => .int
abbrev wsJ150 : List Cond := u_ws RJ15 TJ15 0
theorem nmJ15 : ∀ a, a < 0 → ∀ b, b < 0 → a ≠ b → (TJ15 a).2.1 ≠ (TJ15 b).2.1 := by decide +kernel
theorem tyJ15_ok : ∀ k, k < 0 → parseFieldDescriptor (TJ15 k).2.2.1 = some (tyJ15 k) := by decide +kernel
abbrev cJ15_checkIndex_7cf53 : ByteArray := prog_33_method_17_code
def yJ15_checkIndex_7cf53 : MethodName := ⟨RJ15, "checkIndex", "(II)I"⟩
def RJxf0a74 : String := "java/util/RandomAccess"
def TJxf0a74 : u_T := fun k => match k with
  | _ => ("", "", "", false)
def tyJxf0a74 : Nat → FieldType := fun k => match k with
  | _ => .int
abbrev wsJxf0a740 : List Cond := u_ws RJxf0a74 TJxf0a74 0
theorem nmJxf0a74 : ∀ a, a < 0 → ∀ b, b < 0 → a ≠ b → (TJxf0a74 a).2.1 ≠ (TJxf0a74 b).2.1 := by decide +kernel
theorem tyJxf0a74_ok : ∀ k, k < 0 → parseFieldDescriptor (TJxf0a74 k).2.2.1 = some (tyJxf0a74 k) := by decide +kernel
def RJxa66e6 : String := "java/util/SequencedCollection"
def TJxa66e6 : u_T := fun k => match k with
  | _ => ("", "", "", false)
def tyJxa66e6 : Nat → FieldType := fun k => match k with
  | _ => .int
abbrev wsJxa66e60 : List Cond := u_ws RJxa66e6 TJxa66e6 0
theorem nmJxa66e6 : ∀ a, a < 0 → ∀ b, b < 0 → a ≠ b → (TJxa66e6 a).2.1 ≠ (TJxa66e6 b).2.1 := by decide +kernel
theorem tyJxa66e6_ok : ∀ k, k < 0 → parseFieldDescriptor (TJxa66e6 k).2.2.1 = some (tyJxa66e6 k) := by decide +kernel
def RJ8 : String := "jdk/internal/util/ArraysSupport"
def TJ8 : u_T := fun k => match k with
  | _ => ("", "", "", false)
def tyJ8 : Nat → FieldType := fun k => match k with
  | _ => .int
abbrev wsJ80 : List Cond := u_ws RJ8 TJ8 0
theorem nmJ8 : ∀ a, a < 0 → ∀ b, b < 0 → a ≠ b → (TJ8 a).2.1 ≠ (TJ8 b).2.1 := by decide +kernel
theorem tyJ8_ok : ∀ k, k < 0 → parseFieldDescriptor (TJ8 k).2.2.1 = some (tyJ8 k) := by decide +kernel
abbrev cJ8_newLength_cabcc : ByteArray := prog_36_method_27_code
def yJ8_newLength_cabcc : MethodName := ⟨RJ8, "newLength", "(III)I"⟩
abbrev cJ8_hugeLength_7cf53 : ByteArray := prog_36_method_28_code
def yJ8_hugeLength_7cf53 : MethodName := ⟨RJ8, "hugeLength", "(II)I"⟩
def RJ3 : String := "jdk/internal/util/Preconditions"
def TJ3 : u_T := fun k => match k with
  | _ => ("", "", "", false)
def tyJ3 : Nat → FieldType := fun k => match k with
  | _ => .int
abbrev wsJ30 : List Cond := u_ws RJ3 TJ3 0
theorem nmJ3 : ∀ a, a < 0 → ∀ b, b < 0 → a ≠ b → (TJ3 a).2.1 ≠ (TJ3 b).2.1 := by decide +kernel
theorem tyJ3_ok : ∀ k, k < 0 → parseFieldDescriptor (TJ3 k).2.2.1 = some (tyJ3 k) := by decide +kernel
abbrev cJ3_checkIndex_8e157 : ByteArray := prog_37_method_11_code
def yJ3_checkIndex_8e157 : MethodName := ⟨RJ3, "checkIndex", "(IILjava/util/function/BiFunction;)I"⟩
def RL : String := "SaywhatSeenLaw"
abbrev cL_at : ByteArray := method_2_code
def yL_at : MethodName := ⟨RL, "at", "([II)I"⟩
abbrev cL_some : ByteArray := method_3_code
def yL_some : MethodName := ⟨RL, "some", "(II)I"⟩
abbrev cL_ask : ByteArray := method_4_code
def yL_ask : MethodName := ⟨RL, "ask", "(LSaywhatSeen;C[I)I"⟩
abbrev cL_asked : ByteArray := method_5_code
def yL_asked : MethodName := ⟨RL, "asked", "(LSaywhatSeen;C[I)I"⟩
abbrev cL_law : ByteArray := code
def yL_law : MethodName := ⟨RL, "law", "([I)Z"⟩
abbrev cL_stage : ByteArray := method_7_code
def yL_stage : MethodName := ⟨RL, "stage", "([I)Z"⟩
abbrev cL_marks : ByteArray := method_8_code
def yL_marks : MethodName := ⟨RL, "marks", "([I)Z"⟩
abbrev cL_full : ByteArray := method_9_code
def yL_full : MethodName := ⟨RL, "full", "()Z"⟩
