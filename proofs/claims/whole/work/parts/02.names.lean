def RX0 : String := "FirstAwake$Course"
def TX0 : u_T := fun k => match k with
  | 0 => ("FirstAwake$Course", "valley", "LFirstAwake$Valley;", true)
  | 1 => ("FirstAwake$Course", "night", "LFirstAwake$Night;", true)
  | 2 => ("FirstAwake$Course", "day", "I", false)
  | 3 => ("FirstAwake$Course", "onEnd", "[I", true)
  | 4 => ("FirstAwake$Course", "done", "[I", true)
  | 5 => ("FirstAwake$Course", "had", "I", false)
  | 6 => ("FirstAwake$Course", "kept", "I", false)
  | 7 => ("FirstAwake$Course", "rulers", "[I", true)
  | 8 => ("FirstAwake$Course", "minutes", "[I", true)
  | 9 => ("FirstAwake$Course", "seed", "I", false)
  | _ => ("FirstAwake$Course", "awake", "[I", true)
def tyX0 : Nat → FieldType := fun k => match k with
  | 0 => .object "FirstAwake$Valley"
  | 1 => .object "FirstAwake$Night"
  | 2 => .int
  | 3 => .array .int
  | 4 => .array .int
  | 5 => .int
  | 6 => .int
  | 7 => .array .int
  | 8 => .array .int
  | 9 => .int
  | _ => .array .int
abbrev wsX00 : List Cond := u_ws RX0 TX0 11
theorem nmX0 : ∀ a, a < 11 → ∀ b, b < 11 → a ≠ b → (TX0 a).2.1 ≠ (TX0 b).2.1 := by decide +kernel
theorem tyX0_ok : ∀ k, k < 11 → parseFieldDescriptor (TX0 k).2.2.1 = some (tyX0 k) := by decide +kernel
abbrev cX0_init : ByteArray := prog_2_method_1_code
def yX0_init : MethodName := ⟨RX0, "<init>", "(LFirstAwake$Valley;)V"⟩
abbrev cX0_beginAnew : ByteArray := prog_2_method_2_code
def yX0_beginAnew : MethodName := ⟨RX0, "beginAnew", "()V"⟩
abbrev cX0_copyFrom : ByteArray := prog_2_method_3_code
def yX0_copyFrom : MethodName := ⟨RX0, "copyFrom", "(LFirstAwake$Course;)V"⟩
abbrev cX0_liveDay : ByteArray := prog_2_method_4_code
def yX0_liveDay : MethodName := ⟨RX0, "liveDay", "()I"⟩
abbrev cX0_draw : ByteArray := prog_2_method_5_code
def yX0_draw : MethodName := ⟨RX0, "draw", "(I)I"⟩
abbrev cX0_whoIsAhead : ByteArray := prog_2_method_6_code
def yX0_whoIsAhead : MethodName := ⟨RX0, "whoIsAhead", "()I"⟩
abbrev cX0_keepRuler : ByteArray := prog_2_method_7_code
def yX0_keepRuler : MethodName := ⟨RX0, "keepRuler", "(I)V"⟩
abbrev cX0_countDayOf : ByteArray := prog_2_method_8_code
def yX0_countDayOf : MethodName := ⟨RX0, "countDayOf", "(I)V"⟩
def RX1 : String := "FirstAwake$Night"
def TX1 : u_T := fun k => match k with
  | 0 => ("FirstAwake$Night", "valley", "LFirstAwake$Valley;", true)
  | 1 => ("FirstAwake$Night", "shifted", "[I", true)
  | 2 => ("FirstAwake$Night", "noiseHouse", "I", false)
  | 3 => ("FirstAwake$Night", "noiseMinute", "I", false)
  | 4 => ("FirstAwake$Night", "loudness", "I", false)
  | 5 => ("FirstAwake$Night", "law", "I", false)
  | 6 => ("FirstAwake$Night", "first", "[I", true)
  | 7 => ("FirstAwake$Night", "last", "[I", true)
  | _ => ("FirstAwake$Night", "roof", "[I", true)
def tyX1 : Nat → FieldType := fun k => match k with
  | 0 => .object "FirstAwake$Valley"
  | 1 => .array .int
  | 2 => .int
  | 3 => .int
  | 4 => .int
  | 5 => .int
  | 6 => .array .int
  | 7 => .array .int
  | _ => .array .int
abbrev wsX10 : List Cond := u_ws RX1 TX1 9
theorem nmX1 : ∀ a, a < 9 → ∀ b, b < 9 → a ≠ b → (TX1 a).2.1 ≠ (TX1 b).2.1 := by decide +kernel
theorem tyX1_ok : ∀ k, k < 9 → parseFieldDescriptor (TX1 k).2.2.1 = some (tyX1 k) := by decide +kernel
abbrev cX1_init : ByteArray := prog_3_method_1_code
def yX1_init : MethodName := ⟨RX1, "<init>", "(LFirstAwake$Valley;)V"⟩
abbrev cX1_beginAnew : ByteArray := prog_3_method_2_code
def yX1_beginAnew : MethodName := ⟨RX1, "beginAnew", "()V"⟩
abbrev cX1_copyFrom : ByteArray := prog_3_method_3_code
def yX1_copyFrom : MethodName := ⟨RX1, "copyFrom", "(LFirstAwake$Night;)V"⟩
abbrev cX1_isNoisy : ByteArray := prog_3_method_4_code
def yX1_isNoisy : MethodName := ⟨RX1, "isNoisy", "()Z"⟩
abbrev cX1_makeNoise : ByteArray := prog_3_method_5_code
def yX1_makeNoise : MethodName := ⟨RX1, "makeNoise", "(III)V"⟩
abbrev cX1_shiftOne : ByteArray := prog_3_method_6_code
def yX1_shiftOne : MethodName := ⟨RX1, "shiftOne", "(II)V"⟩
abbrev cX1_shiftHouse : ByteArray := prog_3_method_7_code
def yX1_shiftHouse : MethodName := ⟨RX1, "shiftHouse", "(II)Z"⟩
abbrev cX1_layOut : ByteArray := prog_3_method_8_code
def yX1_layOut : MethodName := ⟨RX1, "layOut", "(I)V"⟩
abbrev cX1_heard : ByteArray := prog_3_method_9_code
def yX1_heard : MethodName := ⟨RX1, "heard", "(II)I"⟩
abbrev cX1_minuteAt : ByteArray := prog_3_method_10_code
def yX1_minuteAt : MethodName := ⟨RX1, "minuteAt", "(II)I"⟩
abbrev cX1_firstMinute : ByteArray := prog_3_method_11_code
def yX1_firstMinute : MethodName := ⟨RX1, "firstMinute", "(I)I"⟩
abbrev cX1_lastMinute : ByteArray := prog_3_method_12_code
def yX1_lastMinute : MethodName := ⟨RX1, "lastMinute", "(I)I"⟩
abbrev cX1_oddsOfHouses : ByteArray := prog_3_method_13_code
def yX1_oddsOfHouses : MethodName := ⟨RX1, "oddsOfHouses", "(I)I"⟩
abbrev cX1_oddsOf : ByteArray := prog_3_method_14_code
def yX1_oddsOf : MethodName := ⟨RX1, "oddsOf", "(I)I"⟩
abbrev cX1_letting : ByteArray := prog_3_method_15_code
def yX1_letting : MethodName := ⟨RX1, "letting", "(III)I"⟩
abbrev cX1_mayRuleAt : ByteArray := prog_3_method_16_code
def yX1_mayRuleAt : MethodName := ⟨RX1, "mayRuleAt", "(II)Z"⟩
def RX2 : String := "FirstAwake$Planner"
def TX2 : u_T := fun k => match k with
  | 0 => ("FirstAwake$Planner", "valley", "LFirstAwake$Valley;", true)
  | 1 => ("FirstAwake$Planner", "plan", "LFirstAwake$Night;", true)
  | 2 => ("FirstAwake$Planner", "trial", "LFirstAwake$Night;", true)
  | 3 => ("FirstAwake$Planner", "codes", "[I", true)
  | 4 => ("FirstAwake$Planner", "bestShift", "I", false)
  | 5 => ("FirstAwake$Planner", "bestLoudness", "I", false)
  | _ => ("FirstAwake$Planner", "bestOdds", "I", false)
def tyX2 : Nat → FieldType := fun k => match k with
  | 0 => .object "FirstAwake$Valley"
  | 1 => .object "FirstAwake$Night"
  | 2 => .object "FirstAwake$Night"
  | 3 => .array .int
  | 4 => .int
  | 5 => .int
  | _ => .int
abbrev wsX20 : List Cond := u_ws RX2 TX2 7
theorem nmX2 : ∀ a, a < 7 → ∀ b, b < 7 → a ≠ b → (TX2 a).2.1 ≠ (TX2 b).2.1 := by decide +kernel
theorem tyX2_ok : ∀ k, k < 7 → parseFieldDescriptor (TX2 k).2.2.1 = some (tyX2 k) := by decide +kernel
abbrev cX2_init : ByteArray := prog_4_method_1_code
def yX2_init : MethodName := ⟨RX2, "<init>", "(LFirstAwake$Valley;)V"⟩
abbrev cX2_seekShift : ByteArray := prog_4_method_2_code
def yX2_seekShift : MethodName := ⟨RX2, "seekShift", "(LFirstAwake$Night;I)V"⟩
abbrev cX2_seekNoise : ByteArray := prog_4_method_3_code
def yX2_seekNoise : MethodName := ⟨RX2, "seekNoise", "(LFirstAwake$Night;I)V"⟩
abbrev cX2_settle : ByteArray := prog_4_method_4_code
def yX2_settle : MethodName := ⟨RX2, "settle", "(LFirstAwake$Night;)I"⟩
abbrev cX2_playRound : ByteArray := prog_4_method_5_code
def yX2_playRound : MethodName := ⟨RX2, "playRound", "()Z"⟩
abbrev cX2_codeOfPlan : ByteArray := prog_4_method_6_code
def yX2_codeOfPlan : MethodName := ⟨RX2, "codeOfPlan", "()I"⟩
abbrev cX2_wasThere : ByteArray := prog_4_method_7_code
def yX2_wasThere : MethodName := ⟨RX2, "wasThere", "(I)Z"⟩
abbrev cX2_settledShift : ByteArray := prog_4_method_8_code
def yX2_settledShift : MethodName := ⟨RX2, "settledShift", "(I)I"⟩
def RX3 : String := "FirstAwake$Prospect"
def TX3 : u_T := fun k => match k with
  | 0 => ("FirstAwake$Prospect", "parts", "[J", true)
  | 1 => ("FirstAwake$Prospect", "need", "I", false)
  | 2 => ("FirstAwake$Prospect", "dayOdds", "J", false)
  | _ => ("FirstAwake$Prospect", "done", "J", false)
def tyX3 : Nat → FieldType := fun k => match k with
  | 0 => .array .long
  | 1 => .int
  | 2 => .long
  | _ => .long
abbrev wsX30 : List Cond := u_ws RX3 TX3 4
theorem nmX3 : ∀ a, a < 4 → ∀ b, b < 4 → a ≠ b → (TX3 a).2.1 ≠ (TX3 b).2.1 := by decide +kernel
theorem tyX3_ok : ∀ k, k < 4 → parseFieldDescriptor (TX3 k).2.2.1 = some (tyX3 k) := by decide +kernel
abbrev cX3_init : ByteArray := prog_5_method_1_code
def yX3_init : MethodName := ⟨RX3, "<init>", "()V"⟩
abbrev cX3_begin : ByteArray := prog_5_method_2_code
def yX3_begin : MethodName := ⟨RX3, "begin", "(III)V"⟩
abbrev cX3_goOnADay : ByteArray := prog_5_method_3_code
def yX3_goOnADay : MethodName := ⟨RX3, "goOnADay", "()V"⟩
def RX4 : String := "FirstAwake$Reader"
def TX4 : u_T := fun k => match k with
  | 0 => ("FirstAwake$Reader", "text", "[B", true)
  | 1 => ("FirstAwake$Reader", "length", "I", false)
  | 2 => ("FirstAwake$Reader", "draft", "LFirstAwake$Valley;", true)
  | 3 => ("FirstAwake$Reader", "at", "I", false)
  | 4 => ("FirstAwake$Reader", "faultNumber", "I", false)
  | _ => ("FirstAwake$Reader", "faultByte", "I", false)
def tyX4 : Nat → FieldType := fun k => match k with
  | 0 => .array .byte
  | 1 => .int
  | 2 => .object "FirstAwake$Valley"
  | 3 => .int
  | 4 => .int
  | _ => .int
abbrev wsX40 : List Cond := u_ws RX4 TX4 6
theorem nmX4 : ∀ a, a < 6 → ∀ b, b < 6 → a ≠ b → (TX4 a).2.1 ≠ (TX4 b).2.1 := by decide +kernel
theorem tyX4_ok : ∀ k, k < 6 → parseFieldDescriptor (TX4 k).2.2.1 = some (tyX4 k) := by decide +kernel
abbrev cX4_init : ByteArray := prog_6_method_1_code
def yX4_init : MethodName := ⟨RX4, "<init>", "()V"⟩
abbrev cX4_append : ByteArray := prog_6_method_2_code
def yX4_append : MethodName := ⟨RX4, "append", "(IJ)Z"⟩
abbrev cX4_readAll : ByteArray := prog_6_method_3_code
def yX4_readAll : MethodName := ⟨RX4, "readAll", "()I"⟩
abbrev cX4_readClause : ByteArray := prog_6_method_4_code
def yX4_readClause : MethodName := ⟨RX4, "readClause", "()V"⟩
abbrev cX4_isWord : ByteArray := prog_6_method_5_code
def yX4_isWord : MethodName := ⟨RX4, "isWord", "(ILjava/lang/String;)Z"⟩
abbrev cX4_readHouse : ByteArray := prog_6_method_6_code
def yX4_readHouse : MethodName := ⟨RX4, "readHouse", "(I)V"⟩
abbrev cX4_readSleeper : ByteArray := prog_6_method_7_code
def yX4_readSleeper : MethodName := ⟨RX4, "readSleeper", "(I)V"⟩
abbrev cX4_readNumber : ByteArray := prog_6_method_8_code
def yX4_readNumber : MethodName := ⟨RX4, "readNumber", "(II)I"⟩
abbrev cX4_readEnd : ByteArray := prog_6_method_9_code
def yX4_readEnd : MethodName := ⟨RX4, "readEnd", "()V"⟩
abbrev cX4_skipBlanks : ByteArray := prog_6_method_10_code
def yX4_skipBlanks : MethodName := ⟨RX4, "skipBlanks", "()V"⟩
abbrev cX4_note : ByteArray := prog_6_method_11_code
def yX4_note : MethodName := ⟨RX4, "note", "(II)V"⟩
def RX5 : String := "FirstAwake$Valley"
def TX5 : u_T := fun k => match k with
  | 0 => ("FirstAwake$Valley", "houses", "I", false)
  | 1 => ("FirstAwake$Valley", "need", "[I", true)
  | 2 => ("FirstAwake$Valley", "worth", "[I", true)
  | 3 => ("FirstAwake$Valley", "bed", "[I", true)
  | 4 => ("FirstAwake$Valley", "sleepers", "I", false)
  | 5 => ("FirstAwake$Valley", "home", "[I", true)
  | 6 => ("FirstAwake$Valley", "wake", "[I", true)
  | 7 => ("FirstAwake$Valley", "span", "[I", true)
  | _ => ("FirstAwake$Valley", "light", "[I", true)
def tyX5 : Nat → FieldType := fun k => match k with
  | 0 => .int
  | 1 => .array .int
  | 2 => .array .int
  | 3 => .array .int
  | 4 => .int
  | 5 => .array .int
  | 6 => .array .int
  | 7 => .array .int
  | _ => .array .int
abbrev wsX50 : List Cond := u_ws RX5 TX5 9
theorem nmX5 : ∀ a, a < 9 → ∀ b, b < 9 → a ≠ b → (TX5 a).2.1 ≠ (TX5 b).2.1 := by decide +kernel
theorem tyX5_ok : ∀ k, k < 9 → parseFieldDescriptor (TX5 k).2.2.1 = some (tyX5 k) := by decide +kernel
abbrev cX5_init : ByteArray := prog_7_method_1_code
def yX5_init : MethodName := ⟨RX5, "<init>", "()V"⟩
abbrev cX5_hasHouse : ByteArray := prog_7_method_2_code
def yX5_hasHouse : MethodName := ⟨RX5, "hasHouse", "(I)Z"⟩
abbrev cX5_hasSleeper : ByteArray := prog_7_method_3_code
def yX5_hasSleeper : MethodName := ⟨RX5, "hasSleeper", "(I)Z"⟩
abbrev cX5_sleepersOf : ByteArray := prog_7_method_4_code
def yX5_sleepersOf : MethodName := ⟨RX5, "sleepersOf", "(I)I"⟩
abbrev cX5_copyFrom : ByteArray := prog_7_method_5_code
def yX5_copyFrom : MethodName := ⟨RX5, "copyFrom", "(LFirstAwake$Valley;)V"⟩
def RX6 : String := "FirstAwake$Words"
def TX6 : u_T := fun k => match k with
  | 0 => ("FirstAwake$Words", "count", "I", false)
  | 1 => ("FirstAwake$Words", "who", "[I", true)
  | 2 => ("FirstAwake$Words", "minutes", "[I", true)
  | _ => ("FirstAwake$Words", "trial", "LFirstAwake$Night;", true)
def tyX6 : Nat → FieldType := fun k => match k with
  | 0 => .int
  | 1 => .array .int
  | 2 => .array .int
  | _ => .object "FirstAwake$Night"
abbrev wsX60 : List Cond := u_ws RX6 TX6 4
theorem nmX6 : ∀ a, a < 4 → ∀ b, b < 4 → a ≠ b → (TX6 a).2.1 ≠ (TX6 b).2.1 := by decide +kernel
theorem tyX6_ok : ∀ k, k < 4 → parseFieldDescriptor (TX6 k).2.2.1 = some (tyX6 k) := by decide +kernel
abbrev cX6_init : ByteArray := prog_8_method_1_code
def yX6_init : MethodName := ⟨RX6, "<init>", "(LFirstAwake$Valley;)V"⟩
abbrev cX6_add : ByteArray := prog_8_method_2_code
def yX6_add : MethodName := ⟨RX6, "add", "(II)Z"⟩
abbrev cX6_firstLie : ByteArray := prog_8_method_3_code
def yX6_firstLie : MethodName := ⟨RX6, "firstLie", "(LFirstAwake$Night;)I"⟩
abbrev cX6_fitting : ByteArray := prog_8_method_4_code
def yX6_fitting : MethodName := ⟨RX6, "fitting", "(LFirstAwake$Night;II)I"⟩
abbrev cX6_allTrueOf : ByteArray := prog_8_method_5_code
def yX6_allTrueOf : MethodName := ⟨RX6, "allTrueOf", "(I)Z"⟩
def RX7 : String := "FirstAwake"
def TX7 : u_T := fun k => match k with
  | 0 => ("FirstAwake", "reader", "LFirstAwake$Reader;", true)
  | 1 => ("FirstAwake", "valley", "LFirstAwake$Valley;", true)
  | 2 => ("FirstAwake", "now", "LFirstAwake$Course;", true)
  | 3 => ("FirstAwake", "firstImage", "LFirstAwake$Course;", true)
  | 4 => ("FirstAwake", "secondImage", "LFirstAwake$Course;", true)
  | 5 => ("FirstAwake", "imagesKept", "I", false)
  | 6 => ("FirstAwake", "words", "LFirstAwake$Words;", true)
  | 7 => ("FirstAwake", "planner", "LFirstAwake$Planner;", true)
  | _ => ("FirstAwake", "prospect", "LFirstAwake$Prospect;", true)
def tyX7 : Nat → FieldType := fun k => match k with
  | 0 => .object "FirstAwake$Reader"
  | 1 => .object "FirstAwake$Valley"
  | 2 => .object "FirstAwake$Course"
  | 3 => .object "FirstAwake$Course"
  | 4 => .object "FirstAwake$Course"
  | 5 => .int
  | 6 => .object "FirstAwake$Words"
  | 7 => .object "FirstAwake$Planner"
  | _ => .object "FirstAwake$Prospect"
abbrev wsX70 : List Cond := u_ws RX7 TX7 9
theorem nmX7 : ∀ a, a < 9 → ∀ b, b < 9 → a ≠ b → (TX7 a).2.1 ≠ (TX7 b).2.1 := by decide +kernel
theorem tyX7_ok : ∀ k, k < 9 → parseFieldDescriptor (TX7 k).2.2.1 = some (tyX7 k) := by decide +kernel
abbrev cX7_init : ByteArray := prog_1_method_1_code
def yX7_init : MethodName := ⟨RX7, "<init>", "()V"⟩
abbrev cX7_feed : ByteArray := prog_1_method_2_code
def yX7_feed : MethodName := ⟨RX7, "feed", "(IJ)I"⟩
abbrev cX7_valley : ByteArray := prog_1_method_3_code
def yX7_valley : MethodName := ⟨RX7, "valley", "()I"⟩
abbrev cX7_fault : ByteArray := prog_1_method_4_code
def yX7_fault : MethodName := ⟨RX7, "fault", "()I"⟩
abbrev cX7_told : ByteArray := prog_1_method_5_code
def yX7_told : MethodName := ⟨RX7, "told", "(I)I"⟩
abbrev cX7_house : ByteArray := prog_1_method_6_code
def yX7_house : MethodName := ⟨RX7, "house", "(II)I"⟩
abbrev cX7_sleeper : ByteArray := prog_1_method_7_code
def yX7_sleeper : MethodName := ⟨RX7, "sleeper", "(II)I"⟩
abbrev cX7_shift : ByteArray := prog_1_method_8_code
def yX7_shift : MethodName := ⟨RX7, "shift", "(II)I"⟩
abbrev cX7_noise : ByteArray := prog_1_method_9_code
def yX7_noise : MethodName := ⟨RX7, "noise", "(III)I"⟩
abbrev cX7_hush : ByteArray := prog_1_method_10_code
def yX7_hush : MethodName := ⟨RX7, "hush", "()I"⟩
abbrev cX7_law : ByteArray := prog_1_method_11_code
def yX7_law : MethodName := ⟨RX7, "law", "(I)I"⟩
abbrev cX7_dawn : ByteArray := prog_1_method_12_code
def yX7_dawn : MethodName := ⟨RX7, "dawn", "(I)I"⟩
abbrev cX7_ruler : ByteArray := prog_1_method_13_code
def yX7_ruler : MethodName := ⟨RX7, "ruler", "(II)I"⟩
abbrev cX7_odds : ByteArray := prog_1_method_14_code
def yX7_odds : MethodName := ⟨RX7, "odds", "(I)I"⟩
abbrev cX7_together : ByteArray := prog_1_method_15_code
def yX7_together : MethodName := ⟨RX7, "together", "(I)I"⟩
abbrev cX7_best : ByteArray := prog_1_method_16_code
def yX7_best : MethodName := ⟨RX7, "best", "(II)I"⟩
abbrev cX7_rests : ByteArray := prog_1_method_17_code
def yX7_rests : MethodName := ⟨RX7, "rests", "(I)I"⟩
abbrev cX7_loud : ByteArray := prog_1_method_18_code
def yX7_loud : MethodName := ⟨RX7, "loud", "(II)I"⟩
abbrev cX7_work : ByteArray := prog_1_method_19_code
def yX7_work : MethodName := ⟨RX7, "work", "(II)I"⟩
abbrev cX7_likely : ByteArray := prog_1_method_20_code
def yX7_likely : MethodName := ⟨RX7, "likely", "(II)I"⟩
abbrev cX7_lookAhead : ByteArray := prog_1_method_21_code
def yX7_lookAhead : MethodName := ⟨RX7, "lookAhead", "(I)V"⟩
abbrev cX7_tell : ByteArray := prog_1_method_22_code
def yX7_tell : MethodName := ⟨RX7, "tell", "(II)I"⟩
abbrev cX7_forget : ByteArray := prog_1_method_23_code
def yX7_forget : MethodName := ⟨RX7, "forget", "()I"⟩
abbrev cX7_lies : ByteArray := prog_1_method_24_code
def yX7_lies : MethodName := ⟨RX7, "lies", "()I"⟩
abbrev cX7_fits : ByteArray := prog_1_method_25_code
def yX7_fits : MethodName := ⟨RX7, "fits", "(II)I"⟩
abbrev cX7_seed : ByteArray := prog_1_method_26_code
def yX7_seed : MethodName := ⟨RX7, "seed", "(I)I"⟩
abbrev cX7_keep : ByteArray := prog_1_method_27_code
def yX7_keep : MethodName := ⟨RX7, "keep", "(I)I"⟩
abbrev cX7_goBack : ByteArray := prog_1_method_28_code
def yX7_goBack : MethodName := ⟨RX7, "goBack", "(I)I"⟩
abbrev cX7_imageAt : ByteArray := prog_1_method_29_code
def yX7_imageAt : MethodName := ⟨RX7, "imageAt", "(I)LFirstAwake$Course;"⟩
def RX8 : String := "FirstAwakeModel"
def TX8 : u_T := fun k => match k with
  | 0 => ("FirstAwakeModel", "houses", "I", false)
  | 1 => ("FirstAwakeModel", "days", "[I", true)
  | 2 => ("FirstAwakeModel", "worth", "[I", true)
  | 3 => ("FirstAwakeModel", "bed", "[I", true)
  | 4 => ("FirstAwakeModel", "sleepers", "I", false)
  | 5 => ("FirstAwakeModel", "homeOf", "[I", true)
  | 6 => ("FirstAwakeModel", "wakes", "[I", true)
  | 7 => ("FirstAwakeModel", "span", "[I", true)
  | 8 => ("FirstAwakeModel", "light", "[I", true)
  | 9 => ("FirstAwakeModel", "shifted", "[I", true)
  | 10 => ("FirstAwakeModel", "noiseAt", "I", false)
  | 11 => ("FirstAwakeModel", "noiseLoud", "I", false)
  | 12 => ("FirstAwakeModel", "noiseFrom", "I", false)
  | 13 => ("FirstAwakeModel", "law", "I", false)
  | 14 => ("FirstAwakeModel", "day", "I", false)
  | 15 => ("FirstAwakeModel", "onEnd", "[I", true)
  | 16 => ("FirstAwakeModel", "doneMany", "[I", true)
  | 17 => ("FirstAwakeModel", "had", "I", false)
  | 18 => ("FirstAwakeModel", "kept", "I", false)
  | 19 => ("FirstAwakeModel", "keptWho", "[I", true)
  | 20 => ("FirstAwakeModel", "keptWhen", "[I", true)
  | 21 => ("FirstAwakeModel", "seed", "I", false)
  | 22 => ("FirstAwakeModel", "text", "[I", true)
  | 23 => ("FirstAwakeModel", "texted", "I", false)
  | 24 => ("FirstAwakeModel", "faultPlace", "I", false)
  | 25 => ("FirstAwakeModel", "at0", "I", false)
  | 26 => ("FirstAwakeModel", "said", "J", false)
  | 27 => ("FirstAwakeModel", "wordEnd", "I", false)
  | 28 => ("FirstAwakeModel", "number", "I", false)
  | 29 => ("FirstAwakeModel", "numberAt", "I", false)
  | 30 => ("FirstAwakeModel", "readHouses", "I", false)
  | 31 => ("FirstAwakeModel", "readDays", "[I", true)
  | 32 => ("FirstAwakeModel", "readWorth", "[I", true)
  | 33 => ("FirstAwakeModel", "readBed", "[I", true)
  | 34 => ("FirstAwakeModel", "readSleepers", "I", false)
  | 35 => ("FirstAwakeModel", "readHome", "[I", true)
  | 36 => ("FirstAwakeModel", "readWakes", "[I", true)
  | 37 => ("FirstAwakeModel", "readSpan", "[I", true)
  | 38 => ("FirstAwakeModel", "readLight", "[I", true)
  | 39 => ("FirstAwakeModel", "minutes", "[I", true)
  | 40 => ("FirstAwakeModel", "wasShifted", "[I", true)
  | 41 => ("FirstAwakeModel", "bestOdds", "I", false)
  | 42 => ("FirstAwakeModel", "atFirst", "[I", true)
  | 43 => ("FirstAwakeModel", "parts", "[J", true)
  | 44 => ("FirstAwakeModel", "tolds", "I", false)
  | 45 => ("FirstAwakeModel", "toldWho", "[I", true)
  | 46 => ("FirstAwakeModel", "toldWhen", "[I", true)
  | 47 => ("FirstAwakeModel", "images", "[I", true)
  | _ => ("FirstAwakeModel", "isKept", "[Z", true)
def tyX8 : Nat → FieldType := fun k => match k with
  | 0 => .int
  | 1 => .array .int
  | 2 => .array .int
  | 3 => .array .int
  | 4 => .int
  | 5 => .array .int
  | 6 => .array .int
  | 7 => .array .int
  | 8 => .array .int
  | 9 => .array .int
  | 10 => .int
  | 11 => .int
  | 12 => .int
  | 13 => .int
  | 14 => .int
  | 15 => .array .int
  | 16 => .array .int
  | 17 => .int
  | 18 => .int
  | 19 => .array .int
  | 20 => .array .int
  | 21 => .int
  | 22 => .array .int
  | 23 => .int
  | 24 => .int
  | 25 => .int
  | 26 => .long
  | 27 => .int
  | 28 => .int
  | 29 => .int
  | 30 => .int
  | 31 => .array .int
  | 32 => .array .int
  | 33 => .array .int
  | 34 => .int
  | 35 => .array .int
  | 36 => .array .int
  | 37 => .array .int
  | 38 => .array .int
  | 39 => .array .int
  | 40 => .array .int
  | 41 => .int
  | 42 => .array .int
  | 43 => .array .long
  | 44 => .int
  | 45 => .array .int
  | 46 => .array .int
  | 47 => .array .int
  | _ => .array .boolean
abbrev wsX80 : List Cond := u_ws RX8 TX8 49
theorem nmX8 : ∀ a, a < 49 → ∀ b, b < 49 → a ≠ b → (TX8 a).2.1 ≠ (TX8 b).2.1 := by decide +kernel
theorem tyX8_ok : ∀ k, k < 49 → parseFieldDescriptor (TX8 k).2.2.1 = some (tyX8 k) := by decide +kernel
abbrev cX8_init : ByteArray := prog_10_method_1_code
def yX8_init : MethodName := ⟨RX8, "<init>", "()V"⟩
abbrev cX8_in : ByteArray := prog_10_method_3_code
def yX8_in : MethodName := ⟨RX8, "in", "(JJJ)Z"⟩
abbrev cX8_has : ByteArray := prog_10_method_4_code
def yX8_has : MethodName := ⟨RX8, "has", "(II)Z"⟩
abbrev cX8_isHouse : ByteArray := prog_10_method_5_code
def yX8_isHouse : MethodName := ⟨RX8, "isHouse", "(I)Z"⟩
abbrev cX8_isSleeper : ByteArray := prog_10_method_6_code
def yX8_isSleeper : MethodName := ⟨RX8, "isSleeper", "(I)Z"⟩
abbrev cX8_begin : ByteArray := prog_10_method_7_code
def yX8_begin : MethodName := ⟨RX8, "begin", "()V"⟩
abbrev cX8_feed : ByteArray := prog_10_method_8_code
def yX8_feed : MethodName := ⟨RX8, "feed", "(IJ)I"⟩
abbrev cX8_here : ByteArray := prog_10_method_9_code
def yX8_here : MethodName := ⟨RX8, "here", "()I"⟩
abbrev cX8_fails : ByteArray := prog_10_method_10_code
def yX8_fails : MethodName := ⟨RX8, "fails", "(II)I"⟩
abbrev cX8_readWord : ByteArray := prog_10_method_11_code
def yX8_readWord : MethodName := ⟨RX8, "readWord", "()V"⟩
abbrev cX8_code : ByteArray := prog_10_method_12_code
def yX8_code : MethodName := ⟨RX8, "code", "(III)J"⟩
abbrev cX8_longer : ByteArray := prog_10_method_13_code
def yX8_longer : MethodName := ⟨RX8, "longer", "(JII)J"⟩
abbrev cX8_takeNumber : ByteArray := prog_10_method_14_code
def yX8_takeNumber : MethodName := ⟨RX8, "takeNumber", "(II)I"⟩
abbrev cX8_into : ByteArray := prog_10_method_15_code
def yX8_into : MethodName := ⟨RX8, "into", "([IIII)I"⟩
abbrev cX8_takeHouse : ByteArray := prog_10_method_16_code
def yX8_takeHouse : MethodName := ⟨RX8, "takeHouse", "()I"⟩
abbrev cX8_takeSleeper : ByteArray := prog_10_method_17_code
def yX8_takeSleeper : MethodName := ⟨RX8, "takeSleeper", "()I"⟩
abbrev cX8_takeClause : ByteArray := prog_10_method_18_code
def yX8_takeClause : MethodName := ⟨RX8, "takeClause", "()I"⟩
abbrev cX8_valley : ByteArray := prog_10_method_19_code
def yX8_valley : MethodName := ⟨RX8, "valley", "()I"⟩
abbrev cX8_fault : ByteArray := prog_10_method_20_code
def yX8_fault : MethodName := ⟨RX8, "fault", "()I"⟩
abbrev cX8_told : ByteArray := prog_10_method_21_code
def yX8_told : MethodName := ⟨RX8, "told", "(I)I"⟩
abbrev cX8_sleepersOf : ByteArray := prog_10_method_22_code
def yX8_sleepersOf : MethodName := ⟨RX8, "sleepersOf", "(I)I"⟩
abbrev cX8_house : ByteArray := prog_10_method_23_code
def yX8_house : MethodName := ⟨RX8, "house", "(II)I"⟩
abbrev cX8_isStartled : ByteArray := prog_10_method_24_code
def yX8_isStartled : MethodName := ⟨RX8, "isStartled", "(I)Z"⟩
abbrev cX8_heard : ByteArray := prog_10_method_25_code
def yX8_heard : MethodName := ⟨RX8, "heard", "(II)I"⟩
abbrev cX8_firstOf : ByteArray := prog_10_method_26_code
def yX8_firstOf : MethodName := ⟨RX8, "firstOf", "(I)I"⟩
abbrev cX8_lastOf : ByteArray := prog_10_method_27_code
def yX8_lastOf : MethodName := ⟨RX8, "lastOf", "(I)I"⟩
abbrev cX8_sleeper : ByteArray := prog_10_method_28_code
def yX8_sleeper : MethodName := ⟨RX8, "sleeper", "(II)I"⟩
abbrev cX8_shift : ByteArray := prog_10_method_29_code
def yX8_shift : MethodName := ⟨RX8, "shift", "(II)I"⟩
abbrev cX8_setNoise : ByteArray := prog_10_method_30_code
def yX8_setNoise : MethodName := ⟨RX8, "setNoise", "(III)V"⟩
abbrev cX8_noise : ByteArray := prog_10_method_31_code
def yX8_noise : MethodName := ⟨RX8, "noise", "(III)I"⟩
abbrev cX8_hush : ByteArray := prog_10_method_32_code
def yX8_hush : MethodName := ⟨RX8, "hush", "()I"⟩
abbrev cX8_law : ByteArray := prog_10_method_33_code
def yX8_law : MethodName := ⟨RX8, "law", "(I)I"⟩
abbrev cX8_draw : ByteArray := prog_10_method_34_code
def yX8_draw : MethodName := ⟨RX8, "draw", "(I)I"⟩
abbrev cX8_dawnNow : ByteArray := prog_10_method_35_code
def yX8_dawnNow : MethodName := ⟨RX8, "dawnNow", "()I"⟩
abbrev cX8_dawn : ByteArray := prog_10_method_36_code
def yX8_dawn : MethodName := ⟨RX8, "dawn", "(I)I"⟩
abbrev cX8_ruler : ByteArray := prog_10_method_37_code
def yX8_ruler : MethodName := ⟨RX8, "ruler", "(II)I"⟩
abbrev cX8_laterRaw : ByteArray := prog_10_method_38_code
def yX8_laterRaw : MethodName := ⟨RX8, "laterRaw", "(II)I"⟩
abbrev cX8_later : ByteArray := prog_10_method_39_code
def yX8_later : MethodName := ⟨RX8, "later", "(II)I"⟩
abbrev cX8_lets : ByteArray := prog_10_method_40_code
def yX8_lets : MethodName := ⟨RX8, "lets", "(III)I"⟩
abbrev cX8_oddsOf : ByteArray := prog_10_method_41_code
def yX8_oddsOf : MethodName := ⟨RX8, "oddsOf", "(I)I"⟩
abbrev cX8_odds : ByteArray := prog_10_method_42_code
def yX8_odds : MethodName := ⟨RX8, "odds", "(I)I"⟩
abbrev cX8_oddsOfHouses : ByteArray := prog_10_method_43_code
def yX8_oddsOfHouses : MethodName := ⟨RX8, "oddsOfHouses", "(I)I"⟩
abbrev cX8_together : ByteArray := prog_10_method_44_code
def yX8_together : MethodName := ⟨RX8, "together", "(I)I"⟩
abbrev cX8_shiftHouse : ByteArray := prog_10_method_45_code
def yX8_shiftHouse : MethodName := ⟨RX8, "shiftHouse", "(II)V"⟩
abbrev cX8_bestShift : ByteArray := prog_10_method_46_code
def yX8_bestShift : MethodName := ⟨RX8, "bestShift", "(I)I"⟩
abbrev cX8_best : ByteArray := prog_10_method_47_code
def yX8_best : MethodName := ⟨RX8, "best", "(II)I"⟩
abbrev cX8_roundChanges : ByteArray := prog_10_method_48_code
def yX8_roundChanges : MethodName := ⟨RX8, "roundChanges", "()Z"⟩
abbrev cX8_leastOf : ByteArray := prog_10_method_49_code
def yX8_leastOf : MethodName := ⟨RX8, "leastOf", "(I)I"⟩
abbrev cX8_rests : ByteArray := prog_10_method_50_code
def yX8_rests : MethodName := ⟨RX8, "rests", "(I)I"⟩
abbrev cX8_loud : ByteArray := prog_10_method_51_code
def yX8_loud : MethodName := ⟨RX8, "loud", "(II)I"⟩
abbrev cX8_startWork : ByteArray := prog_10_method_52_code
def yX8_startWork : MethodName := ⟨RX8, "startWork", "(I)V"⟩
abbrev cX8_workDay : ByteArray := prog_10_method_53_code
def yX8_workDay : MethodName := ⟨RX8, "workDay", "(IJ)V"⟩
abbrev cX8_work : ByteArray := prog_10_method_54_code
def yX8_work : MethodName := ⟨RX8, "work", "(II)I"⟩
abbrev cX8_likely : ByteArray := prog_10_method_55_code
def yX8_likely : MethodName := ⟨RX8, "likely", "(II)I"⟩
abbrev cX8_tell : ByteArray := prog_10_method_56_code
def yX8_tell : MethodName := ⟨RX8, "tell", "(II)I"⟩
abbrev cX8_forget : ByteArray := prog_10_method_57_code
def yX8_forget : MethodName := ⟨RX8, "forget", "()I"⟩
abbrev cX8_isLie : ByteArray := prog_10_method_58_code
def yX8_isLie : MethodName := ⟨RX8, "isLie", "(I)Z"⟩
abbrev cX8_lies : ByteArray := prog_10_method_59_code
def yX8_lies : MethodName := ⟨RX8, "lies", "()I"⟩
abbrev cX8_isHonest : ByteArray := prog_10_method_60_code
def yX8_isHonest : MethodName := ⟨RX8, "isHonest", "(I)Z"⟩
abbrev cX8_fits : ByteArray := prog_10_method_61_code
def yX8_fits : MethodName := ⟨RX8, "fits", "(II)I"⟩
abbrev cX8_seed : ByteArray := prog_10_method_62_code
def yX8_seed : MethodName := ⟨RX8, "seed", "(I)I"⟩
abbrev cX8_keep : ByteArray := prog_10_method_63_code
def yX8_keep : MethodName := ⟨RX8, "keep", "(I)I"⟩
abbrev cX8_goBack : ByteArray := prog_10_method_64_code
def yX8_goBack : MethodName := ⟨RX8, "goBack", "(I)I"⟩
def RJx145de : String := "java/io/Serializable"
def TJx145de : u_T := fun k => match k with
  | _ => ("", "", "", false)
def tyJx145de : Nat → FieldType := fun k => match k with
  | _ => .int
abbrev wsJx145de0 : List Cond := u_ws RJx145de TJx145de 0
theorem nmJx145de : ∀ a, a < 0 → ∀ b, b < 0 → a ≠ b → (TJx145de a).2.1 ≠ (TJx145de b).2.1 := by decide +kernel
theorem tyJx145de_ok : ∀ k, k < 0 → parseFieldDescriptor (TJx145de k).2.2.1 = some (tyJx145de k) := by decide +kernel
def RJx9f9b0 : String := "java/lang/CharSequence"
def TJx9f9b0 : u_T := fun k => match k with
  | _ => ("", "", "", false)
def tyJx9f9b0 : Nat → FieldType := fun k => match k with
  | _ => .int
abbrev wsJx9f9b00 : List Cond := u_ws RJx9f9b0 TJx9f9b0 0
theorem nmJx9f9b0 : ∀ a, a < 0 → ∀ b, b < 0 → a ≠ b → (TJx9f9b0 a).2.1 ≠ (TJx9f9b0 b).2.1 := by decide +kernel
theorem tyJx9f9b0_ok : ∀ k, k < 0 → parseFieldDescriptor (TJx9f9b0 k).2.2.1 = some (tyJx9f9b0 k) := by decide +kernel
def RJxb160c : String := "java/lang/Comparable"
def TJxb160c : u_T := fun k => match k with
  | _ => ("", "", "", false)
def tyJxb160c : Nat → FieldType := fun k => match k with
  | _ => .int
abbrev wsJxb160c0 : List Cond := u_ws RJxb160c TJxb160c 0
theorem nmJxb160c : ∀ a, a < 0 → ∀ b, b < 0 → a ≠ b → (TJxb160c a).2.1 ≠ (TJxb160c b).2.1 := by decide +kernel
theorem tyJxb160c_ok : ∀ k, k < 0 → parseFieldDescriptor (TJxb160c k).2.2.1 = some (tyJxb160c k) := by decide +kernel
def RJ0 : String := "java/lang/String"
def TJ0 : u_T := fun k => match k with
  | _ => ("", "", "", false)
def tyJ0 : Nat → FieldType := fun k => match k with
  | _ => .int
abbrev wsJ00 : List Cond := u_ws RJ0 TJ0 0
theorem nmJ0 : ∀ a, a < 0 → ∀ b, b < 0 → a ≠ b → (TJ0 a).2.1 ≠ (TJ0 b).2.1 := by decide +kernel
theorem tyJ0_ok : ∀ k, k < 0 → parseFieldDescriptor (TJ0 k).2.2.1 = some (tyJ0 k) := by decide +kernel
abbrev cJ0_length_8abf5 : ByteArray := prog_11_method_54_code
def yJ0_length_8abf5 : MethodName := ⟨RJ0, "length", "()I"⟩
abbrev cJ0_charAt_5068e : ByteArray := prog_11_method_56_code
def yJ0_charAt_5068e : MethodName := ⟨RJ0, "charAt", "(I)C"⟩
abbrev cJ0_coder_7d493 : ByteArray := prog_11_method_152_code
def yJ0_coder_7d493 : MethodName := ⟨RJ0, "coder", "()B"⟩
abbrev cJ0_isLatin1_aae02 : ByteArray := prog_11_method_154_code
def yJ0_isLatin1_aae02 : MethodName := ⟨RJ0, "isLatin1", "()Z"⟩
abbrev cJ0_checkIndex_df160 : ByteArray := prog_11_method_155_code
def yJ0_checkIndex_df160 : MethodName := ⟨RJ0, "checkIndex", "(II)V"⟩
def RJ1 : String := "java/lang/StringLatin1"
def TJ1 : u_T := fun k => match k with
  | _ => ("", "", "", false)
def tyJ1 : Nat → FieldType := fun k => match k with
  | _ => .int
abbrev wsJ10 : List Cond := u_ws RJ1 TJ1 0
theorem nmJ1 : ∀ a, a < 0 → ∀ b, b < 0 → a ≠ b → (TJ1 a).2.1 ≠ (TJ1 b).2.1 := by decide +kernel
theorem tyJ1_ok : ∀ k, k < 0 → parseFieldDescriptor (TJ1 k).2.2.1 = some (tyJ1 k) := by decide +kernel
abbrev cJ1_charAt_3b067 : ByteArray := prog_12_method_2_code
def yJ1_charAt_3b067 : MethodName := ⟨RJ1, "charAt", "([BI)C"⟩
def RJ2 : String := "java/lang/StringUTF16"
def TJ2 : u_T := fun k => match k with
  | _ => ("", "", "", false)
def tyJ2 : Nat → FieldType := fun k => match k with
  | _ => .int
abbrev wsJ20 : List Cond := u_ws RJ2 TJ2 0
theorem nmJ2 : ∀ a, a < 0 → ∀ b, b < 0 → a ≠ b → (TJ2 a).2.1 ≠ (TJ2 b).2.1 := by decide +kernel
theorem tyJ2_ok : ∀ k, k < 0 → parseFieldDescriptor (TJ2 k).2.2.1 = some (tyJ2 k) := by decide +kernel
abbrev cJ2_getChar_3b067 : ByteArray := prog_13_method_5_code
def yJ2_getChar_3b067 : MethodName := ⟨RJ2, "getChar", "([BI)C"⟩
abbrev cJ2_length_9d52b : ByteArray := prog_13_method_6_code
def yJ2_length_9d52b : MethodName := ⟨RJ2, "length", "([B)I"⟩
abbrev cJ2_charAt_3b067 : ByteArray := prog_13_method_83_code
def yJ2_charAt_3b067 : MethodName := ⟨RJ2, "charAt", "([BI)C"⟩
abbrev cJ2_checkIndex_2214a : ByteArray := prog_13_method_91_code
def yJ2_checkIndex_2214a : MethodName := ⟨RJ2, "checkIndex", "(I[B)V"⟩
def RJ10 : String := "java/lang/System"
def TJ10 : u_T := fun k => match k with
  | _ => ("", "", "", false)
def tyJ10 : Nat → FieldType := fun k => match k with
  | _ => .int
abbrev wsJ100 : List Cond := u_ws RJ10 TJ10 0
theorem nmJ10 : ∀ a, a < 0 → ∀ b, b < 0 → a ≠ b → (TJ10 a).2.1 ≠ (TJ10 b).2.1 := by decide +kernel
theorem tyJ10_ok : ∀ k, k < 0 → parseFieldDescriptor (TJ10 k).2.2.1 = some (tyJ10 k) := by decide +kernel
def RJxfd54e : String := "java/lang/constant/Constable"
def TJxfd54e : u_T := fun k => match k with
  | _ => ("", "", "", false)
def tyJxfd54e : Nat → FieldType := fun k => match k with
  | _ => .int
abbrev wsJxfd54e0 : List Cond := u_ws RJxfd54e TJxfd54e 0
theorem nmJxfd54e : ∀ a, a < 0 → ∀ b, b < 0 → a ≠ b → (TJxfd54e a).2.1 ≠ (TJxfd54e b).2.1 := by decide +kernel
theorem tyJxfd54e_ok : ∀ k, k < 0 → parseFieldDescriptor (TJxfd54e k).2.2.1 = some (tyJxfd54e k) := by decide +kernel
def RJx3cf43 : String := "java/lang/constant/ConstantDesc"
def TJx3cf43 : u_T := fun k => match k with
  | _ => ("", "", "", false)
def tyJx3cf43 : Nat → FieldType := fun k => match k with
  | _ => .int
abbrev wsJx3cf430 : List Cond := u_ws RJx3cf43 TJx3cf43 0
theorem nmJx3cf43 : ∀ a, a < 0 → ∀ b, b < 0 → a ≠ b → (TJx3cf43 a).2.1 ≠ (TJx3cf43 b).2.1 := by decide +kernel
theorem tyJx3cf43_ok : ∀ k, k < 0 → parseFieldDescriptor (TJx3cf43 k).2.2.1 = some (tyJx3cf43 k) := by decide +kernel
def RJ7 : String := "java/util/Arrays"
def TJ7 : u_T := fun k => match k with
  | _ => ("", "", "", false)
def tyJ7 : Nat → FieldType := fun k => match k with
  | _ => .int
abbrev wsJ70 : List Cond := u_ws RJ7 TJ7 0
theorem nmJ7 : ∀ a, a < 0 → ∀ b, b < 0 → a ≠ b → (TJ7 a).2.1 ≠ (TJ7 b).2.1 := by decide +kernel
theorem tyJ7_ok : ∀ k, k < 0 → parseFieldDescriptor (TJ7 k).2.2.1 = some (tyJ7 k) := by decide +kernel
abbrev cJ7_fill_d0a16 : ByteArray := prog_15_method_101_code
def yJ7_fill_d0a16 : MethodName := ⟨RJ7, "fill", "([JJ)V"⟩
abbrev cJ7_fill_53178 : ByteArray := prog_15_method_103_code
def yJ7_fill_53178 : MethodName := ⟨RJ7, "fill", "([II)V"⟩
def RJ3 : String := "jdk/internal/util/Preconditions"
def TJ3 : u_T := fun k => match k with
  | _ => ("", "", "", false)
def tyJ3 : Nat → FieldType := fun k => match k with
  | _ => .int
abbrev wsJ30 : List Cond := u_ws RJ3 TJ3 0
theorem nmJ3 : ∀ a, a < 0 → ∀ b, b < 0 → a ≠ b → (TJ3 a).2.1 ≠ (TJ3 b).2.1 := by decide +kernel
theorem tyJ3_ok : ∀ k, k < 0 → parseFieldDescriptor (TJ3 k).2.2.1 = some (tyJ3 k) := by decide +kernel
abbrev cJ3_checkIndex_8e157 : ByteArray := prog_16_method_11_code
def yJ3_checkIndex_8e157 : MethodName := ⟨RJ3, "checkIndex", "(IILjava/util/function/BiFunction;)I"⟩
def RL : String := "FirstAwakeLaw"
abbrev cL_law : ByteArray := code
def yL_law : MethodName := ⟨RL, "law", "([I)Z"⟩
abbrev vwCl : List vw_C := [(RX0, TX0, 11), (RX1, TX1, 9), (RX2, TX2, 7), (RX3, TX3, 4), (RX4, TX4, 6), (RX5, TX5, 9), (RX6, TX6, 4), (RX7, TX7, 9), (RX8, TX8, 49)]
/-- the words that all methods share: the tables' own, as far as they hold at every state of a run -/
def wA : List Cond := lw_tbl.filter goodWord
theorem wA_good : ∀ w ∈ wA, goodWord w = true := fun w h => (List.mem_filter.mp h).2
theorem wA_in : ∀ w ∈ wA, w ∈ lw_tbl := fun w h => (List.mem_filter.mp h).1
theorem wm {w : Cond} (h : w ∈ lw_tbl) (g : goodWord w = true) : w ∈ wA := List.mem_filter.mpr ⟨h, g⟩
theorem tq1 {w : Cond} {i : Nat} (h : tables_1_1[i]? = some w) : w ∈ lw_tbl := List.mem_append_right _ (List.mem_append_left _ (List.mem_of_getElem? h))
theorem tq2 {w : Cond} {i : Nat} (h : tables_1_2[i]? = some w) : w ∈ lw_tbl := List.mem_append_right _ (List.mem_append_right _ (List.mem_append_left _ (List.mem_of_getElem? h)))
theorem tq3 {w : Cond} {i : Nat} (h : tables_1_3[i]? = some w) : w ∈ lw_tbl := List.mem_append_right _ (List.mem_append_right _ (List.mem_append_right _ (List.mem_append_left _ (List.mem_of_getElem? h))))
theorem tq4 {w : Cond} {i : Nat} (h : tables_1_4[i]? = some w) : w ∈ lw_tbl := List.mem_append_right _ (List.mem_append_right _ (List.mem_append_right _ (List.mem_append_right _ (List.mem_append_left _ (List.mem_of_getElem? h)))))
theorem tq5 {w : Cond} {i : Nat} (h : tables_1_5[i]? = some w) : w ∈ lw_tbl := List.mem_append_right _ (List.mem_append_right _ (List.mem_append_right _ (List.mem_append_right _ (List.mem_append_right _ (List.mem_of_getElem? h)))))
theorem tqp {y : MethodName} {i n : Nat} (h : lw_privs[i]? = some (y, n)) : Cond.selects y.cls y y ∈ lw_tbl := List.mem_append_left _ (List.mem_map.mpr ⟨(y, n), List.mem_of_getElem? h, rfl⟩)
theorem q0 : Cond.classLink RL 7 RX7 ∈ wA := wm (tq1 (i := 16) rfl) rfl
theorem q1 : Cond.instantiable RX7 9 ∈ wA := wm (tq1 (i := 17) rfl) rfl
theorem q2 : Cond.initialized RX7 ∈ wA := wm (tq1 (i := 1) rfl) rfl
theorem q3 : Cond.classLink RL 10 RX8 ∈ wA := wm (tq3 (i := 234) rfl) rfl
theorem q4 : Cond.instantiable RX8 49 ∈ wA := wm (tq3 (i := 235) rfl) rfl
theorem q5 : Cond.initialized RX8 ∈ wA := wm (tq1 (i := 9) rfl) rfl
theorem q6 : Cond.constantLong RL 13 (4294967295) ∈ wA := wm (tq5 (i := 179) rfl) rfl
theorem q7 : Cond.methodLink RL 9 yX7_init ∈ wA := wm (tq1 (i := 18) rfl) rfl
theorem q8 : Cond.instanceMethod yX7_init ∈ wA := wm (tq1 (i := 19) rfl) rfl
theorem q9 : Cond.code yX7_init cX7_init 1 none ∈ wA := wm (tq1 (i := 20) rfl) rfl
theorem q10 : Cond.methodLink RX7 1 objectInit ∈ wA := wm (tq1 (i := 21) rfl) rfl
theorem q11 : Cond.instanceMethod objectInit ∈ wA := wm (tq1 (i := 22) rfl) rfl
theorem q12 : Cond.code objectInit ⟨#[0xb1]⟩ 1 none ∈ wA := wm (tq1 (i := 23) rfl) rfl
theorem q13 : Cond.classLink RX7 7 RX4 ∈ wA := wm (tq1 (i := 24) rfl) rfl
theorem q14 : Cond.instantiable RX4 6 ∈ wA := wm (tq1 (i := 25) rfl) rfl
theorem q15 : Cond.initialized RX4 ∈ wA := wm (tq1 (i := 2) rfl) rfl
theorem q16 : Cond.fieldLink RX7 10 "FirstAwake" "reader" "LFirstAwake$Reader;" ∈ wA := wm (tq2 (i := 50) rfl) rfl
theorem q17 : Cond.classLink RX7 16 RX5 ∈ wA := wm (tq1 (i := 121) rfl) rfl
theorem q18 : Cond.instantiable RX5 9 ∈ wA := wm (tq1 (i := 31) rfl) rfl
theorem q19 : Cond.initialized RX5 ∈ wA := wm (tq1 (i := 3) rfl) rfl
theorem q20 : Cond.fieldLink RX7 19 "FirstAwake" "valley" "LFirstAwake$Valley;" ∈ wA := wm (tq2 (i := 51) rfl) rfl
theorem q21 : Cond.classLink RX7 23 RX0 ∈ wA := wm (tq1 (i := 123) rfl) rfl
theorem q22 : Cond.instantiable RX0 11 ∈ wA := wm (tq1 (i := 124) rfl) rfl
theorem q23 : Cond.initialized RX0 ∈ wA := wm (tq1 (i := 4) rfl) rfl
theorem q24 : Cond.fieldLink RX7 28 "FirstAwake" "now" "LFirstAwake$Course;" ∈ wA := wm (tq2 (i := 52) rfl) rfl
theorem q25 : Cond.fieldLink RX7 32 "FirstAwake" "firstImage" "LFirstAwake$Course;" ∈ wA := wm (tq2 (i := 53) rfl) rfl
theorem q26 : Cond.fieldLink RX7 35 "FirstAwake" "secondImage" "LFirstAwake$Course;" ∈ wA := wm (tq2 (i := 54) rfl) rfl
theorem q27 : Cond.classLink RX7 38 RX6 ∈ wA := wm (tq1 (i := 214) rfl) rfl
theorem q28 : Cond.instantiable RX6 4 ∈ wA := wm (tq1 (i := 215) rfl) rfl
theorem q29 : Cond.initialized RX6 ∈ wA := wm (tq1 (i := 6) rfl) rfl
theorem q30 : Cond.fieldLink RX7 41 "FirstAwake" "words" "LFirstAwake$Words;" ∈ wA := wm (tq2 (i := 56) rfl) rfl
theorem q31 : Cond.classLink RX7 45 RX2 ∈ wA := wm (tq1 (i := 236) rfl) rfl
theorem q32 : Cond.instantiable RX2 7 ∈ wA := wm (tq1 (i := 237) rfl) rfl
theorem q33 : Cond.initialized RX2 ∈ wA := wm (tq1 (i := 7) rfl) rfl
theorem q34 : Cond.fieldLink RX7 48 "FirstAwake" "planner" "LFirstAwake$Planner;" ∈ wA := wm (tq2 (i := 57) rfl) rfl
theorem q35 : Cond.classLink RX7 52 RX3 ∈ wA := wm (tq2 (i := 29) rfl) rfl
theorem q36 : Cond.instantiable RX3 4 ∈ wA := wm (tq2 (i := 30) rfl) rfl
theorem q37 : Cond.initialized RX3 ∈ wA := wm (tq1 (i := 8) rfl) rfl
theorem q38 : Cond.fieldLink RX7 55 "FirstAwake" "prospect" "LFirstAwake$Prospect;" ∈ wA := wm (tq2 (i := 58) rfl) rfl
theorem q39 : Cond.methodLink RX7 9 yX4_init ∈ wA := wm (tq1 (i := 26) rfl) rfl
theorem q40 : Cond.instanceMethod yX4_init ∈ wA := wm (tq1 (i := 27) rfl) rfl
theorem q41 : Cond.code yX4_init cX4_init 1 none ∈ wA := wm (tq1 (i := 28) rfl) rfl
theorem q42 : Cond.methodLink RX4 3 objectInit ∈ wA := wm (tq1 (i := 29) rfl) rfl
theorem q43 : Cond.arrayClass .byte ∈ wA := wm (tq1 (i := 97) rfl) rfl
theorem q44 : Cond.fieldLink RX4 9 "FirstAwake$Reader" "text" "[B" ∈ wA := wm (tq1 (i := 99) rfl) rfl
theorem q45 : Cond.classLink RX4 15 RX5 ∈ wA := wm (tq1 (i := 30) rfl) rfl
theorem q46 : Cond.fieldLink RX4 18 "FirstAwake$Reader" "draft" "LFirstAwake$Valley;" ∈ wA := wm (tq1 (i := 102) rfl) rfl
theorem q47 : Cond.fieldLink RX4 22 "FirstAwake$Reader" "faultByte" "I" ∈ wA := wm (tq1 (i := 106) rfl) rfl
theorem q48 : Cond.methodLink RX4 17 yX5_init ∈ wA := wm (tq1 (i := 32) rfl) rfl
theorem q49 : Cond.instanceMethod yX5_init ∈ wA := wm (tq1 (i := 33) rfl) rfl
theorem q50 : Cond.code yX5_init cX5_init 1 none ∈ wA := wm (tq1 (i := 34) rfl) rfl
theorem q51 : Cond.methodLink RX5 3 objectInit ∈ wA := wm (tq1 (i := 35) rfl) rfl
theorem q52 : Cond.arrayClass .int ∈ wA := wm (tq1 (i := 98) rfl) rfl
theorem q53 : Cond.fieldLink RX5 9 "FirstAwake$Valley" "need" "[I" ∈ wA := wm (tq1 (i := 40) rfl) rfl
theorem q54 : Cond.fieldLink RX5 15 "FirstAwake$Valley" "worth" "[I" ∈ wA := wm (tq1 (i := 44) rfl) rfl
theorem q55 : Cond.fieldLink RX5 18 "FirstAwake$Valley" "bed" "[I" ∈ wA := wm (tq1 (i := 49) rfl) rfl
theorem q56 : Cond.fieldLink RX5 21 "FirstAwake$Valley" "home" "[I" ∈ wA := wm (tq1 (i := 59) rfl) rfl
theorem q57 : Cond.fieldLink RX5 24 "FirstAwake$Valley" "wake" "[I" ∈ wA := wm (tq1 (i := 65) rfl) rfl
theorem q58 : Cond.fieldLink RX5 27 "FirstAwake$Valley" "span" "[I" ∈ wA := wm (tq1 (i := 69) rfl) rfl
theorem q59 : Cond.fieldLink RX5 30 "FirstAwake$Valley" "light" "[I" ∈ wA := wm (tq1 (i := 74) rfl) rfl
theorem q60 : Cond.methodLink RX7 18 yX5_init ∈ wA := wm (tq1 (i := 122) rfl) rfl
theorem q61 : Cond.methodLink RX7 25 yX0_init ∈ wA := wm (tq1 (i := 125) rfl) rfl
theorem q62 : Cond.instanceMethod yX0_init ∈ wA := wm (tq1 (i := 126) rfl) rfl
theorem q63 : Cond.code yX0_init cX0_init 2 none ∈ wA := wm (tq1 (i := 127) rfl) rfl
theorem q64 : Cond.methodLink RX0 3 objectInit ∈ wA := wm (tq1 (i := 128) rfl) rfl
theorem q65 : Cond.fieldLink RX0 9 "FirstAwake$Course" "valley" "LFirstAwake$Valley;" ∈ wA := wm (tq1 (i := 171) rfl) rfl
theorem q66 : Cond.classLink RX0 15 RX1 ∈ wA := wm (tq1 (i := 129) rfl) rfl
theorem q67 : Cond.instantiable RX1 9 ∈ wA := wm (tq1 (i := 130) rfl) rfl
theorem q68 : Cond.initialized RX1 ∈ wA := wm (tq1 (i := 5) rfl) rfl
theorem q69 : Cond.fieldLink RX0 20 "FirstAwake$Course" "night" "LFirstAwake$Night;" ∈ wA := wm (tq1 (i := 172) rfl) rfl
theorem q70 : Cond.fieldLink RX0 24 "FirstAwake$Course" "onEnd" "[I" ∈ wA := wm (tq1 (i := 176) rfl) rfl
theorem q71 : Cond.fieldLink RX0 28 "FirstAwake$Course" "done" "[I" ∈ wA := wm (tq1 (i := 178) rfl) rfl
theorem q72 : Cond.fieldLink RX0 31 "FirstAwake$Course" "rulers" "[I" ∈ wA := wm (tq1 (i := 184) rfl) rfl
theorem q73 : Cond.fieldLink RX0 34 "FirstAwake$Course" "minutes" "[I" ∈ wA := wm (tq1 (i := 186) rfl) rfl
theorem q74 : Cond.fieldLink RX0 37 "FirstAwake$Course" "awake" "[I" ∈ wA := wm (tq1 (i := 190) rfl) rfl
theorem q75 : Cond.methodLink RX0 17 yX1_init ∈ wA := wm (tq1 (i := 131) rfl) rfl
theorem q76 : Cond.instanceMethod yX1_init ∈ wA := wm (tq1 (i := 132) rfl) rfl
theorem q77 : Cond.code yX1_init cX1_init 2 none ∈ wA := wm (tq1 (i := 133) rfl) rfl
theorem q78 : Cond.methodLink RX1 3 objectInit ∈ wA := wm (tq1 (i := 134) rfl) rfl
theorem q79 : Cond.fieldLink RX1 9 "FirstAwake$Night" "valley" "LFirstAwake$Valley;" ∈ wA := wm (tq1 (i := 135) rfl) rfl
theorem q80 : Cond.fieldLink RX1 15 "FirstAwake$Night" "shifted" "[I" ∈ wA := wm (tq1 (i := 136) rfl) rfl
theorem q81 : Cond.fieldLink RX1 19 "FirstAwake$Night" "noiseHouse" "I" ∈ wA := wm (tq1 (i := 140) rfl) rfl
theorem q82 : Cond.fieldLink RX1 23 "FirstAwake$Night" "noiseMinute" "I" ∈ wA := wm (tq1 (i := 142) rfl) rfl
theorem q83 : Cond.fieldLink RX1 26 "FirstAwake$Night" "loudness" "I" ∈ wA := wm (tq1 (i := 144) rfl) rfl
theorem q84 : Cond.fieldLink RX1 29 "FirstAwake$Night" "first" "[I" ∈ wA := wm (tq1 (i := 149) rfl) rfl
theorem q85 : Cond.fieldLink RX1 32 "FirstAwake$Night" "last" "[I" ∈ wA := wm (tq1 (i := 150) rfl) rfl
theorem q86 : Cond.fieldLink RX1 35 "FirstAwake$Night" "roof" "[I" ∈ wA := wm (tq1 (i := 151) rfl) rfl
theorem q87 : Cond.methodLink RX7 40 yX6_init ∈ wA := wm (tq1 (i := 216) rfl) rfl
theorem q88 : Cond.instanceMethod yX6_init ∈ wA := wm (tq1 (i := 217) rfl) rfl
theorem q89 : Cond.code yX6_init cX6_init 2 none ∈ wA := wm (tq1 (i := 218) rfl) rfl
theorem q90 : Cond.methodLink RX6 3 objectInit ∈ wA := wm (tq1 (i := 219) rfl) rfl
theorem q91 : Cond.fieldLink RX6 9 "FirstAwake$Words" "who" "[I" ∈ wA := wm (tq1 (i := 224) rfl) rfl
theorem q92 : Cond.fieldLink RX6 15 "FirstAwake$Words" "minutes" "[I" ∈ wA := wm (tq1 (i := 225) rfl) rfl
theorem q93 : Cond.classLink RX6 18 RX1 ∈ wA := wm (tq1 (i := 220) rfl) rfl
theorem q94 : Cond.fieldLink RX6 23 "FirstAwake$Words" "trial" "LFirstAwake$Night;" ∈ wA := wm (tq1 (i := 226) rfl) rfl
theorem q95 : Cond.methodLink RX6 20 yX1_init ∈ wA := wm (tq1 (i := 221) rfl) rfl
theorem q96 : Cond.methodLink RX7 47 yX2_init ∈ wA := wm (tq1 (i := 238) rfl) rfl
theorem q97 : Cond.instanceMethod yX2_init ∈ wA := wm (tq1 (i := 239) rfl) rfl
theorem q98 : Cond.code yX2_init cX2_init 2 none ∈ wA := wm (tq2 (i := 0) rfl) rfl
theorem q99 : Cond.methodLink RX2 3 objectInit ∈ wA := wm (tq2 (i := 1) rfl) rfl
theorem q100 : Cond.fieldLink RX2 9 "FirstAwake$Planner" "valley" "LFirstAwake$Valley;" ∈ wA := wm (tq2 (i := 4) rfl) rfl
theorem q101 : Cond.classLink RX2 15 RX1 ∈ wA := wm (tq2 (i := 2) rfl) rfl
theorem q102 : Cond.fieldLink RX2 20 "FirstAwake$Planner" "plan" "LFirstAwake$Night;" ∈ wA := wm (tq2 (i := 5) rfl) rfl
theorem q103 : Cond.fieldLink RX2 24 "FirstAwake$Planner" "trial" "LFirstAwake$Night;" ∈ wA := wm (tq2 (i := 6) rfl) rfl
theorem q104 : Cond.fieldLink RX2 27 "FirstAwake$Planner" "codes" "[I" ∈ wA := wm (tq2 (i := 7) rfl) rfl
theorem q105 : Cond.methodLink RX2 17 yX1_init ∈ wA := wm (tq2 (i := 3) rfl) rfl
theorem q106 : Cond.methodLink RX7 54 yX3_init ∈ wA := wm (tq2 (i := 31) rfl) rfl
theorem q107 : Cond.instanceMethod yX3_init ∈ wA := wm (tq2 (i := 32) rfl) rfl
theorem q108 : Cond.code yX3_init cX3_init 1 none ∈ wA := wm (tq2 (i := 33) rfl) rfl
theorem q109 : Cond.methodLink RX3 3 objectInit ∈ wA := wm (tq2 (i := 34) rfl) rfl
theorem q110 : Cond.arrayClass .long ∈ wA := wm (tq2 (i := 49) rfl) rfl
theorem q111 : Cond.fieldLink RX3 9 "FirstAwake$Prospect" "parts" "[J" ∈ wA := wm (tq2 (i := 35) rfl) rfl
theorem q112 : Cond.methodLink RL 12 yX8_init ∈ wA := wm (tq3 (i := 236) rfl) rfl
theorem q113 : Cond.instanceMethod yX8_init ∈ wA := wm (tq3 (i := 237) rfl) rfl
theorem q114 : Cond.code yX8_init cX8_init 1 none ∈ wA := wm (tq3 (i := 238) rfl) rfl
theorem q115 : Cond.methodLink RX8 1 objectInit ∈ wA := wm (tq3 (i := 239) rfl) rfl
theorem q116 : Cond.fieldLink RX8 7 "FirstAwakeModel" "days" "[I" ∈ wA := wm (tq4 (i := 1) rfl) rfl
theorem q117 : Cond.fieldLink RX8 13 "FirstAwakeModel" "worth" "[I" ∈ wA := wm (tq4 (i := 2) rfl) rfl
theorem q118 : Cond.fieldLink RX8 16 "FirstAwakeModel" "bed" "[I" ∈ wA := wm (tq4 (i := 3) rfl) rfl
theorem q119 : Cond.fieldLink RX8 19 "FirstAwakeModel" "homeOf" "[I" ∈ wA := wm (tq4 (i := 5) rfl) rfl
theorem q120 : Cond.fieldLink RX8 22 "FirstAwakeModel" "wakes" "[I" ∈ wA := wm (tq4 (i := 6) rfl) rfl
theorem q121 : Cond.fieldLink RX8 25 "FirstAwakeModel" "span" "[I" ∈ wA := wm (tq4 (i := 7) rfl) rfl
theorem q122 : Cond.fieldLink RX8 28 "FirstAwakeModel" "light" "[I" ∈ wA := wm (tq4 (i := 8) rfl) rfl
theorem q123 : Cond.fieldLink RX8 31 "FirstAwakeModel" "shifted" "[I" ∈ wA := wm (tq4 (i := 9) rfl) rfl
theorem q124 : Cond.fieldLink RX8 34 "FirstAwakeModel" "noiseAt" "I" ∈ wA := wm (tq4 (i := 10) rfl) rfl
theorem q125 : Cond.fieldLink RX8 38 "FirstAwakeModel" "noiseLoud" "I" ∈ wA := wm (tq4 (i := 11) rfl) rfl
theorem q126 : Cond.fieldLink RX8 41 "FirstAwakeModel" "noiseFrom" "I" ∈ wA := wm (tq4 (i := 12) rfl) rfl
theorem q127 : Cond.fieldLink RX8 44 "FirstAwakeModel" "onEnd" "[I" ∈ wA := wm (tq4 (i := 15) rfl) rfl
theorem q128 : Cond.fieldLink RX8 47 "FirstAwakeModel" "doneMany" "[I" ∈ wA := wm (tq4 (i := 16) rfl) rfl
theorem q129 : Cond.fieldLink RX8 50 "FirstAwakeModel" "keptWho" "[I" ∈ wA := wm (tq4 (i := 19) rfl) rfl
theorem q130 : Cond.fieldLink RX8 53 "FirstAwakeModel" "keptWhen" "[I" ∈ wA := wm (tq4 (i := 20) rfl) rfl
theorem q131 : Cond.fieldLink RX8 56 "FirstAwakeModel" "text" "[I" ∈ wA := wm (tq4 (i := 22) rfl) rfl
theorem q132 : Cond.fieldLink RX8 59 "FirstAwakeModel" "faultPlace" "I" ∈ wA := wm (tq4 (i := 24) rfl) rfl
theorem q133 : Cond.fieldLink RX8 62 "FirstAwakeModel" "readDays" "[I" ∈ wA := wm (tq4 (i := 31) rfl) rfl
theorem q134 : Cond.fieldLink RX8 65 "FirstAwakeModel" "readWorth" "[I" ∈ wA := wm (tq4 (i := 32) rfl) rfl
theorem q135 : Cond.fieldLink RX8 68 "FirstAwakeModel" "readBed" "[I" ∈ wA := wm (tq4 (i := 33) rfl) rfl
theorem q136 : Cond.fieldLink RX8 71 "FirstAwakeModel" "readHome" "[I" ∈ wA := wm (tq4 (i := 35) rfl) rfl
theorem q137 : Cond.fieldLink RX8 74 "FirstAwakeModel" "readWakes" "[I" ∈ wA := wm (tq4 (i := 36) rfl) rfl
theorem q138 : Cond.fieldLink RX8 77 "FirstAwakeModel" "readSpan" "[I" ∈ wA := wm (tq4 (i := 37) rfl) rfl
theorem q139 : Cond.fieldLink RX8 80 "FirstAwakeModel" "readLight" "[I" ∈ wA := wm (tq4 (i := 38) rfl) rfl
theorem q140 : Cond.fieldLink RX8 83 "FirstAwakeModel" "minutes" "[I" ∈ wA := wm (tq4 (i := 39) rfl) rfl
theorem q141 : Cond.fieldLink RX8 86 "FirstAwakeModel" "wasShifted" "[I" ∈ wA := wm (tq4 (i := 40) rfl) rfl
theorem q142 : Cond.fieldLink RX8 89 "FirstAwakeModel" "atFirst" "[I" ∈ wA := wm (tq4 (i := 42) rfl) rfl
theorem q143 : Cond.fieldLink RX8 92 "FirstAwakeModel" "parts" "[J" ∈ wA := wm (tq4 (i := 43) rfl) rfl
theorem q144 : Cond.fieldLink RX8 96 "FirstAwakeModel" "toldWho" "[I" ∈ wA := wm (tq4 (i := 45) rfl) rfl
theorem q145 : Cond.fieldLink RX8 99 "FirstAwakeModel" "toldWhen" "[I" ∈ wA := wm (tq4 (i := 46) rfl) rfl
theorem q146 : Cond.fieldLink RX8 102 "FirstAwakeModel" "images" "[I" ∈ wA := wm (tq4 (i := 47) rfl) rfl
theorem q147 : Cond.arrayClass .boolean ∈ wA := wm (tq4 (i := 148) rfl) rfl
theorem q148 : Cond.fieldLink RX8 105 "FirstAwakeModel" "isKept" "[Z" ∈ wA := wm (tq4 (i := 48) rfl) rfl
theorem q149 : Cond.fieldLink RX8 109 "FirstAwakeModel" "houses" "I" ∈ wA := wm (tq4 (i := 0) rfl) rfl
theorem q150 : Cond.methodLink RL 15 yX7_feed ∈ wA := wm (tq2 (i := 78) rfl) rfl
theorem q151 : Cond.instanceMethod yX7_feed ∈ wA := wm (tq2 (i := 79) rfl) rfl
theorem q152 : Cond.selects RX7 yX7_feed yX7_feed ∈ wA := wm (tq2 (i := 80) rfl) rfl
theorem q153 : Cond.code yX7_feed cX7_feed 4 (some .int) ∈ wA := wm (tq2 (i := 81) rfl) rfl
theorem q154 : Cond.constant RX7 59 (-1000000002) ∈ wA := wm (tq2 (i := 82) rfl) rfl
theorem q155 : Cond.fieldLink RX7 64 "FirstAwake$Reader" "length" "I" ∈ wA := wm (tq1 (i := 101) rfl) rfl
theorem q156 : Cond.constant RX7 68 (-1000000004) ∈ wA := wm (tq2 (i := 87) rfl) rfl
theorem q157 : Cond.methodLink RX7 60 yX4_append ∈ wA := wm (tq2 (i := 83) rfl) rfl
theorem q158 : Cond.instanceMethod yX4_append ∈ wA := wm (tq2 (i := 84) rfl) rfl
theorem q159 : Cond.selects RX4 yX4_append yX4_append ∈ wA := wm (tq2 (i := 85) rfl) rfl
theorem q160 : Cond.code yX4_append cX4_append 5 (some .boolean) ∈ wA := wm (tq2 (i := 86) rfl) rfl
theorem q161 : Cond.fieldLink RX4 26 "FirstAwake$Reader" "length" "I" ∈ wA := wm (tq1 (i := 100) rfl) rfl
theorem q162 : Cond.methodLink RL 19 yX8_feed ∈ wA := wm (tq4 (i := 149) rfl) rfl
theorem q163 : Cond.instanceMethod yX8_feed ∈ wA := wm (tq4 (i := 150) rfl) rfl
theorem q164 : Cond.selects RX8 yX8_feed yX8_feed ∈ wA := wm (tq4 (i := 151) rfl) rfl
theorem q165 : Cond.code yX8_feed cX8_feed 5 (some .int) ∈ wA := wm (tq4 (i := 152) rfl) rfl
theorem q166 : Cond.constantLong RX8 131 (8) ∈ wA := wm (tq4 (i := 153) rfl) rfl
theorem q167 : Cond.constant RX8 133 (-1000000002) ∈ wA := wm (tq4 (i := 157) rfl) rfl
theorem q168 : Cond.fieldLink RX8 134 "FirstAwakeModel" "texted" "I" ∈ wA := wm (tq4 (i := 23) rfl) rfl
theorem q169 : Cond.constant RX8 137 (-1000000004) ∈ wA := wm (tq4 (i := 158) rfl) rfl
theorem q170 : Cond.constantLong RX8 138 (255) ∈ wA := wm (tq4 (i := 159) rfl) rfl
theorem q171 : Cond.methodLink RX8 112 yX8_in ∈ wA := wm (tq4 (i := 154) rfl) rfl
theorem q172 : Cond.static yX8_in ∈ wA := wm (tq4 (i := 155) rfl) rfl
theorem q173 : Cond.code yX8_in cX8_in 6 (some .boolean) ∈ wA := wm (tq4 (i := 156) rfl) rfl
theorem q174 : Cond.methodLink RL 20 yX7_valley ∈ wA := wm (tq2 (i := 88) rfl) rfl
theorem q175 : Cond.instanceMethod yX7_valley ∈ wA := wm (tq2 (i := 89) rfl) rfl
theorem q176 : Cond.selects RX7 yX7_valley yX7_valley ∈ wA := wm (tq2 (i := 90) rfl) rfl
theorem q177 : Cond.code yX7_valley cX7_valley 2 (some .int) ∈ wA := wm (tq2 (i := 91) rfl) rfl
theorem q178 : Cond.fieldLink RX7 73 "FirstAwake$Reader" "draft" "LFirstAwake$Valley;" ∈ wA := wm (tq1 (i := 103) rfl) rfl
theorem q179 : Cond.fieldLink RX7 82 "FirstAwake$Words" "count" "I" ∈ wA := wm (tq1 (i := 223) rfl) rfl
theorem q180 : Cond.fieldLink RX7 85 "FirstAwake" "imagesKept" "I" ∈ wA := wm (tq2 (i := 55) rfl) rfl
theorem q181 : Cond.fieldLink RX7 88 "FirstAwake$Valley" "sleepers" "I" ∈ wA := wm (tq1 (i := 55) rfl) rfl
theorem q182 : Cond.methodLink RX7 69 yX4_readAll ∈ wA := wm (tq2 (i := 92) rfl) rfl
theorem q183 : Cond.instanceMethod yX4_readAll ∈ wA := wm (tq2 (i := 93) rfl) rfl
theorem q184 : Cond.selects RX4 yX4_readAll yX4_readAll ∈ wA := wm (tq2 (i := 94) rfl) rfl
theorem q185 : Cond.code yX4_readAll cX4_readAll 2 (some .int) ∈ wA := wm (tq2 (i := 95) rfl) rfl
theorem q186 : Cond.fieldLink RX4 29 "FirstAwake$Valley" "houses" "I" ∈ wA := wm (tq1 (i := 37) rfl) rfl
theorem q187 : Cond.fieldLink RX4 32 "FirstAwake$Valley" "sleepers" "I" ∈ wA := wm (tq1 (i := 54) rfl) rfl
theorem q188 : Cond.fieldLink RX4 35 "FirstAwake$Reader" "at" "I" ∈ wA := wm (tq1 (i := 104) rfl) rfl
theorem q189 : Cond.fieldLink RX4 38 "FirstAwake$Reader" "faultNumber" "I" ∈ wA := wm (tq1 (i := 105) rfl) rfl
theorem q190 : Cond.methodLink RX4 41 yX4_skipBlanks ∈ wA := wm (tq2 (i := 96) rfl) rfl
theorem q191 : Cond.instanceMethod yX4_skipBlanks ∈ wA := wm (tq2 (i := 98) rfl) rfl
theorem q192 : Cond.selects RX4 yX4_skipBlanks yX4_skipBlanks ∈ wA := wm (tqp (i := 0) rfl) rfl
theorem q193 : Cond.code yX4_skipBlanks cX4_skipBlanks 1 none ∈ wA := wm (tq2 (i := 99) rfl) rfl
theorem q194 : Cond.methodLink RX4 44 yX4_readClause ∈ wA := wm (tq2 (i := 100) rfl) rfl
theorem q195 : Cond.instanceMethod yX4_readClause ∈ wA := wm (tq2 (i := 102) rfl) rfl
theorem q196 : Cond.selects RX4 yX4_readClause yX4_readClause ∈ wA := wm (tqp (i := 1) rfl) rfl
theorem q197 : Cond.code yX4_readClause cX4_readClause 2 none ∈ wA := wm (tq2 (i := 103) rfl) rfl
theorem q198 : Cond.methodLink RX4 49 yX4_isWord ∈ wA := wm (tq2 (i := 105) rfl) rfl
theorem q199 : Cond.instanceMethod yX4_isWord ∈ wA := wm (tq2 (i := 107) rfl) rfl
theorem q200 : Cond.selects RX4 yX4_isWord yX4_isWord ∈ wA := wm (tqp (i := 2) rfl) rfl
theorem q201 : Cond.code yX4_isWord cX4_isWord 4 (some .boolean) ∈ wA := wm (tq2 (i := 108) rfl) rfl
theorem q202 : Cond.methodLink RX4 66 yJ0_length_8abf5 ∈ wA := wm (tq2 (i := 109) rfl) rfl
theorem q203 : Cond.instanceMethod yJ0_length_8abf5 ∈ wA := wm (tq2 (i := 110) rfl) rfl
theorem q204 : Cond.selects RJ0 yJ0_length_8abf5 yJ0_length_8abf5 ∈ wA := wm (tq2 (i := 111) rfl) rfl
theorem q205 : Cond.initialized RJ0 ∈ wA := wm (tq1 (i := 10) rfl) rfl
theorem q206 : Cond.code yJ0_length_8abf5 cJ0_length_8abf5 1 (some .int) ∈ wA := wm (tq2 (i := 112) rfl) rfl
theorem q207 : Cond.fieldLink RJ0 9 "java/lang/String" "value" "[B" ∈ wA := wm (tq5 (i := 180) rfl) rfl
theorem q208 : Cond.methodLink RJ0 335 yJ0_coder_7d493 ∈ wA := wm (tq2 (i := 113) rfl) rfl
theorem q209 : Cond.instanceMethod yJ0_coder_7d493 ∈ wA := wm (tq2 (i := 114) rfl) rfl
theorem q210 : Cond.selects RJ0 yJ0_coder_7d493 yJ0_coder_7d493 ∈ wA := wm (tq2 (i := 115) rfl) rfl
theorem q211 : Cond.code yJ0_coder_7d493 cJ0_coder_7d493 1 (some .byte) ∈ wA := wm (tq2 (i := 116) rfl) rfl
theorem q212 : Cond.fieldLink RJ0 38 "java/lang/String" "COMPACT_STRINGS" "Z" ∈ wA := wm (tq2 (i := 117) rfl) rfl
theorem q213 : Cond.fieldLink RJ0 15 "java/lang/String" "coder" "B" ∈ wA := wm (tq5 (i := 181) rfl) rfl
theorem q214 : Cond.methodLink RX4 71 yJ0_charAt_5068e ∈ wA := wm (tq2 (i := 119) rfl) rfl
theorem q215 : Cond.instanceMethod yJ0_charAt_5068e ∈ wA := wm (tq2 (i := 120) rfl) rfl
theorem q216 : Cond.selects RJ0 yJ0_charAt_5068e yJ0_charAt_5068e ∈ wA := wm (tq2 (i := 121) rfl) rfl
theorem q217 : Cond.code yJ0_charAt_5068e cJ0_charAt_5068e 2 (some .char) ∈ wA := wm (tq2 (i := 122) rfl) rfl
theorem q218 : Cond.methodLink RJ0 492 yJ0_isLatin1_aae02 ∈ wA := wm (tq2 (i := 123) rfl) rfl
theorem q219 : Cond.instanceMethod yJ0_isLatin1_aae02 ∈ wA := wm (tq2 (i := 124) rfl) rfl
theorem q220 : Cond.selects RJ0 yJ0_isLatin1_aae02 yJ0_isLatin1_aae02 ∈ wA := wm (tq2 (i := 125) rfl) rfl
theorem q221 : Cond.code yJ0_isLatin1_aae02 cJ0_isLatin1_aae02 1 (some .boolean) ∈ wA := wm (tq2 (i := 126) rfl) rfl
theorem q222 : Cond.methodLink RJ0 495 yJ1_charAt_3b067 ∈ wA := wm (tq2 (i := 127) rfl) rfl
theorem q223 : Cond.static yJ1_charAt_3b067 ∈ wA := wm (tq2 (i := 128) rfl) rfl
theorem q224 : Cond.initialized RJ1 ∈ wA := wm (tq1 (i := 11) rfl) rfl
theorem q225 : Cond.code yJ1_charAt_3b067 cJ1_charAt_3b067 2 (some .char) ∈ wA := wm (tq2 (i := 129) rfl) rfl
theorem q226 : Cond.methodLink RJ1 9 yJ0_checkIndex_df160 ∈ wA := wm (tq2 (i := 130) rfl) rfl
theorem q227 : Cond.static yJ0_checkIndex_df160 ∈ wA := wm (tq2 (i := 131) rfl) rfl
theorem q228 : Cond.code yJ0_checkIndex_df160 cJ0_checkIndex_df160 2 none ∈ wA := wm (tq2 (i := 132) rfl) rfl
theorem q229 : Cond.fieldLink RJ0 1053 "jdk/internal/util/Preconditions" "SIOOBE_FORMATTER" "Ljava/util/function/BiFunction;" ∈ wA := wm (tq2 (i := 133) rfl) rfl
theorem q230 : Cond.methodLink RJ0 1059 yJ3_checkIndex_8e157 ∈ wA := wm (tq2 (i := 135) rfl) rfl
theorem q231 : Cond.static yJ3_checkIndex_8e157 ∈ wA := wm (tq2 (i := 136) rfl) rfl
theorem q232 : Cond.initialized RJ3 ∈ wA := wm (tq1 (i := 12) rfl) rfl
theorem q233 : Cond.code yJ3_checkIndex_8e157 cJ3_checkIndex_8e157 3 (some .int) ∈ wA := wm (tq2 (i := 137) rfl) rfl
theorem q234 : Cond.methodLink RJ0 498 yJ2_charAt_3b067 ∈ wA := wm (tq2 (i := 138) rfl) rfl
theorem q235 : Cond.static yJ2_charAt_3b067 ∈ wA := wm (tq2 (i := 139) rfl) rfl
theorem q236 : Cond.initialized RJ2 ∈ wA := wm (tq1 (i := 13) rfl) rfl
theorem q237 : Cond.code yJ2_charAt_3b067 cJ2_charAt_3b067 2 (some .char) ∈ wA := wm (tq2 (i := 140) rfl) rfl
theorem q238 : Cond.methodLink RJ2 67 yJ2_checkIndex_2214a ∈ wA := wm (tq2 (i := 141) rfl) rfl
theorem q239 : Cond.static yJ2_checkIndex_2214a ∈ wA := wm (tq2 (i := 142) rfl) rfl
theorem q240 : Cond.code yJ2_checkIndex_2214a cJ2_checkIndex_2214a 2 none ∈ wA := wm (tq2 (i := 143) rfl) rfl
theorem q241 : Cond.methodLink RJ2 48 yJ2_length_9d52b ∈ wA := wm (tq2 (i := 144) rfl) rfl
theorem q242 : Cond.static yJ2_length_9d52b ∈ wA := wm (tq2 (i := 145) rfl) rfl
theorem q243 : Cond.code yJ2_length_9d52b cJ2_length_9d52b 1 (some .int) ∈ wA := wm (tq2 (i := 146) rfl) rfl
theorem q244 : Cond.methodLink RJ2 414 yJ0_checkIndex_df160 ∈ wA := wm (tq2 (i := 147) rfl) rfl
theorem q245 : Cond.methodLink RJ2 71 yJ2_getChar_3b067 ∈ wA := wm (tq2 (i := 148) rfl) rfl
theorem q246 : Cond.static yJ2_getChar_3b067 ∈ wA := wm (tq2 (i := 149) rfl) rfl
theorem q247 : Cond.code yJ2_getChar_3b067 cJ2_getChar_3b067 2 (some .char) ∈ wA := wm (tq2 (i := 150) rfl) rfl
theorem q248 : Cond.fieldLink RJ2 44 "java/lang/StringUTF16" "$assertionsDisabled" "Z" ∈ wA := wm (tq2 (i := 151) rfl) rfl
theorem q249 : Cond.fieldLink RJ2 59 "java/lang/StringUTF16" "HI_BYTE_SHIFT" "I" ∈ wA := wm (tq2 (i := 153) rfl) rfl
theorem q250 : Cond.fieldLink RJ2 63 "java/lang/StringUTF16" "LO_BYTE_SHIFT" "I" ∈ wA := wm (tq2 (i := 155) rfl) rfl
theorem q251 : Cond.methodLink RX4 53 yX4_readHouse ∈ wA := wm (tq2 (i := 157) rfl) rfl
theorem q252 : Cond.instanceMethod yX4_readHouse ∈ wA := wm (tq2 (i := 159) rfl) rfl
theorem q253 : Cond.selects RX4 yX4_readHouse yX4_readHouse ∈ wA := wm (tqp (i := 3) rfl) rfl
theorem q254 : Cond.code yX4_readHouse cX4_readHouse 3 none ∈ wA := wm (tq2 (i := 160) rfl) rfl
theorem q255 : Cond.fieldLink RX4 75 "FirstAwake$Valley" "need" "[I" ∈ wA := wm (tq1 (i := 41) rfl) rfl
theorem q256 : Cond.fieldLink RX4 83 "FirstAwake$Valley" "worth" "[I" ∈ wA := wm (tq1 (i := 46) rfl) rfl
theorem q257 : Cond.fieldLink RX4 86 "FirstAwake$Valley" "bed" "[I" ∈ wA := wm (tq1 (i := 51) rfl) rfl
theorem q258 : Cond.methodLink RX4 62 yX4_note ∈ wA := wm (tq2 (i := 161) rfl) rfl
theorem q259 : Cond.instanceMethod yX4_note ∈ wA := wm (tq2 (i := 163) rfl) rfl
theorem q260 : Cond.selects RX4 yX4_note yX4_note ∈ wA := wm (tqp (i := 4) rfl) rfl
theorem q261 : Cond.code yX4_note cX4_note 3 none ∈ wA := wm (tq2 (i := 164) rfl) rfl
theorem q262 : Cond.methodLink RX4 79 yX4_readNumber ∈ wA := wm (tq2 (i := 165) rfl) rfl
theorem q263 : Cond.instanceMethod yX4_readNumber ∈ wA := wm (tq2 (i := 167) rfl) rfl
theorem q264 : Cond.selects RX4 yX4_readNumber yX4_readNumber ∈ wA := wm (tqp (i := 5) rfl) rfl
theorem q265 : Cond.code yX4_readNumber cX4_readNumber 5 (some .int) ∈ wA := wm (tq2 (i := 168) rfl) rfl
theorem q266 : Cond.methodLink RX4 89 yX4_readEnd ∈ wA := wm (tq2 (i := 169) rfl) rfl
theorem q267 : Cond.instanceMethod yX4_readEnd ∈ wA := wm (tq2 (i := 171) rfl) rfl
theorem q268 : Cond.selects RX4 yX4_readEnd yX4_readEnd ∈ wA := wm (tqp (i := 6) rfl) rfl
theorem q269 : Cond.code yX4_readEnd cX4_readEnd 1 none ∈ wA := wm (tq2 (i := 172) rfl) rfl
theorem q270 : Cond.methodLink RX4 59 yX4_readSleeper ∈ wA := wm (tq2 (i := 174) rfl) rfl
theorem q271 : Cond.instanceMethod yX4_readSleeper ∈ wA := wm (tq2 (i := 176) rfl) rfl
theorem q272 : Cond.selects RX4 yX4_readSleeper yX4_readSleeper ∈ wA := wm (tqp (i := 7) rfl) rfl
theorem q273 : Cond.code yX4_readSleeper cX4_readSleeper 3 none ∈ wA := wm (tq2 (i := 177) rfl) rfl
theorem q274 : Cond.fieldLink RX4 92 "FirstAwake$Valley" "home" "[I" ∈ wA := wm (tq1 (i := 62) rfl) rfl
theorem q275 : Cond.fieldLink RX4 95 "FirstAwake$Valley" "wake" "[I" ∈ wA := wm (tq1 (i := 66) rfl) rfl
theorem q276 : Cond.fieldLink RX4 98 "FirstAwake$Valley" "span" "[I" ∈ wA := wm (tq1 (i := 71) rfl) rfl
theorem q277 : Cond.fieldLink RX4 101 "FirstAwake$Valley" "light" "[I" ∈ wA := wm (tq1 (i := 75) rfl) rfl
theorem q278 : Cond.methodLink RX7 76 yX5_copyFrom ∈ wA := wm (tq2 (i := 178) rfl) rfl
theorem q279 : Cond.instanceMethod yX5_copyFrom ∈ wA := wm (tq2 (i := 179) rfl) rfl
theorem q280 : Cond.selects RX5 yX5_copyFrom yX5_copyFrom ∈ wA := wm (tq2 (i := 180) rfl) rfl
theorem q281 : Cond.code yX5_copyFrom cX5_copyFrom 2 none ∈ wA := wm (tq2 (i := 181) rfl) rfl
theorem q282 : Cond.fieldLink RX5 33 "FirstAwake$Valley" "houses" "I" ∈ wA := wm (tq1 (i := 36) rfl) rfl
theorem q283 : Cond.methodLink RX5 40 arraycopyName ∈ wA := wm (tq2 (i := 182) rfl) rfl
theorem q284 : Cond.native arraycopyName ∈ wA := wm (tq2 (i := 184) rfl) rfl
theorem q285 : Cond.static arraycopyName ∈ wA := wm (tq2 (i := 183) rfl) rfl
theorem q286 : Cond.initialized "java/lang/System" ∈ wA := wm (tq1 (i := 14) rfl) rfl
theorem q287 : Cond.fieldLink RX5 37 "FirstAwake$Valley" "sleepers" "I" ∈ wA := wm (tq1 (i := 53) rfl) rfl
theorem q288 : Cond.methodLink RX7 79 yX0_beginAnew ∈ wA := wm (tq2 (i := 185) rfl) rfl
theorem q289 : Cond.instanceMethod yX0_beginAnew ∈ wA := wm (tq2 (i := 186) rfl) rfl
theorem q290 : Cond.selects RX0 yX0_beginAnew yX0_beginAnew ∈ wA := wm (tq2 (i := 187) rfl) rfl
theorem q291 : Cond.code yX0_beginAnew cX0_beginAnew 1 none ∈ wA := wm (tq2 (i := 188) rfl) rfl
theorem q292 : Cond.fieldLink RX0 43 "FirstAwake$Course" "day" "I" ∈ wA := wm (tq1 (i := 174) rfl) rfl
theorem q293 : Cond.fieldLink RX0 53 "FirstAwake$Course" "had" "I" ∈ wA := wm (tq1 (i := 180) rfl) rfl
theorem q294 : Cond.fieldLink RX0 56 "FirstAwake$Course" "kept" "I" ∈ wA := wm (tq1 (i := 182) rfl) rfl
theorem q295 : Cond.methodLink RX0 40 yX1_beginAnew ∈ wA := wm (tq2 (i := 189) rfl) rfl
theorem q296 : Cond.instanceMethod yX1_beginAnew ∈ wA := wm (tq2 (i := 190) rfl) rfl
theorem q297 : Cond.selects RX1 yX1_beginAnew yX1_beginAnew ∈ wA := wm (tq2 (i := 191) rfl) rfl
theorem q298 : Cond.code yX1_beginAnew cX1_beginAnew 1 none ∈ wA := wm (tq2 (i := 192) rfl) rfl
theorem q299 : Cond.fieldLink RX1 44 "FirstAwake$Night" "law" "I" ∈ wA := wm (tq1 (i := 146) rfl) rfl
theorem q300 : Cond.methodLink RX1 38 yJ7_fill_53178 ∈ wA := wm (tq2 (i := 193) rfl) rfl
theorem q301 : Cond.static yJ7_fill_53178 ∈ wA := wm (tq2 (i := 194) rfl) rfl
theorem q302 : Cond.initialized RJ7 ∈ wA := wm (tq1 (i := 15) rfl) rfl
theorem q303 : Cond.code yJ7_fill_53178 cJ7_fill_53178 4 none ∈ wA := wm (tq2 (i := 195) rfl) rfl
theorem q304 : Cond.methodLink RX1 47 yX1_makeNoise ∈ wA := wm (tq2 (i := 196) rfl) rfl
theorem q305 : Cond.instanceMethod yX1_makeNoise ∈ wA := wm (tq2 (i := 197) rfl) rfl
theorem q306 : Cond.selects RX1 yX1_makeNoise yX1_makeNoise ∈ wA := wm (tq2 (i := 198) rfl) rfl
theorem q307 : Cond.code yX1_makeNoise cX1_makeNoise 5 none ∈ wA := wm (tq2 (i := 199) rfl) rfl
theorem q308 : Cond.fieldLink RX1 57 "FirstAwake$Valley" "sleepers" "I" ∈ wA := wm (tq1 (i := 57) rfl) rfl
theorem q309 : Cond.methodLink RX1 62 yX1_layOut ∈ wA := wm (tq2 (i := 200) rfl) rfl
theorem q310 : Cond.instanceMethod yX1_layOut ∈ wA := wm (tq2 (i := 202) rfl) rfl
theorem q311 : Cond.selects RX1 yX1_layOut yX1_layOut ∈ wA := wm (tqp (i := 8) rfl) rfl
theorem q312 : Cond.code yX1_layOut cX1_layOut 4 none ∈ wA := wm (tq2 (i := 203) rfl) rfl
theorem q313 : Cond.fieldLink RX1 73 "FirstAwake$Valley" "wake" "[I" ∈ wA := wm (tq1 (i := 68) rfl) rfl
theorem q314 : Cond.fieldLink RX1 76 "FirstAwake$Valley" "span" "[I" ∈ wA := wm (tq1 (i := 73) rfl) rfl
theorem q315 : Cond.fieldLink RX1 66 "FirstAwake$Valley" "home" "[I" ∈ wA := wm (tq1 (i := 61) rfl) rfl
theorem q316 : Cond.fieldLink RX1 79 "FirstAwake$Valley" "light" "[I" ∈ wA := wm (tq1 (i := 77) rfl) rfl
theorem q317 : Cond.constant RX1 82 (1000000) ∈ wA := wm (tq2 (i := 204) rfl) rfl
theorem q318 : Cond.methodLink RX0 47 yJ7_fill_53178 ∈ wA := wm (tq2 (i := 205) rfl) rfl
theorem q319 : Cond.methodLink RL 24 yX8_valley ∈ wA := wm (tq4 (i := 160) rfl) rfl
theorem q320 : Cond.instanceMethod yX8_valley ∈ wA := wm (tq4 (i := 161) rfl) rfl
theorem q321 : Cond.selects RX8 yX8_valley yX8_valley ∈ wA := wm (tq4 (i := 162) rfl) rfl
theorem q322 : Cond.code yX8_valley cX8_valley 3 (some .int) ∈ wA := wm (tq4 (i := 163) rfl) rfl
theorem q323 : Cond.fieldLink RX8 140 "FirstAwakeModel" "at0" "I" ∈ wA := wm (tq4 (i := 25) rfl) rfl
theorem q324 : Cond.fieldLink RX8 183 "FirstAwakeModel" "readHouses" "I" ∈ wA := wm (tq4 (i := 30) rfl) rfl
theorem q325 : Cond.fieldLink RX8 190 "FirstAwakeModel" "readSleepers" "I" ∈ wA := wm (tq4 (i := 34) rfl) rfl
theorem q326 : Cond.fieldLink RX8 116 "FirstAwakeModel" "sleepers" "I" ∈ wA := wm (tq4 (i := 4) rfl) rfl
theorem q327 : Cond.fieldLink RX8 213 "FirstAwakeModel" "tolds" "I" ∈ wA := wm (tq4 (i := 44) rfl) rfl
theorem q328 : Cond.methodLink RX8 143 yX8_here ∈ wA := wm (tq4 (i := 164) rfl) rfl
theorem q329 : Cond.instanceMethod yX8_here ∈ wA := wm (tq4 (i := 166) rfl) rfl
theorem q330 : Cond.selects RX8 yX8_here yX8_here ∈ wA := wm (tqp (i := 20) rfl) rfl
theorem q331 : Cond.code yX8_here cX8_here 1 (some .int) ∈ wA := wm (tq4 (i := 167) rfl) rfl
theorem q332 : Cond.methodLink RX8 210 yX8_takeClause ∈ wA := wm (tq4 (i := 168) rfl) rfl
theorem q333 : Cond.instanceMethod yX8_takeClause ∈ wA := wm (tq4 (i := 170) rfl) rfl
theorem q334 : Cond.selects RX8 yX8_takeClause yX8_takeClause ∈ wA := wm (tqp (i := 21) rfl) rfl
theorem q335 : Cond.code yX8_takeClause cX8_takeClause 3 (some .int) ∈ wA := wm (tq4 (i := 171) rfl) rfl
theorem q336 : Cond.fieldLink RX8 147 "FirstAwakeModel" "said" "J" ∈ wA := wm (tq4 (i := 26) rfl) rfl
theorem q337 : Cond.fieldLink RX8 151 "FirstAwakeModel" "wordEnd" "I" ∈ wA := wm (tq4 (i := 27) rfl) rfl
theorem q338 : Cond.methodLink RX8 193 yX8_readWord ∈ wA := wm (tq4 (i := 172) rfl) rfl
theorem q339 : Cond.instanceMethod yX8_readWord ∈ wA := wm (tq4 (i := 174) rfl) rfl
theorem q340 : Cond.selects RX8 yX8_readWord yX8_readWord ∈ wA := wm (tqp (i := 22) rfl) rfl
theorem q341 : Cond.code yX8_readWord cX8_readWord 2 none ∈ wA := wm (tq4 (i := 175) rfl) rfl
theorem q342 : Cond.constantLong RX8 154 (97) ∈ wA := wm (tq4 (i := 176) rfl) rfl
theorem q343 : Cond.constantLong RX8 156 (122) ∈ wA := wm (tq4 (i := 177) rfl) rfl
theorem q344 : Cond.constantLong RX8 158 (1000000000000) ∈ wA := wm (tq4 (i := 178) rfl) rfl
theorem q345 : Cond.constantLong RX8 160 (2000000000000) ∈ wA := wm (tq4 (i := 179) rfl) rfl
theorem q346 : Cond.constantLong RX8 162 (27) ∈ wA := wm (tq4 (i := 180) rfl) rfl
theorem q347 : Cond.constantLong RX8 164 (96) ∈ wA := wm (tq4 (i := 181) rfl) rfl
theorem q348 : Cond.methodLink RX8 196 yX8_code ∈ wA := wm (tq4 (i := 182) rfl) rfl
theorem q349 : Cond.static yX8_code ∈ wA := wm (tq4 (i := 183) rfl) rfl
theorem q350 : Cond.code yX8_code cX8_code 3 (some .long) ∈ wA := wm (tq4 (i := 184) rfl) rfl
theorem q351 : Cond.methodLink RX8 200 yX8_longer ∈ wA := wm (tq4 (i := 185) rfl) rfl
theorem q352 : Cond.static yX8_longer ∈ wA := wm (tq4 (i := 186) rfl) rfl
theorem q353 : Cond.code yX8_longer cX8_longer 4 (some .long) ∈ wA := wm (tq4 (i := 187) rfl) rfl
theorem q354 : Cond.methodLink RX8 170 yX8_fails ∈ wA := wm (tq4 (i := 188) rfl) rfl
theorem q355 : Cond.instanceMethod yX8_fails ∈ wA := wm (tq4 (i := 190) rfl) rfl
theorem q356 : Cond.selects RX8 yX8_fails yX8_fails ∈ wA := wm (tqp (i := 23) rfl) rfl
theorem q357 : Cond.code yX8_fails cX8_fails 3 (some .int) ∈ wA := wm (tq4 (i := 191) rfl) rfl
theorem q358 : Cond.methodLink RX8 204 yX8_takeHouse ∈ wA := wm (tq4 (i := 192) rfl) rfl
theorem q359 : Cond.instanceMethod yX8_takeHouse ∈ wA := wm (tq4 (i := 194) rfl) rfl
theorem q360 : Cond.selects RX8 yX8_takeHouse yX8_takeHouse ∈ wA := wm (tqp (i := 24) rfl) rfl
theorem q361 : Cond.code yX8_takeHouse cX8_takeHouse 3 (some .int) ∈ wA := wm (tq4 (i := 195) rfl) rfl
theorem q362 : Cond.methodLink RX8 186 yX8_into ∈ wA := wm (tq4 (i := 196) rfl) rfl
theorem q363 : Cond.instanceMethod yX8_into ∈ wA := wm (tq4 (i := 198) rfl) rfl
theorem q364 : Cond.selects RX8 yX8_into yX8_into ∈ wA := wm (tqp (i := 25) rfl) rfl
theorem q365 : Cond.code yX8_into cX8_into 6 (some .int) ∈ wA := wm (tq4 (i := 199) rfl) rfl
theorem q366 : Cond.fieldLink RX8 177 "FirstAwakeModel" "number" "I" ∈ wA := wm (tq4 (i := 28) rfl) rfl
theorem q367 : Cond.methodLink RX8 180 yX8_takeNumber ∈ wA := wm (tq4 (i := 200) rfl) rfl
theorem q368 : Cond.instanceMethod yX8_takeNumber ∈ wA := wm (tq4 (i := 202) rfl) rfl
theorem q369 : Cond.selects RX8 yX8_takeNumber yX8_takeNumber ∈ wA := wm (tqp (i := 26) rfl) rfl
theorem q370 : Cond.code yX8_takeNumber cX8_takeNumber 4 (some .int) ∈ wA := wm (tq4 (i := 203) rfl) rfl
theorem q371 : Cond.constantLong RX8 166 (48) ∈ wA := wm (tq4 (i := 204) rfl) rfl
theorem q372 : Cond.constantLong RX8 168 (57) ∈ wA := wm (tq4 (i := 205) rfl) rfl
theorem q373 : Cond.fieldLink RX8 174 "FirstAwakeModel" "numberAt" "I" ∈ wA := wm (tq4 (i := 29) rfl) rfl
theorem q374 : Cond.methodLink RX8 207 yX8_takeSleeper ∈ wA := wm (tq4 (i := 206) rfl) rfl
theorem q375 : Cond.instanceMethod yX8_takeSleeper ∈ wA := wm (tq4 (i := 208) rfl) rfl
theorem q376 : Cond.selects RX8 yX8_takeSleeper yX8_takeSleeper ∈ wA := wm (tqp (i := 27) rfl) rfl
theorem q377 : Cond.code yX8_takeSleeper cX8_takeSleeper 3 (some .int) ∈ wA := wm (tq4 (i := 209) rfl) rfl
theorem q378 : Cond.methodLink RX8 216 yX8_begin ∈ wA := wm (tq4 (i := 210) rfl) rfl
theorem q379 : Cond.instanceMethod yX8_begin ∈ wA := wm (tq4 (i := 212) rfl) rfl
theorem q380 : Cond.selects RX8 yX8_begin yX8_begin ∈ wA := wm (tqp (i := 28) rfl) rfl
theorem q381 : Cond.code yX8_begin cX8_begin 2 none ∈ wA := wm (tq4 (i := 213) rfl) rfl
theorem q382 : Cond.fieldLink RX8 119 "FirstAwakeModel" "law" "I" ∈ wA := wm (tq4 (i := 13) rfl) rfl
theorem q383 : Cond.fieldLink RX8 122 "FirstAwakeModel" "day" "I" ∈ wA := wm (tq4 (i := 14) rfl) rfl
theorem q384 : Cond.fieldLink RX8 125 "FirstAwakeModel" "had" "I" ∈ wA := wm (tq4 (i := 17) rfl) rfl
theorem q385 : Cond.fieldLink RX8 128 "FirstAwakeModel" "kept" "I" ∈ wA := wm (tq4 (i := 18) rfl) rfl
theorem q386 : Cond.methodLink RL 25 yX7_fault ∈ wA := wm (tq2 (i := 206) rfl) rfl
theorem q387 : Cond.instanceMethod yX7_fault ∈ wA := wm (tq2 (i := 207) rfl) rfl
theorem q388 : Cond.selects RX7 yX7_fault yX7_fault ∈ wA := wm (tq2 (i := 208) rfl) rfl
theorem q389 : Cond.code yX7_fault cX7_fault 1 (some .int) ∈ wA := wm (tq2 (i := 209) rfl) rfl
theorem q390 : Cond.fieldLink RX7 91 "FirstAwake$Reader" "faultByte" "I" ∈ wA := wm (tq1 (i := 107) rfl) rfl
theorem q391 : Cond.methodLink RL 28 yX8_fault ∈ wA := wm (tq4 (i := 214) rfl) rfl
theorem q392 : Cond.instanceMethod yX8_fault ∈ wA := wm (tq4 (i := 215) rfl) rfl
theorem q393 : Cond.selects RX8 yX8_fault yX8_fault ∈ wA := wm (tq4 (i := 216) rfl) rfl
theorem q394 : Cond.code yX8_fault cX8_fault 1 (some .int) ∈ wA := wm (tq4 (i := 217) rfl) rfl
theorem q395 : Cond.methodLink RL 29 yX7_told ∈ wA := wm (tq2 (i := 210) rfl) rfl
theorem q396 : Cond.instanceMethod yX7_told ∈ wA := wm (tq2 (i := 211) rfl) rfl
theorem q397 : Cond.selects RX7 yX7_told yX7_told ∈ wA := wm (tq2 (i := 212) rfl) rfl
theorem q398 : Cond.code yX7_told cX7_told 2 (some .int) ∈ wA := wm (tq2 (i := 213) rfl) rfl
theorem q399 : Cond.fieldLink RX7 94 "FirstAwake$Valley" "houses" "I" ∈ wA := wm (tq1 (i := 39) rfl) rfl
theorem q400 : Cond.fieldLink RX7 97 "FirstAwake$Course" "day" "I" ∈ wA := wm (tq1 (i := 175) rfl) rfl
theorem q401 : Cond.fieldLink RX7 100 "FirstAwake$Course" "night" "LFirstAwake$Night;" ∈ wA := wm (tq1 (i := 173) rfl) rfl
theorem q402 : Cond.fieldLink RX7 104 "FirstAwake$Night" "law" "I" ∈ wA := wm (tq1 (i := 148) rfl) rfl
theorem q403 : Cond.fieldLink RX7 109 "FirstAwake$Night" "noiseMinute" "I" ∈ wA := wm (tq1 (i := 143) rfl) rfl
theorem q404 : Cond.fieldLink RX7 112 "FirstAwake$Night" "loudness" "I" ∈ wA := wm (tq1 (i := 145) rfl) rfl
theorem q405 : Cond.fieldLink RX7 115 "FirstAwake$Night" "noiseHouse" "I" ∈ wA := wm (tq1 (i := 141) rfl) rfl
theorem q406 : Cond.fieldLink RX7 118 "FirstAwake$Course" "kept" "I" ∈ wA := wm (tq1 (i := 183) rfl) rfl
theorem q407 : Cond.fieldLink RX7 121 "FirstAwake$Course" "had" "I" ∈ wA := wm (tq1 (i := 181) rfl) rfl
theorem q408 : Cond.methodLink RL 33 yX8_told ∈ wA := wm (tq4 (i := 218) rfl) rfl
theorem q409 : Cond.instanceMethod yX8_told ∈ wA := wm (tq4 (i := 219) rfl) rfl
theorem q410 : Cond.selects RX8 yX8_told yX8_told ∈ wA := wm (tq4 (i := 220) rfl) rfl
theorem q411 : Cond.code yX8_told cX8_told 2 (some .int) ∈ wA := wm (tq4 (i := 221) rfl) rfl
theorem q412 : Cond.methodLink RL 34 yX7_house ∈ wA := wm (tq2 (i := 214) rfl) rfl
theorem q413 : Cond.instanceMethod yX7_house ∈ wA := wm (tq2 (i := 215) rfl) rfl
theorem q414 : Cond.selects RX7 yX7_house yX7_house ∈ wA := wm (tq2 (i := 216) rfl) rfl
theorem q415 : Cond.code yX7_house cX7_house 3 (some .int) ∈ wA := wm (tq2 (i := 217) rfl) rfl
theorem q416 : Cond.constant RX7 128 (-1000000001) ∈ wA := wm (tq2 (i := 222) rfl) rfl
theorem q417 : Cond.fieldLink RX7 129 "FirstAwake$Valley" "need" "[I" ∈ wA := wm (tq1 (i := 42) rfl) rfl
theorem q418 : Cond.fieldLink RX7 133 "FirstAwake$Valley" "worth" "[I" ∈ wA := wm (tq1 (i := 47) rfl) rfl
theorem q419 : Cond.fieldLink RX7 136 "FirstAwake$Valley" "bed" "[I" ∈ wA := wm (tq1 (i := 52) rfl) rfl
theorem q420 : Cond.fieldLink RX7 139 "FirstAwake$Course" "onEnd" "[I" ∈ wA := wm (tq1 (i := 177) rfl) rfl
theorem q421 : Cond.fieldLink RX7 142 "FirstAwake$Course" "done" "[I" ∈ wA := wm (tq1 (i := 179) rfl) rfl
theorem q422 : Cond.methodLink RX7 124 yX5_hasHouse ∈ wA := wm (tq2 (i := 218) rfl) rfl
theorem q423 : Cond.instanceMethod yX5_hasHouse ∈ wA := wm (tq2 (i := 219) rfl) rfl
theorem q424 : Cond.selects RX5 yX5_hasHouse yX5_hasHouse ∈ wA := wm (tq2 (i := 220) rfl) rfl
theorem q425 : Cond.code yX5_hasHouse cX5_hasHouse 2 (some .boolean) ∈ wA := wm (tq2 (i := 221) rfl) rfl
theorem q426 : Cond.methodLink RX7 145 yX5_sleepersOf ∈ wA := wm (tq2 (i := 223) rfl) rfl
theorem q427 : Cond.instanceMethod yX5_sleepersOf ∈ wA := wm (tq2 (i := 224) rfl) rfl
theorem q428 : Cond.selects RX5 yX5_sleepersOf yX5_sleepersOf ∈ wA := wm (tq2 (i := 225) rfl) rfl
theorem q429 : Cond.code yX5_sleepersOf cX5_sleepersOf 4 (some .int) ∈ wA := wm (tq2 (i := 226) rfl) rfl
theorem q430 : Cond.methodLink RL 38 yX8_house ∈ wA := wm (tq4 (i := 222) rfl) rfl
theorem q431 : Cond.instanceMethod yX8_house ∈ wA := wm (tq4 (i := 223) rfl) rfl
theorem q432 : Cond.selects RX8 yX8_house yX8_house ∈ wA := wm (tq4 (i := 224) rfl) rfl
theorem q433 : Cond.code yX8_house cX8_house 3 (some .int) ∈ wA := wm (tq4 (i := 225) rfl) rfl
theorem q434 : Cond.constant RX8 223 (-1000000001) ∈ wA := wm (tq4 (i := 230) rfl) rfl
theorem q435 : Cond.methodLink RX8 219 yX8_isHouse ∈ wA := wm (tq4 (i := 226) rfl) rfl
theorem q436 : Cond.instanceMethod yX8_isHouse ∈ wA := wm (tq4 (i := 228) rfl) rfl
theorem q437 : Cond.selects RX8 yX8_isHouse yX8_isHouse ∈ wA := wm (tqp (i := 29) rfl) rfl
theorem q438 : Cond.code yX8_isHouse cX8_isHouse 2 (some .boolean) ∈ wA := wm (tq4 (i := 229) rfl) rfl
theorem q439 : Cond.methodLink RX8 224 yX8_sleepersOf ∈ wA := wm (tq4 (i := 231) rfl) rfl
theorem q440 : Cond.instanceMethod yX8_sleepersOf ∈ wA := wm (tq4 (i := 233) rfl) rfl
theorem q441 : Cond.selects RX8 yX8_sleepersOf yX8_sleepersOf ∈ wA := wm (tqp (i := 30) rfl) rfl
theorem q442 : Cond.code yX8_sleepersOf cX8_sleepersOf 4 (some .int) ∈ wA := wm (tq4 (i := 234) rfl) rfl
theorem q443 : Cond.methodLink RL 39 yX7_sleeper ∈ wA := wm (tq2 (i := 227) rfl) rfl
theorem q444 : Cond.instanceMethod yX7_sleeper ∈ wA := wm (tq2 (i := 228) rfl) rfl
theorem q445 : Cond.selects RX7 yX7_sleeper yX7_sleeper ∈ wA := wm (tq2 (i := 229) rfl) rfl
theorem q446 : Cond.code yX7_sleeper cX7_sleeper 3 (some .int) ∈ wA := wm (tq2 (i := 230) rfl) rfl
theorem q447 : Cond.fieldLink RX7 152 "FirstAwake$Valley" "home" "[I" ∈ wA := wm (tq1 (i := 63) rfl) rfl
theorem q448 : Cond.fieldLink RX7 155 "FirstAwake$Valley" "wake" "[I" ∈ wA := wm (tq1 (i := 67) rfl) rfl
theorem q449 : Cond.fieldLink RX7 158 "FirstAwake$Valley" "span" "[I" ∈ wA := wm (tq1 (i := 72) rfl) rfl
theorem q450 : Cond.fieldLink RX7 161 "FirstAwake$Valley" "light" "[I" ∈ wA := wm (tq1 (i := 76) rfl) rfl
theorem q451 : Cond.fieldLink RX7 164 "FirstAwake$Night" "shifted" "[I" ∈ wA := wm (tq1 (i := 139) rfl) rfl
theorem q452 : Cond.methodLink RX7 149 yX5_hasSleeper ∈ wA := wm (tq2 (i := 231) rfl) rfl
theorem q453 : Cond.instanceMethod yX5_hasSleeper ∈ wA := wm (tq2 (i := 232) rfl) rfl
theorem q454 : Cond.selects RX5 yX5_hasSleeper yX5_hasSleeper ∈ wA := wm (tq2 (i := 233) rfl) rfl
theorem q455 : Cond.code yX5_hasSleeper cX5_hasSleeper 2 (some .boolean) ∈ wA := wm (tq2 (i := 234) rfl) rfl
theorem q456 : Cond.methodLink RX7 167 yX1_firstMinute ∈ wA := wm (tq2 (i := 235) rfl) rfl
theorem q457 : Cond.instanceMethod yX1_firstMinute ∈ wA := wm (tq2 (i := 236) rfl) rfl
theorem q458 : Cond.selects RX1 yX1_firstMinute yX1_firstMinute ∈ wA := wm (tq2 (i := 237) rfl) rfl
theorem q459 : Cond.code yX1_firstMinute cX1_firstMinute 2 (some .int) ∈ wA := wm (tq2 (i := 238) rfl) rfl
theorem q460 : Cond.methodLink RX1 83 yX1_heard ∈ wA := wm (tq2 (i := 239) rfl) rfl
theorem q461 : Cond.instanceMethod yX1_heard ∈ wA := wm (tq3 (i := 0) rfl) rfl
theorem q462 : Cond.selects RX1 yX1_heard yX1_heard ∈ wA := wm (tq3 (i := 1) rfl) rfl
theorem q463 : Cond.code yX1_heard cX1_heard 3 (some .int) ∈ wA := wm (tq3 (i := 2) rfl) rfl
theorem q464 : Cond.methodLink RX7 170 yX1_lastMinute ∈ wA := wm (tq3 (i := 3) rfl) rfl
theorem q465 : Cond.instanceMethod yX1_lastMinute ∈ wA := wm (tq3 (i := 4) rfl) rfl
theorem q466 : Cond.selects RX1 yX1_lastMinute yX1_lastMinute ∈ wA := wm (tq3 (i := 5) rfl) rfl
theorem q467 : Cond.code yX1_lastMinute cX1_lastMinute 2 (some .int) ∈ wA := wm (tq3 (i := 6) rfl) rfl
theorem q468 : Cond.methodLink RL 42 yX8_sleeper ∈ wA := wm (tq4 (i := 235) rfl) rfl
theorem q469 : Cond.instanceMethod yX8_sleeper ∈ wA := wm (tq4 (i := 236) rfl) rfl
theorem q470 : Cond.selects RX8 yX8_sleeper yX8_sleeper ∈ wA := wm (tq4 (i := 237) rfl) rfl
theorem q471 : Cond.code yX8_sleeper cX8_sleeper 3 (some .int) ∈ wA := wm (tq4 (i := 238) rfl) rfl
theorem q472 : Cond.methodLink RX8 231 yX8_isSleeper ∈ wA := wm (tq4 (i := 239) rfl) rfl
theorem q473 : Cond.instanceMethod yX8_isSleeper ∈ wA := wm (tq5 (i := 1) rfl) rfl
theorem q474 : Cond.selects RX8 yX8_isSleeper yX8_isSleeper ∈ wA := wm (tqp (i := 31) rfl) rfl
theorem q475 : Cond.code yX8_isSleeper cX8_isSleeper 2 (some .boolean) ∈ wA := wm (tq5 (i := 2) rfl) rfl
theorem q476 : Cond.methodLink RX8 234 yX8_firstOf ∈ wA := wm (tq5 (i := 3) rfl) rfl
theorem q477 : Cond.instanceMethod yX8_firstOf ∈ wA := wm (tq5 (i := 5) rfl) rfl
theorem q478 : Cond.selects RX8 yX8_firstOf yX8_firstOf ∈ wA := wm (tqp (i := 32) rfl) rfl
theorem q479 : Cond.code yX8_firstOf cX8_firstOf 2 (some .int) ∈ wA := wm (tq5 (i := 6) rfl) rfl
theorem q480 : Cond.methodLink RX8 237 yX8_heard ∈ wA := wm (tq5 (i := 7) rfl) rfl
theorem q481 : Cond.instanceMethod yX8_heard ∈ wA := wm (tq5 (i := 9) rfl) rfl
theorem q482 : Cond.selects RX8 yX8_heard yX8_heard ∈ wA := wm (tqp (i := 33) rfl) rfl
theorem q483 : Cond.code yX8_heard cX8_heard 3 (some .int) ∈ wA := wm (tq5 (i := 10) rfl) rfl
theorem q484 : Cond.methodLink RX8 228 yX8_isStartled ∈ wA := wm (tq5 (i := 11) rfl) rfl
theorem q485 : Cond.instanceMethod yX8_isStartled ∈ wA := wm (tq5 (i := 13) rfl) rfl
theorem q486 : Cond.selects RX8 yX8_isStartled yX8_isStartled ∈ wA := wm (tqp (i := 34) rfl) rfl
theorem q487 : Cond.code yX8_isStartled cX8_isStartled 2 (some .boolean) ∈ wA := wm (tq5 (i := 14) rfl) rfl
theorem q488 : Cond.methodLink RX8 240 yX8_lastOf ∈ wA := wm (tq5 (i := 15) rfl) rfl
theorem q489 : Cond.instanceMethod yX8_lastOf ∈ wA := wm (tq5 (i := 17) rfl) rfl
theorem q490 : Cond.selects RX8 yX8_lastOf yX8_lastOf ∈ wA := wm (tqp (i := 35) rfl) rfl
theorem q491 : Cond.code yX8_lastOf cX8_lastOf 2 (some .int) ∈ wA := wm (tq5 (i := 18) rfl) rfl
theorem q492 : Cond.methodLink RL 43 yX7_shift ∈ wA := wm (tq3 (i := 7) rfl) rfl
theorem q493 : Cond.instanceMethod yX7_shift ∈ wA := wm (tq3 (i := 8) rfl) rfl
theorem q494 : Cond.selects RX7 yX7_shift yX7_shift ∈ wA := wm (tq3 (i := 9) rfl) rfl
theorem q495 : Cond.code yX7_shift cX7_shift 4 (some .int) ∈ wA := wm (tq3 (i := 10) rfl) rfl
theorem q496 : Cond.methodLink RX7 173 yX1_shiftOne ∈ wA := wm (tq3 (i := 11) rfl) rfl
theorem q497 : Cond.instanceMethod yX1_shiftOne ∈ wA := wm (tq3 (i := 12) rfl) rfl
theorem q498 : Cond.selects RX1 yX1_shiftOne yX1_shiftOne ∈ wA := wm (tq3 (i := 13) rfl) rfl
theorem q499 : Cond.code yX1_shiftOne cX1_shiftOne 3 none ∈ wA := wm (tq3 (i := 14) rfl) rfl
theorem q500 : Cond.methodLink RL 46 yX8_shift ∈ wA := wm (tq5 (i := 19) rfl) rfl
theorem q501 : Cond.instanceMethod yX8_shift ∈ wA := wm (tq5 (i := 20) rfl) rfl
theorem q502 : Cond.selects RX8 yX8_shift yX8_shift ∈ wA := wm (tq5 (i := 21) rfl) rfl
theorem q503 : Cond.code yX8_shift cX8_shift 4 (some .int) ∈ wA := wm (tq5 (i := 22) rfl) rfl
theorem q504 : Cond.methodLink RL 47 yX7_noise ∈ wA := wm (tq3 (i := 15) rfl) rfl
theorem q505 : Cond.instanceMethod yX7_noise ∈ wA := wm (tq3 (i := 16) rfl) rfl
theorem q506 : Cond.selects RX7 yX7_noise yX7_noise ∈ wA := wm (tq3 (i := 17) rfl) rfl
theorem q507 : Cond.code yX7_noise cX7_noise 5 (some .int) ∈ wA := wm (tq3 (i := 18) rfl) rfl
theorem q508 : Cond.methodLink RX7 177 yX1_isNoisy ∈ wA := wm (tq3 (i := 19) rfl) rfl
theorem q509 : Cond.instanceMethod yX1_isNoisy ∈ wA := wm (tq3 (i := 20) rfl) rfl
theorem q510 : Cond.selects RX1 yX1_isNoisy yX1_isNoisy ∈ wA := wm (tq3 (i := 21) rfl) rfl
theorem q511 : Cond.code yX1_isNoisy cX1_isNoisy 1 (some .boolean) ∈ wA := wm (tq3 (i := 22) rfl) rfl
theorem q512 : Cond.methodLink RX7 181 yX1_makeNoise ∈ wA := wm (tq3 (i := 23) rfl) rfl
theorem q513 : Cond.methodLink RL 51 yX8_noise ∈ wA := wm (tq5 (i := 23) rfl) rfl
theorem q514 : Cond.instanceMethod yX8_noise ∈ wA := wm (tq5 (i := 24) rfl) rfl
theorem q515 : Cond.selects RX8 yX8_noise yX8_noise ∈ wA := wm (tq5 (i := 25) rfl) rfl
theorem q516 : Cond.code yX8_noise cX8_noise 5 (some .int) ∈ wA := wm (tq5 (i := 26) rfl) rfl
theorem q517 : Cond.constantLong RX8 243 (700) ∈ wA := wm (tq5 (i := 27) rfl) rfl
theorem q518 : Cond.constantLong RX8 245 (9) ∈ wA := wm (tq5 (i := 28) rfl) rfl
theorem q519 : Cond.methodLink RX8 247 yX8_setNoise ∈ wA := wm (tq5 (i := 29) rfl) rfl
theorem q520 : Cond.instanceMethod yX8_setNoise ∈ wA := wm (tq5 (i := 31) rfl) rfl
theorem q521 : Cond.selects RX8 yX8_setNoise yX8_setNoise ∈ wA := wm (tqp (i := 36) rfl) rfl
theorem q522 : Cond.code yX8_setNoise cX8_setNoise 4 none ∈ wA := wm (tq5 (i := 32) rfl) rfl
theorem q523 : Cond.methodLink RL 52 yX7_hush ∈ wA := wm (tq3 (i := 24) rfl) rfl
theorem q524 : Cond.instanceMethod yX7_hush ∈ wA := wm (tq3 (i := 25) rfl) rfl
theorem q525 : Cond.selects RX7 yX7_hush yX7_hush ∈ wA := wm (tq3 (i := 26) rfl) rfl
theorem q526 : Cond.code yX7_hush cX7_hush 2 (some .int) ∈ wA := wm (tq3 (i := 27) rfl) rfl
theorem q527 : Cond.methodLink RL 55 yX8_hush ∈ wA := wm (tq5 (i := 33) rfl) rfl
theorem q528 : Cond.instanceMethod yX8_hush ∈ wA := wm (tq5 (i := 34) rfl) rfl
theorem q529 : Cond.selects RX8 yX8_hush yX8_hush ∈ wA := wm (tq5 (i := 35) rfl) rfl
theorem q530 : Cond.code yX8_hush cX8_hush 2 (some .int) ∈ wA := wm (tq5 (i := 36) rfl) rfl
theorem q531 : Cond.methodLink RL 56 yX7_law ∈ wA := wm (tq3 (i := 28) rfl) rfl
theorem q532 : Cond.instanceMethod yX7_law ∈ wA := wm (tq3 (i := 29) rfl) rfl
theorem q533 : Cond.selects RX7 yX7_law yX7_law ∈ wA := wm (tq3 (i := 30) rfl) rfl
theorem q534 : Cond.code yX7_law cX7_law 3 (some .int) ∈ wA := wm (tq3 (i := 31) rfl) rfl
theorem q535 : Cond.methodLink RL 59 yX8_law ∈ wA := wm (tq5 (i := 37) rfl) rfl
theorem q536 : Cond.instanceMethod yX8_law ∈ wA := wm (tq5 (i := 38) rfl) rfl
theorem q537 : Cond.selects RX8 yX8_law yX8_law ∈ wA := wm (tq5 (i := 39) rfl) rfl
theorem q538 : Cond.code yX8_law cX8_law 3 (some .int) ∈ wA := wm (tq5 (i := 40) rfl) rfl
theorem q539 : Cond.constantLong RX8 251 (2) ∈ wA := wm (tq5 (i := 41) rfl) rfl
theorem q540 : Cond.methodLink RL 60 yX7_dawn ∈ wA := wm (tq3 (i := 32) rfl) rfl
theorem q541 : Cond.instanceMethod yX7_dawn ∈ wA := wm (tq3 (i := 33) rfl) rfl
theorem q542 : Cond.selects RX7 yX7_dawn yX7_dawn ∈ wA := wm (tq3 (i := 34) rfl) rfl
theorem q543 : Cond.code yX7_dawn cX7_dawn 4 (some .int) ∈ wA := wm (tq3 (i := 35) rfl) rfl
theorem q544 : Cond.constant RX7 185 (-1000000003) ∈ wA := wm (tq3 (i := 36) rfl) rfl
theorem q545 : Cond.methodLink RX7 186 yX0_liveDay ∈ wA := wm (tq3 (i := 37) rfl) rfl
theorem q546 : Cond.instanceMethod yX0_liveDay ∈ wA := wm (tq3 (i := 38) rfl) rfl
theorem q547 : Cond.selects RX0 yX0_liveDay yX0_liveDay ∈ wA := wm (tq3 (i := 39) rfl) rfl
theorem q548 : Cond.code yX0_liveDay cX0_liveDay 2 (some .int) ∈ wA := wm (tq3 (i := 40) rfl) rfl
theorem q549 : Cond.fieldLink RX0 72 "FirstAwake$Valley" "sleepers" "I" ∈ wA := wm (tq1 (i := 56) rfl) rfl
theorem q550 : Cond.fieldLink RX0 77 "FirstAwake$Valley" "span" "[I" ∈ wA := wm (tq1 (i := 70) rfl) rfl
theorem q551 : Cond.fieldLink RX0 88 "FirstAwake$Night" "law" "I" ∈ wA := wm (tq1 (i := 147) rfl) rfl
theorem q552 : Cond.fieldLink RX0 99 "FirstAwake$Valley" "home" "[I" ∈ wA := wm (tq1 (i := 60) rfl) rfl
theorem q553 : Cond.methodLink RX0 80 yX0_draw ∈ wA := wm (tq3 (i := 41) rfl) rfl
theorem q554 : Cond.instanceMethod yX0_draw ∈ wA := wm (tq3 (i := 43) rfl) rfl
theorem q555 : Cond.selects RX0 yX0_draw yX0_draw ∈ wA := wm (tqp (i := 9) rfl) rfl
theorem q556 : Cond.code yX0_draw cX0_draw 2 (some .int) ∈ wA := wm (tq3 (i := 44) rfl) rfl
theorem q557 : Cond.fieldLink RX0 69 "FirstAwake$Course" "seed" "I" ∈ wA := wm (tq1 (i := 188) rfl) rfl
theorem q558 : Cond.constantLong RX0 105 (1103515245) ∈ wA := wm (tq3 (i := 45) rfl) rfl
theorem q559 : Cond.constantLong RX0 107 (12345) ∈ wA := wm (tq3 (i := 46) rfl) rfl
theorem q560 : Cond.constantLong RX0 109 (2147483647) ∈ wA := wm (tq3 (i := 47) rfl) rfl
theorem q561 : Cond.constant RX0 111 (65536) ∈ wA := wm (tq3 (i := 48) rfl) rfl
theorem q562 : Cond.methodLink RX0 84 yX1_minuteAt ∈ wA := wm (tq3 (i := 49) rfl) rfl
theorem q563 : Cond.instanceMethod yX1_minuteAt ∈ wA := wm (tq3 (i := 50) rfl) rfl
theorem q564 : Cond.selects RX1 yX1_minuteAt yX1_minuteAt ∈ wA := wm (tq3 (i := 51) rfl) rfl
theorem q565 : Cond.code yX1_minuteAt cX1_minuteAt 3 (some .int) ∈ wA := wm (tq3 (i := 52) rfl) rfl
theorem q566 : Cond.methodLink RX0 91 yX0_whoIsAhead ∈ wA := wm (tq3 (i := 53) rfl) rfl
theorem q567 : Cond.instanceMethod yX0_whoIsAhead ∈ wA := wm (tq3 (i := 55) rfl) rfl
theorem q568 : Cond.selects RX0 yX0_whoIsAhead yX0_whoIsAhead ∈ wA := wm (tqp (i := 10) rfl) rfl
theorem q569 : Cond.code yX0_whoIsAhead cX0_whoIsAhead 4 (some .int) ∈ wA := wm (tq3 (i := 56) rfl) rfl
theorem q570 : Cond.methodLink RX0 95 yX0_keepRuler ∈ wA := wm (tq3 (i := 57) rfl) rfl
theorem q571 : Cond.instanceMethod yX0_keepRuler ∈ wA := wm (tq3 (i := 59) rfl) rfl
theorem q572 : Cond.selects RX0 yX0_keepRuler yX0_keepRuler ∈ wA := wm (tqp (i := 11) rfl) rfl
theorem q573 : Cond.code yX0_keepRuler cX0_keepRuler 2 none ∈ wA := wm (tq3 (i := 60) rfl) rfl
theorem q574 : Cond.methodLink RX0 102 yX0_countDayOf ∈ wA := wm (tq3 (i := 61) rfl) rfl
theorem q575 : Cond.instanceMethod yX0_countDayOf ∈ wA := wm (tq3 (i := 63) rfl) rfl
theorem q576 : Cond.selects RX0 yX0_countDayOf yX0_countDayOf ∈ wA := wm (tqp (i := 12) rfl) rfl
theorem q577 : Cond.code yX0_countDayOf cX0_countDayOf 3 none ∈ wA := wm (tq3 (i := 64) rfl) rfl
theorem q578 : Cond.fieldLink RX0 112 "FirstAwake$Valley" "need" "[I" ∈ wA := wm (tq1 (i := 43) rfl) rfl
theorem q579 : Cond.fieldLink RX0 115 "FirstAwake$Valley" "worth" "[I" ∈ wA := wm (tq1 (i := 48) rfl) rfl
theorem q580 : Cond.methodLink RL 63 yX8_dawn ∈ wA := wm (tq5 (i := 42) rfl) rfl
theorem q581 : Cond.instanceMethod yX8_dawn ∈ wA := wm (tq5 (i := 43) rfl) rfl
theorem q582 : Cond.selects RX8 yX8_dawn yX8_dawn ∈ wA := wm (tq5 (i := 44) rfl) rfl
theorem q583 : Cond.code yX8_dawn cX8_dawn 4 (some .int) ∈ wA := wm (tq5 (i := 45) rfl) rfl
theorem q584 : Cond.constantLong RX8 266 (99) ∈ wA := wm (tq5 (i := 46) rfl) rfl
theorem q585 : Cond.constant RX8 268 (-1000000003) ∈ wA := wm (tq5 (i := 47) rfl) rfl
theorem q586 : Cond.methodLink RX8 269 yX8_dawnNow ∈ wA := wm (tq5 (i := 48) rfl) rfl
theorem q587 : Cond.instanceMethod yX8_dawnNow ∈ wA := wm (tq5 (i := 50) rfl) rfl
theorem q588 : Cond.selects RX8 yX8_dawnNow yX8_dawnNow ∈ wA := wm (tqp (i := 37) rfl) rfl
theorem q589 : Cond.code yX8_dawnNow cX8_dawnNow 5 (some .int) ∈ wA := wm (tq5 (i := 51) rfl) rfl
theorem q590 : Cond.methodLink RX8 263 yX8_draw ∈ wA := wm (tq5 (i := 52) rfl) rfl
theorem q591 : Cond.instanceMethod yX8_draw ∈ wA := wm (tq5 (i := 54) rfl) rfl
theorem q592 : Cond.selects RX8 yX8_draw yX8_draw ∈ wA := wm (tqp (i := 38) rfl) rfl
theorem q593 : Cond.code yX8_draw cX8_draw 2 (some .int) ∈ wA := wm (tq5 (i := 55) rfl) rfl
theorem q594 : Cond.fieldLink RX8 253 "FirstAwakeModel" "seed" "I" ∈ wA := wm (tq4 (i := 21) rfl) rfl
theorem q595 : Cond.constantLong RX8 256 (1103515245) ∈ wA := wm (tq5 (i := 56) rfl) rfl
theorem q596 : Cond.constantLong RX8 258 (12345) ∈ wA := wm (tq5 (i := 57) rfl) rfl
theorem q597 : Cond.constantLong RX8 260 (2147483648) ∈ wA := wm (tq5 (i := 58) rfl) rfl
theorem q598 : Cond.constant RX8 262 (65536) ∈ wA := wm (tq5 (i := 59) rfl) rfl
theorem q599 : Cond.methodLink RL 64 yX7_ruler ∈ wA := wm (tq3 (i := 65) rfl) rfl
theorem q600 : Cond.instanceMethod yX7_ruler ∈ wA := wm (tq3 (i := 66) rfl) rfl
theorem q601 : Cond.selects RX7 yX7_ruler yX7_ruler ∈ wA := wm (tq3 (i := 67) rfl) rfl
theorem q602 : Cond.code yX7_ruler cX7_ruler 3 (some .int) ∈ wA := wm (tq3 (i := 68) rfl) rfl
theorem q603 : Cond.fieldLink RX7 189 "FirstAwake$Course" "rulers" "[I" ∈ wA := wm (tq1 (i := 185) rfl) rfl
theorem q604 : Cond.fieldLink RX7 192 "FirstAwake$Course" "minutes" "[I" ∈ wA := wm (tq1 (i := 187) rfl) rfl
theorem q605 : Cond.methodLink RL 67 yX8_ruler ∈ wA := wm (tq5 (i := 60) rfl) rfl
theorem q606 : Cond.instanceMethod yX8_ruler ∈ wA := wm (tq5 (i := 61) rfl) rfl
theorem q607 : Cond.selects RX8 yX8_ruler yX8_ruler ∈ wA := wm (tq5 (i := 62) rfl) rfl
theorem q608 : Cond.code yX8_ruler cX8_ruler 3 (some .int) ∈ wA := wm (tq5 (i := 63) rfl) rfl
theorem q609 : Cond.methodLink RL 68 yX7_odds ∈ wA := wm (tq3 (i := 69) rfl) rfl
theorem q610 : Cond.instanceMethod yX7_odds ∈ wA := wm (tq3 (i := 70) rfl) rfl
theorem q611 : Cond.selects RX7 yX7_odds yX7_odds ∈ wA := wm (tq3 (i := 71) rfl) rfl
theorem q612 : Cond.code yX7_odds cX7_odds 2 (some .int) ∈ wA := wm (tq3 (i := 72) rfl) rfl
theorem q613 : Cond.methodLink RX7 195 yX1_oddsOf ∈ wA := wm (tq3 (i := 73) rfl) rfl
theorem q614 : Cond.instanceMethod yX1_oddsOf ∈ wA := wm (tq3 (i := 74) rfl) rfl
theorem q615 : Cond.selects RX1 yX1_oddsOf yX1_oddsOf ∈ wA := wm (tq3 (i := 75) rfl) rfl
theorem q616 : Cond.code yX1_oddsOf cX1_oddsOf 8 (some .int) ∈ wA := wm (tq3 (i := 76) rfl) rfl
theorem q617 : Cond.constant RX1 91 (1000000000) ∈ wA := wm (tq3 (i := 77) rfl) rfl
theorem q618 : Cond.methodLink RX1 92 yX1_letting ∈ wA := wm (tq3 (i := 78) rfl) rfl
theorem q619 : Cond.instanceMethod yX1_letting ∈ wA := wm (tq3 (i := 80) rfl) rfl
theorem q620 : Cond.selects RX1 yX1_letting yX1_letting ∈ wA := wm (tqp (i := 13) rfl) rfl
theorem q621 : Cond.code yX1_letting cX1_letting 7 (some .int) ∈ wA := wm (tq3 (i := 81) rfl) rfl
theorem q622 : Cond.methodLink RL 71 yX8_odds ∈ wA := wm (tq5 (i := 64) rfl) rfl
theorem q623 : Cond.instanceMethod yX8_odds ∈ wA := wm (tq5 (i := 65) rfl) rfl
theorem q624 : Cond.selects RX8 yX8_odds yX8_odds ∈ wA := wm (tq5 (i := 66) rfl) rfl
theorem q625 : Cond.code yX8_odds cX8_odds 2 (some .int) ∈ wA := wm (tq5 (i := 67) rfl) rfl
theorem q626 : Cond.methodLink RX8 284 yX8_oddsOf ∈ wA := wm (tq5 (i := 68) rfl) rfl
theorem q627 : Cond.instanceMethod yX8_oddsOf ∈ wA := wm (tq5 (i := 70) rfl) rfl
theorem q628 : Cond.selects RX8 yX8_oddsOf yX8_oddsOf ∈ wA := wm (tqp (i := 39) rfl) rfl
theorem q629 : Cond.code yX8_oddsOf cX8_oddsOf 9 (some .int) ∈ wA := wm (tq5 (i := 71) rfl) rfl
theorem q630 : Cond.constantLong RX8 278 (1000000000) ∈ wA := wm (tq5 (i := 72) rfl) rfl
theorem q631 : Cond.methodLink RX8 280 yX8_lets ∈ wA := wm (tq5 (i := 73) rfl) rfl
theorem q632 : Cond.instanceMethod yX8_lets ∈ wA := wm (tq5 (i := 75) rfl) rfl
theorem q633 : Cond.selects RX8 yX8_lets yX8_lets ∈ wA := wm (tqp (i := 40) rfl) rfl
theorem q634 : Cond.code yX8_lets cX8_lets 7 (some .int) ∈ wA := wm (tq5 (i := 76) rfl) rfl
theorem q635 : Cond.methodLink RX8 275 yX8_later ∈ wA := wm (tq5 (i := 77) rfl) rfl
theorem q636 : Cond.instanceMethod yX8_later ∈ wA := wm (tq5 (i := 79) rfl) rfl
theorem q637 : Cond.selects RX8 yX8_later yX8_later ∈ wA := wm (tqp (i := 41) rfl) rfl
theorem q638 : Cond.code yX8_later cX8_later 3 (some .int) ∈ wA := wm (tq5 (i := 80) rfl) rfl
theorem q639 : Cond.methodLink RX8 272 yX8_laterRaw ∈ wA := wm (tq5 (i := 81) rfl) rfl
theorem q640 : Cond.instanceMethod yX8_laterRaw ∈ wA := wm (tq5 (i := 83) rfl) rfl
theorem q641 : Cond.selects RX8 yX8_laterRaw yX8_laterRaw ∈ wA := wm (tqp (i := 42) rfl) rfl
theorem q642 : Cond.code yX8_laterRaw cX8_laterRaw 5 (some .int) ∈ wA := wm (tq5 (i := 84) rfl) rfl
theorem q643 : Cond.methodLink RL 72 yX7_together ∈ wA := wm (tq3 (i := 82) rfl) rfl
theorem q644 : Cond.instanceMethod yX7_together ∈ wA := wm (tq3 (i := 83) rfl) rfl
theorem q645 : Cond.selects RX7 yX7_together yX7_together ∈ wA := wm (tq3 (i := 84) rfl) rfl
theorem q646 : Cond.code yX7_together cX7_together 3 (some .int) ∈ wA := wm (tq3 (i := 85) rfl) rfl
theorem q647 : Cond.methodLink RX7 198 yX1_oddsOfHouses ∈ wA := wm (tq3 (i := 86) rfl) rfl
theorem q648 : Cond.instanceMethod yX1_oddsOfHouses ∈ wA := wm (tq3 (i := 87) rfl) rfl
theorem q649 : Cond.selects RX1 yX1_oddsOfHouses yX1_oddsOfHouses ∈ wA := wm (tq3 (i := 88) rfl) rfl
theorem q650 : Cond.code yX1_oddsOfHouses cX1_oddsOfHouses 4 (some .int) ∈ wA := wm (tq3 (i := 89) rfl) rfl
theorem q651 : Cond.methodLink RX1 87 yX1_oddsOf ∈ wA := wm (tq3 (i := 90) rfl) rfl
theorem q652 : Cond.methodLink RL 75 yX8_together ∈ wA := wm (tq5 (i := 85) rfl) rfl
theorem q653 : Cond.instanceMethod yX8_together ∈ wA := wm (tq5 (i := 86) rfl) rfl
theorem q654 : Cond.selects RX8 yX8_together yX8_together ∈ wA := wm (tq5 (i := 87) rfl) rfl
theorem q655 : Cond.code yX8_together cX8_together 2 (some .int) ∈ wA := wm (tq5 (i := 88) rfl) rfl
theorem q656 : Cond.methodLink RX8 291 yX8_oddsOfHouses ∈ wA := wm (tq5 (i := 89) rfl) rfl
theorem q657 : Cond.instanceMethod yX8_oddsOfHouses ∈ wA := wm (tq5 (i := 91) rfl) rfl
theorem q658 : Cond.selects RX8 yX8_oddsOfHouses yX8_oddsOfHouses ∈ wA := wm (tqp (i := 43) rfl) rfl
theorem q659 : Cond.code yX8_oddsOfHouses cX8_oddsOfHouses 4 (some .int) ∈ wA := wm (tq5 (i := 92) rfl) rfl
theorem q660 : Cond.methodLink RX8 287 yX8_has ∈ wA := wm (tq5 (i := 93) rfl) rfl
theorem q661 : Cond.static yX8_has ∈ wA := wm (tq5 (i := 94) rfl) rfl
theorem q662 : Cond.code yX8_has cX8_has 2 (some .boolean) ∈ wA := wm (tq5 (i := 95) rfl) rfl
theorem q663 : Cond.methodLink RL 76 yX7_best ∈ wA := wm (tq3 (i := 91) rfl) rfl
theorem q664 : Cond.instanceMethod yX7_best ∈ wA := wm (tq3 (i := 92) rfl) rfl
theorem q665 : Cond.selects RX7 yX7_best yX7_best ∈ wA := wm (tq3 (i := 93) rfl) rfl
theorem q666 : Cond.code yX7_best cX7_best 3 (some .int) ∈ wA := wm (tq3 (i := 94) rfl) rfl
theorem q667 : Cond.fieldLink RX7 205 "FirstAwake$Planner" "bestShift" "I" ∈ wA := wm (tq2 (i := 9) rfl) rfl
theorem q668 : Cond.fieldLink RX7 208 "FirstAwake$Planner" "bestOdds" "I" ∈ wA := wm (tq2 (i := 13) rfl) rfl
theorem q669 : Cond.methodLink RX7 201 yX2_seekShift ∈ wA := wm (tq3 (i := 95) rfl) rfl
theorem q670 : Cond.instanceMethod yX2_seekShift ∈ wA := wm (tq3 (i := 96) rfl) rfl
theorem q671 : Cond.selects RX2 yX2_seekShift yX2_seekShift ∈ wA := wm (tq3 (i := 97) rfl) rfl
theorem q672 : Cond.code yX2_seekShift cX2_seekShift 9 none ∈ wA := wm (tq3 (i := 98) rfl) rfl
theorem q673 : Cond.fieldLink RX2 35 "FirstAwake$Valley" "bed" "[I" ∈ wA := wm (tq1 (i := 50) rfl) rfl
theorem q674 : Cond.fieldLink RX2 48 "FirstAwake$Valley" "worth" "[I" ∈ wA := wm (tq1 (i := 45) rfl) rfl
theorem q675 : Cond.constantLong RX2 51 (1000000000) ∈ wA := wm (tq3 (i := 110) rfl) rfl
theorem q676 : Cond.fieldLink RX2 53 "FirstAwake$Planner" "bestShift" "I" ∈ wA := wm (tq2 (i := 8) rfl) rfl
theorem q677 : Cond.fieldLink RX2 57 "FirstAwake$Planner" "bestOdds" "I" ∈ wA := wm (tq2 (i := 12) rfl) rfl
theorem q678 : Cond.methodLink RX2 31 yX1_copyFrom ∈ wA := wm (tq3 (i := 99) rfl) rfl
theorem q679 : Cond.instanceMethod yX1_copyFrom ∈ wA := wm (tq3 (i := 100) rfl) rfl
theorem q680 : Cond.selects RX1 yX1_copyFrom yX1_copyFrom ∈ wA := wm (tq3 (i := 101) rfl) rfl
theorem q681 : Cond.code yX1_copyFrom cX1_copyFrom 2 none ∈ wA := wm (tq3 (i := 102) rfl) rfl
theorem q682 : Cond.methodLink RX1 51 arraycopyName ∈ wA := wm (tq3 (i := 103) rfl) rfl
theorem q683 : Cond.methodLink RX2 40 yX1_shiftHouse ∈ wA := wm (tq3 (i := 104) rfl) rfl
theorem q684 : Cond.instanceMethod yX1_shiftHouse ∈ wA := wm (tq3 (i := 105) rfl) rfl
theorem q685 : Cond.selects RX1 yX1_shiftHouse yX1_shiftHouse ∈ wA := wm (tq3 (i := 106) rfl) rfl
theorem q686 : Cond.code yX1_shiftHouse cX1_shiftHouse 5 (some .boolean) ∈ wA := wm (tq3 (i := 107) rfl) rfl
theorem q687 : Cond.methodLink RX1 69 yX1_shiftOne ∈ wA := wm (tq3 (i := 108) rfl) rfl
theorem q688 : Cond.methodLink RX2 44 yX1_oddsOfHouses ∈ wA := wm (tq3 (i := 109) rfl) rfl
theorem q689 : Cond.methodLink RL 79 yX8_best ∈ wA := wm (tq5 (i := 96) rfl) rfl
theorem q690 : Cond.instanceMethod yX8_best ∈ wA := wm (tq5 (i := 97) rfl) rfl
theorem q691 : Cond.selects RX8 yX8_best yX8_best ∈ wA := wm (tq5 (i := 98) rfl) rfl
theorem q692 : Cond.code yX8_best cX8_best 4 (some .int) ∈ wA := wm (tq5 (i := 99) rfl) rfl
theorem q693 : Cond.fieldLink RX8 298 "FirstAwakeModel" "bestOdds" "I" ∈ wA := wm (tq4 (i := 41) rfl) rfl
theorem q694 : Cond.methodLink RX8 301 yX8_bestShift ∈ wA := wm (tq5 (i := 100) rfl) rfl
theorem q695 : Cond.instanceMethod yX8_bestShift ∈ wA := wm (tq5 (i := 102) rfl) rfl
theorem q696 : Cond.selects RX8 yX8_bestShift yX8_bestShift ∈ wA := wm (tqp (i := 44) rfl) rfl
theorem q697 : Cond.code yX8_bestShift cX8_bestShift 10 (some .int) ∈ wA := wm (tq5 (i := 103) rfl) rfl
theorem q698 : Cond.methodLink RX8 294 yX8_shiftHouse ∈ wA := wm (tq5 (i := 104) rfl) rfl
theorem q699 : Cond.instanceMethod yX8_shiftHouse ∈ wA := wm (tq5 (i := 106) rfl) rfl
theorem q700 : Cond.selects RX8 yX8_shiftHouse yX8_shiftHouse ∈ wA := wm (tqp (i := 45) rfl) rfl
theorem q701 : Cond.code yX8_shiftHouse cX8_shiftHouse 4 none ∈ wA := wm (tq5 (i := 107) rfl) rfl
theorem q702 : Cond.methodLink RL 80 yX7_rests ∈ wA := wm (tq3 (i := 111) rfl) rfl
theorem q703 : Cond.instanceMethod yX7_rests ∈ wA := wm (tq3 (i := 112) rfl) rfl
theorem q704 : Cond.selects RX7 yX7_rests yX7_rests ∈ wA := wm (tq3 (i := 113) rfl) rfl
theorem q705 : Cond.code yX7_rests cX7_rests 3 (some .int) ∈ wA := wm (tq3 (i := 114) rfl) rfl
theorem q706 : Cond.methodLink RX7 211 yX2_settle ∈ wA := wm (tq3 (i := 115) rfl) rfl
theorem q707 : Cond.instanceMethod yX2_settle ∈ wA := wm (tq3 (i := 116) rfl) rfl
theorem q708 : Cond.selects RX2 yX2_settle yX2_settle ∈ wA := wm (tq3 (i := 117) rfl) rfl
theorem q709 : Cond.code yX2_settle cX2_settle 3 (some .int) ∈ wA := wm (tq3 (i := 118) rfl) rfl
theorem q710 : Cond.methodLink RX2 67 yX2_playRound ∈ wA := wm (tq3 (i := 119) rfl) rfl
theorem q711 : Cond.instanceMethod yX2_playRound ∈ wA := wm (tq3 (i := 121) rfl) rfl
theorem q712 : Cond.selects RX2 yX2_playRound yX2_playRound ∈ wA := wm (tqp (i := 14) rfl) rfl
theorem q713 : Cond.code yX2_playRound cX2_playRound 3 (some .boolean) ∈ wA := wm (tq3 (i := 122) rfl) rfl
theorem q714 : Cond.fieldLink RX2 79 "FirstAwake$Valley" "houses" "I" ∈ wA := wm (tq1 (i := 38) rfl) rfl
theorem q715 : Cond.methodLink RX2 82 yX5_sleepersOf ∈ wA := wm (tq3 (i := 123) rfl) rfl
theorem q716 : Cond.methodLink RX2 85 yX2_seekShift ∈ wA := wm (tq3 (i := 124) rfl) rfl
theorem q717 : Cond.methodLink RX2 71 yX2_codeOfPlan ∈ wA := wm (tq3 (i := 125) rfl) rfl
theorem q718 : Cond.instanceMethod yX2_codeOfPlan ∈ wA := wm (tq3 (i := 127) rfl) rfl
theorem q719 : Cond.selects RX2 yX2_codeOfPlan yX2_codeOfPlan ∈ wA := wm (tqp (i := 15) rfl) rfl
theorem q720 : Cond.code yX2_codeOfPlan cX2_codeOfPlan 3 (some .int) ∈ wA := wm (tq3 (i := 128) rfl) rfl
theorem q721 : Cond.fieldLink RX2 89 "FirstAwake$Valley" "sleepers" "I" ∈ wA := wm (tq1 (i := 58) rfl) rfl
theorem q722 : Cond.fieldLink RX2 92 "FirstAwake$Night" "shifted" "[I" ∈ wA := wm (tq1 (i := 138) rfl) rfl
theorem q723 : Cond.methodLink RX2 75 yX2_wasThere ∈ wA := wm (tq3 (i := 129) rfl) rfl
theorem q724 : Cond.instanceMethod yX2_wasThere ∈ wA := wm (tq3 (i := 131) rfl) rfl
theorem q725 : Cond.selects RX2 yX2_wasThere yX2_wasThere ∈ wA := wm (tqp (i := 16) rfl) rfl
theorem q726 : Cond.code yX2_wasThere cX2_wasThere 3 (some .boolean) ∈ wA := wm (tq3 (i := 132) rfl) rfl
theorem q727 : Cond.methodLink RX7 215 yX2_settledShift ∈ wA := wm (tq3 (i := 133) rfl) rfl
theorem q728 : Cond.instanceMethod yX2_settledShift ∈ wA := wm (tq3 (i := 134) rfl) rfl
theorem q729 : Cond.selects RX2 yX2_settledShift yX2_settledShift ∈ wA := wm (tq3 (i := 135) rfl) rfl
theorem q730 : Cond.code yX2_settledShift cX2_settledShift 3 (some .int) ∈ wA := wm (tq3 (i := 136) rfl) rfl
theorem q731 : Cond.fieldLink RX2 95 "FirstAwake$Valley" "home" "[I" ∈ wA := wm (tq1 (i := 64) rfl) rfl
theorem q732 : Cond.methodLink RL 83 yX8_rests ∈ wA := wm (tq5 (i := 108) rfl) rfl
theorem q733 : Cond.instanceMethod yX8_rests ∈ wA := wm (tq5 (i := 109) rfl) rfl
theorem q734 : Cond.selects RX8 yX8_rests yX8_rests ∈ wA := wm (tq5 (i := 110) rfl) rfl
theorem q735 : Cond.code yX8_rests cX8_rests 5 (some .int) ∈ wA := wm (tq5 (i := 111) rfl) rfl
theorem q736 : Cond.methodLink RX8 304 yX8_roundChanges ∈ wA := wm (tq5 (i := 112) rfl) rfl
theorem q737 : Cond.instanceMethod yX8_roundChanges ∈ wA := wm (tq5 (i := 114) rfl) rfl
theorem q738 : Cond.selects RX8 yX8_roundChanges yX8_roundChanges ∈ wA := wm (tqp (i := 46) rfl) rfl
theorem q739 : Cond.code yX8_roundChanges cX8_roundChanges 5 (some .boolean) ∈ wA := wm (tq5 (i := 115) rfl) rfl
theorem q740 : Cond.methodLink RX8 308 yX8_leastOf ∈ wA := wm (tq5 (i := 116) rfl) rfl
theorem q741 : Cond.instanceMethod yX8_leastOf ∈ wA := wm (tq5 (i := 118) rfl) rfl
theorem q742 : Cond.selects RX8 yX8_leastOf yX8_leastOf ∈ wA := wm (tqp (i := 47) rfl) rfl
theorem q743 : Cond.code yX8_leastOf cX8_leastOf 4 (some .int) ∈ wA := wm (tq5 (i := 119) rfl) rfl
theorem q744 : Cond.methodLink RL 84 yX7_loud ∈ wA := wm (tq3 (i := 137) rfl) rfl
theorem q745 : Cond.instanceMethod yX7_loud ∈ wA := wm (tq3 (i := 138) rfl) rfl
theorem q746 : Cond.selects RX7 yX7_loud yX7_loud ∈ wA := wm (tq3 (i := 139) rfl) rfl
theorem q747 : Cond.code yX7_loud cX7_loud 3 (some .int) ∈ wA := wm (tq3 (i := 140) rfl) rfl
theorem q748 : Cond.fieldLink RX7 221 "FirstAwake$Planner" "bestLoudness" "I" ∈ wA := wm (tq2 (i := 11) rfl) rfl
theorem q749 : Cond.methodLink RX7 218 yX2_seekNoise ∈ wA := wm (tq3 (i := 141) rfl) rfl
theorem q750 : Cond.instanceMethod yX2_seekNoise ∈ wA := wm (tq3 (i := 142) rfl) rfl
theorem q751 : Cond.selects RX2 yX2_seekNoise yX2_seekNoise ∈ wA := wm (tq3 (i := 143) rfl) rfl
theorem q752 : Cond.code yX2_seekNoise cX2_seekNoise 5 none ∈ wA := wm (tq3 (i := 144) rfl) rfl
theorem q753 : Cond.fieldLink RX2 64 "FirstAwake$Planner" "bestLoudness" "I" ∈ wA := wm (tq2 (i := 10) rfl) rfl
theorem q754 : Cond.methodLink RX2 60 yX1_makeNoise ∈ wA := wm (tq3 (i := 145) rfl) rfl
theorem q755 : Cond.methodLink RL 87 yX8_loud ∈ wA := wm (tq5 (i := 120) rfl) rfl
theorem q756 : Cond.instanceMethod yX8_loud ∈ wA := wm (tq5 (i := 121) rfl) rfl
theorem q757 : Cond.selects RX8 yX8_loud yX8_loud ∈ wA := wm (tq5 (i := 122) rfl) rfl
theorem q758 : Cond.code yX8_loud cX8_loud 12 (some .int) ∈ wA := wm (tq5 (i := 123) rfl) rfl
theorem q759 : Cond.methodLink RL 88 yX7_work ∈ wA := wm (tq3 (i := 146) rfl) rfl
theorem q760 : Cond.instanceMethod yX7_work ∈ wA := wm (tq3 (i := 147) rfl) rfl
theorem q761 : Cond.selects RX7 yX7_work yX7_work ∈ wA := wm (tq3 (i := 148) rfl) rfl
theorem q762 : Cond.code yX7_work cX7_work 4 (some .int) ∈ wA := wm (tq3 (i := 149) rfl) rfl
theorem q763 : Cond.fieldLink RX7 231 "FirstAwake$Prospect" "done" "J" ∈ wA := wm (tq2 (i := 39) rfl) rfl
theorem q764 : Cond.methodLink RX7 224 yX7_lookAhead ∈ wA := wm (tq3 (i := 150) rfl) rfl
theorem q765 : Cond.instanceMethod yX7_lookAhead ∈ wA := wm (tq3 (i := 152) rfl) rfl
theorem q766 : Cond.selects RX7 yX7_lookAhead yX7_lookAhead ∈ wA := wm (tqp (i := 17) rfl) rfl
theorem q767 : Cond.code yX7_lookAhead cX7_lookAhead 2 none ∈ wA := wm (tq3 (i := 153) rfl) rfl
theorem q768 : Cond.methodLink RX7 238 yX3_begin ∈ wA := wm (tq3 (i := 154) rfl) rfl
theorem q769 : Cond.instanceMethod yX3_begin ∈ wA := wm (tq3 (i := 155) rfl) rfl
theorem q770 : Cond.selects RX3 yX3_begin yX3_begin ∈ wA := wm (tq3 (i := 156) rfl) rfl
theorem q771 : Cond.code yX3_begin cX3_begin 4 none ∈ wA := wm (tq3 (i := 157) rfl) rfl
theorem q772 : Cond.fieldLink RX3 21 "FirstAwake$Prospect" "need" "I" ∈ wA := wm (tq2 (i := 36) rfl) rfl
theorem q773 : Cond.fieldLink RX3 25 "FirstAwake$Prospect" "dayOdds" "J" ∈ wA := wm (tq2 (i := 37) rfl) rfl
theorem q774 : Cond.fieldLink RX3 29 "FirstAwake$Prospect" "done" "J" ∈ wA := wm (tq2 (i := 38) rfl) rfl
theorem q775 : Cond.constantLong RX3 32 (1000000000) ∈ wA := wm (tq3 (i := 161) rfl) rfl
theorem q776 : Cond.methodLink RX3 15 yJ7_fill_d0a16 ∈ wA := wm (tq3 (i := 158) rfl) rfl
theorem q777 : Cond.static yJ7_fill_d0a16 ∈ wA := wm (tq3 (i := 159) rfl) rfl
theorem q778 : Cond.code yJ7_fill_d0a16 cJ7_fill_d0a16 5 none ∈ wA := wm (tq3 (i := 160) rfl) rfl
theorem q779 : Cond.methodLink RX7 228 yX3_goOnADay ∈ wA := wm (tq3 (i := 162) rfl) rfl
theorem q780 : Cond.instanceMethod yX3_goOnADay ∈ wA := wm (tq3 (i := 163) rfl) rfl
theorem q781 : Cond.selects RX3 yX3_goOnADay yX3_goOnADay ∈ wA := wm (tq3 (i := 164) rfl) rfl
theorem q782 : Cond.code yX3_goOnADay cX3_goOnADay 6 none ∈ wA := wm (tq3 (i := 165) rfl) rfl
theorem q783 : Cond.methodLink RL 91 yX8_work ∈ wA := wm (tq5 (i := 124) rfl) rfl
theorem q784 : Cond.instanceMethod yX8_work ∈ wA := wm (tq5 (i := 125) rfl) rfl
theorem q785 : Cond.selects RX8 yX8_work yX8_work ∈ wA := wm (tq5 (i := 126) rfl) rfl
theorem q786 : Cond.code yX8_work cX8_work 6 (some .int) ∈ wA := wm (tq5 (i := 127) rfl) rfl
theorem q787 : Cond.constantLong RX8 311 (60) ∈ wA := wm (tq5 (i := 128) rfl) rfl
theorem q788 : Cond.methodLink RX8 313 yX8_startWork ∈ wA := wm (tq5 (i := 129) rfl) rfl
theorem q789 : Cond.instanceMethod yX8_startWork ∈ wA := wm (tq5 (i := 131) rfl) rfl
theorem q790 : Cond.selects RX8 yX8_startWork yX8_startWork ∈ wA := wm (tqp (i := 48) rfl) rfl
theorem q791 : Cond.code yX8_startWork cX8_startWork 3 none ∈ wA := wm (tq5 (i := 132) rfl) rfl
theorem q792 : Cond.methodLink RX8 317 yX8_workDay ∈ wA := wm (tq5 (i := 133) rfl) rfl
theorem q793 : Cond.instanceMethod yX8_workDay ∈ wA := wm (tq5 (i := 135) rfl) rfl
theorem q794 : Cond.selects RX8 yX8_workDay yX8_workDay ∈ wA := wm (tqp (i := 49) rfl) rfl
theorem q795 : Cond.code yX8_workDay cX8_workDay 9 none ∈ wA := wm (tq5 (i := 136) rfl) rfl
theorem q796 : Cond.methodLink RL 92 yX7_likely ∈ wA := wm (tq3 (i := 166) rfl) rfl
theorem q797 : Cond.instanceMethod yX7_likely ∈ wA := wm (tq3 (i := 167) rfl) rfl
theorem q798 : Cond.selects RX7 yX7_likely yX7_likely ∈ wA := wm (tq3 (i := 168) rfl) rfl
theorem q799 : Cond.code yX7_likely cX7_likely 4 (some .int) ∈ wA := wm (tq3 (i := 169) rfl) rfl
theorem q800 : Cond.constantLong RX7 234 (100) ∈ wA := wm (tq3 (i := 170) rfl) rfl
theorem q801 : Cond.constantLong RX7 236 (1000000000) ∈ wA := wm (tq3 (i := 171) rfl) rfl
theorem q802 : Cond.methodLink RL 95 yX8_likely ∈ wA := wm (tq5 (i := 137) rfl) rfl
theorem q803 : Cond.instanceMethod yX8_likely ∈ wA := wm (tq5 (i := 138) rfl) rfl
theorem q804 : Cond.selects RX8 yX8_likely yX8_likely ∈ wA := wm (tq5 (i := 139) rfl) rfl
theorem q805 : Cond.code yX8_likely cX8_likely 6 (some .int) ∈ wA := wm (tq5 (i := 140) rfl) rfl
theorem q806 : Cond.constantLong RX8 321 (100) ∈ wA := wm (tq5 (i := 141) rfl) rfl
theorem q807 : Cond.methodLink RL 96 yX7_tell ∈ wA := wm (tq3 (i := 172) rfl) rfl
theorem q808 : Cond.instanceMethod yX7_tell ∈ wA := wm (tq3 (i := 173) rfl) rfl
theorem q809 : Cond.selects RX7 yX7_tell yX7_tell ∈ wA := wm (tq3 (i := 174) rfl) rfl
theorem q810 : Cond.code yX7_tell cX7_tell 3 (some .int) ∈ wA := wm (tq3 (i := 175) rfl) rfl
theorem q811 : Cond.methodLink RX7 241 yX6_add ∈ wA := wm (tq3 (i := 176) rfl) rfl
theorem q812 : Cond.instanceMethod yX6_add ∈ wA := wm (tq3 (i := 177) rfl) rfl
theorem q813 : Cond.selects RX6 yX6_add yX6_add ∈ wA := wm (tq3 (i := 178) rfl) rfl
theorem q814 : Cond.code yX6_add cX6_add 3 (some .boolean) ∈ wA := wm (tq3 (i := 179) rfl) rfl
theorem q815 : Cond.fieldLink RX6 27 "FirstAwake$Words" "count" "I" ∈ wA := wm (tq1 (i := 222) rfl) rfl
theorem q816 : Cond.methodLink RL 99 yX8_tell ∈ wA := wm (tq5 (i := 142) rfl) rfl
theorem q817 : Cond.instanceMethod yX8_tell ∈ wA := wm (tq5 (i := 143) rfl) rfl
theorem q818 : Cond.selects RX8 yX8_tell yX8_tell ∈ wA := wm (tq5 (i := 144) rfl) rfl
theorem q819 : Cond.code yX8_tell cX8_tell 3 (some .int) ∈ wA := wm (tq5 (i := 145) rfl) rfl
theorem q820 : Cond.constantLong RX8 323 (999) ∈ wA := wm (tq5 (i := 146) rfl) rfl
theorem q821 : Cond.methodLink RL 100 yX7_forget ∈ wA := wm (tq3 (i := 180) rfl) rfl
theorem q822 : Cond.instanceMethod yX7_forget ∈ wA := wm (tq3 (i := 181) rfl) rfl
theorem q823 : Cond.selects RX7 yX7_forget yX7_forget ∈ wA := wm (tq3 (i := 182) rfl) rfl
theorem q824 : Cond.code yX7_forget cX7_forget 2 (some .int) ∈ wA := wm (tq3 (i := 183) rfl) rfl
theorem q825 : Cond.methodLink RL 103 yX8_forget ∈ wA := wm (tq5 (i := 147) rfl) rfl
theorem q826 : Cond.instanceMethod yX8_forget ∈ wA := wm (tq5 (i := 148) rfl) rfl
theorem q827 : Cond.selects RX8 yX8_forget yX8_forget ∈ wA := wm (tq5 (i := 149) rfl) rfl
theorem q828 : Cond.code yX8_forget cX8_forget 2 (some .int) ∈ wA := wm (tq5 (i := 150) rfl) rfl
theorem q829 : Cond.methodLink RL 104 yX7_lies ∈ wA := wm (tq3 (i := 184) rfl) rfl
theorem q830 : Cond.instanceMethod yX7_lies ∈ wA := wm (tq3 (i := 185) rfl) rfl
theorem q831 : Cond.selects RX7 yX7_lies yX7_lies ∈ wA := wm (tq3 (i := 186) rfl) rfl
theorem q832 : Cond.code yX7_lies cX7_lies 1 (some .int) ∈ wA := wm (tq3 (i := 187) rfl) rfl
theorem q833 : Cond.methodLink RX7 245 yX6_firstLie ∈ wA := wm (tq3 (i := 188) rfl) rfl
theorem q834 : Cond.instanceMethod yX6_firstLie ∈ wA := wm (tq3 (i := 189) rfl) rfl
theorem q835 : Cond.selects RX6 yX6_firstLie yX6_firstLie ∈ wA := wm (tq3 (i := 190) rfl) rfl
theorem q836 : Cond.code yX6_firstLie cX6_firstLie 3 (some .int) ∈ wA := wm (tq3 (i := 191) rfl) rfl
theorem q837 : Cond.methodLink RX6 31 yX1_mayRuleAt ∈ wA := wm (tq3 (i := 192) rfl) rfl
theorem q838 : Cond.instanceMethod yX1_mayRuleAt ∈ wA := wm (tq3 (i := 193) rfl) rfl
theorem q839 : Cond.selects RX1 yX1_mayRuleAt yX1_mayRuleAt ∈ wA := wm (tq3 (i := 194) rfl) rfl
theorem q840 : Cond.code yX1_mayRuleAt cX1_mayRuleAt 4 (some .boolean) ∈ wA := wm (tq3 (i := 195) rfl) rfl
theorem q841 : Cond.methodLink RX1 96 yX1_firstMinute ∈ wA := wm (tq3 (i := 196) rfl) rfl
theorem q842 : Cond.methodLink RX1 99 yX1_lastMinute ∈ wA := wm (tq3 (i := 197) rfl) rfl
theorem q843 : Cond.methodLink RL 107 yX8_lies ∈ wA := wm (tq5 (i := 151) rfl) rfl
theorem q844 : Cond.instanceMethod yX8_lies ∈ wA := wm (tq5 (i := 152) rfl) rfl
theorem q845 : Cond.selects RX8 yX8_lies yX8_lies ∈ wA := wm (tq5 (i := 153) rfl) rfl
theorem q846 : Cond.code yX8_lies cX8_lies 2 (some .int) ∈ wA := wm (tq5 (i := 154) rfl) rfl
theorem q847 : Cond.methodLink RX8 325 yX8_isLie ∈ wA := wm (tq5 (i := 155) rfl) rfl
theorem q848 : Cond.instanceMethod yX8_isLie ∈ wA := wm (tq5 (i := 157) rfl) rfl
theorem q849 : Cond.selects RX8 yX8_isLie yX8_isLie ∈ wA := wm (tqp (i := 50) rfl) rfl
theorem q850 : Cond.code yX8_isLie cX8_isLie 6 (some .boolean) ∈ wA := wm (tq5 (i := 158) rfl) rfl
theorem q851 : Cond.methodLink RL 108 yX7_fits ∈ wA := wm (tq3 (i := 198) rfl) rfl
theorem q852 : Cond.instanceMethod yX7_fits ∈ wA := wm (tq3 (i := 199) rfl) rfl
theorem q853 : Cond.selects RX7 yX7_fits yX7_fits ∈ wA := wm (tq3 (i := 200) rfl) rfl
theorem q854 : Cond.code yX7_fits cX7_fits 3 (some .int) ∈ wA := wm (tq3 (i := 201) rfl) rfl
theorem q855 : Cond.methodLink RX7 248 yX6_fitting ∈ wA := wm (tq3 (i := 202) rfl) rfl
theorem q856 : Cond.instanceMethod yX6_fitting ∈ wA := wm (tq3 (i := 203) rfl) rfl
theorem q857 : Cond.selects RX6 yX6_fitting yX6_fitting ∈ wA := wm (tq3 (i := 204) rfl) rfl
theorem q858 : Cond.code yX6_fitting cX6_fitting 6 (some .int) ∈ wA := wm (tq3 (i := 205) rfl) rfl
theorem q859 : Cond.fieldLink RX6 39 "FirstAwake$Night" "shifted" "[I" ∈ wA := wm (tq1 (i := 137) rfl) rfl
theorem q860 : Cond.methodLink RX6 35 yX1_copyFrom ∈ wA := wm (tq3 (i := 206) rfl) rfl
theorem q861 : Cond.methodLink RX6 42 yX1_shiftOne ∈ wA := wm (tq3 (i := 207) rfl) rfl
theorem q862 : Cond.methodLink RX6 46 yX6_allTrueOf ∈ wA := wm (tq3 (i := 208) rfl) rfl
theorem q863 : Cond.instanceMethod yX6_allTrueOf ∈ wA := wm (tq3 (i := 210) rfl) rfl
theorem q864 : Cond.selects RX6 yX6_allTrueOf yX6_allTrueOf ∈ wA := wm (tqp (i := 18) rfl) rfl
theorem q865 : Cond.code yX6_allTrueOf cX6_allTrueOf 3 (some .boolean) ∈ wA := wm (tq3 (i := 211) rfl) rfl
theorem q866 : Cond.methodLink RL 111 yX8_fits ∈ wA := wm (tq5 (i := 159) rfl) rfl
theorem q867 : Cond.instanceMethod yX8_fits ∈ wA := wm (tq5 (i := 160) rfl) rfl
theorem q868 : Cond.selects RX8 yX8_fits yX8_fits ∈ wA := wm (tq5 (i := 161) rfl) rfl
theorem q869 : Cond.code yX8_fits cX8_fits 7 (some .int) ∈ wA := wm (tq5 (i := 162) rfl) rfl
theorem q870 : Cond.methodLink RX8 328 yX8_isHonest ∈ wA := wm (tq5 (i := 163) rfl) rfl
theorem q871 : Cond.instanceMethod yX8_isHonest ∈ wA := wm (tq5 (i := 165) rfl) rfl
theorem q872 : Cond.selects RX8 yX8_isHonest yX8_isHonest ∈ wA := wm (tqp (i := 51) rfl) rfl
theorem q873 : Cond.code yX8_isHonest cX8_isHonest 4 (some .boolean) ∈ wA := wm (tq5 (i := 166) rfl) rfl
theorem q874 : Cond.methodLink RL 112 yX7_seed ∈ wA := wm (tq3 (i := 212) rfl) rfl
theorem q875 : Cond.instanceMethod yX7_seed ∈ wA := wm (tq3 (i := 213) rfl) rfl
theorem q876 : Cond.selects RX7 yX7_seed yX7_seed ∈ wA := wm (tq3 (i := 214) rfl) rfl
theorem q877 : Cond.code yX7_seed cX7_seed 3 (some .int) ∈ wA := wm (tq3 (i := 215) rfl) rfl
theorem q878 : Cond.fieldLink RX7 252 "FirstAwake$Course" "seed" "I" ∈ wA := wm (tq1 (i := 189) rfl) rfl
theorem q879 : Cond.methodLink RL 115 yX8_seed ∈ wA := wm (tq5 (i := 167) rfl) rfl
theorem q880 : Cond.instanceMethod yX8_seed ∈ wA := wm (tq5 (i := 168) rfl) rfl
theorem q881 : Cond.selects RX8 yX8_seed yX8_seed ∈ wA := wm (tq5 (i := 169) rfl) rfl
theorem q882 : Cond.code yX8_seed cX8_seed 3 (some .int) ∈ wA := wm (tq5 (i := 170) rfl) rfl
theorem q883 : Cond.methodLink RL 116 yX7_keep ∈ wA := wm (tq3 (i := 216) rfl) rfl
theorem q884 : Cond.instanceMethod yX7_keep ∈ wA := wm (tq3 (i := 217) rfl) rfl
theorem q885 : Cond.selects RX7 yX7_keep yX7_keep ∈ wA := wm (tq3 (i := 218) rfl) rfl
theorem q886 : Cond.code yX7_keep cX7_keep 2 (some .int) ∈ wA := wm (tq3 (i := 219) rfl) rfl
theorem q887 : Cond.methodLink RX7 255 yX7_imageAt ∈ wA := wm (tq3 (i := 220) rfl) rfl
theorem q888 : Cond.instanceMethod yX7_imageAt ∈ wA := wm (tq3 (i := 222) rfl) rfl
theorem q889 : Cond.selects RX7 yX7_imageAt yX7_imageAt ∈ wA := wm (tqp (i := 19) rfl) rfl
theorem q890 : Cond.code yX7_imageAt cX7_imageAt 2 (some (.object "FirstAwake$Course")) ∈ wA := wm (tq3 (i := 223) rfl) rfl
theorem q891 : Cond.methodLink RX7 259 yX0_copyFrom ∈ wA := wm (tq3 (i := 224) rfl) rfl
theorem q892 : Cond.instanceMethod yX0_copyFrom ∈ wA := wm (tq3 (i := 225) rfl) rfl
theorem q893 : Cond.selects RX0 yX0_copyFrom yX0_copyFrom ∈ wA := wm (tq3 (i := 226) rfl) rfl
theorem q894 : Cond.code yX0_copyFrom cX0_copyFrom 2 none ∈ wA := wm (tq3 (i := 227) rfl) rfl
theorem q895 : Cond.methodLink RX0 63 arraycopyName ∈ wA := wm (tq3 (i := 229) rfl) rfl
theorem q896 : Cond.methodLink RX0 59 yX1_copyFrom ∈ wA := wm (tq3 (i := 228) rfl) rfl
theorem q897 : Cond.methodLink RL 119 yX8_keep ∈ wA := wm (tq5 (i := 171) rfl) rfl
theorem q898 : Cond.instanceMethod yX8_keep ∈ wA := wm (tq5 (i := 172) rfl) rfl
theorem q899 : Cond.selects RX8 yX8_keep yX8_keep ∈ wA := wm (tq5 (i := 173) rfl) rfl
theorem q900 : Cond.code yX8_keep cX8_keep 4 (some .int) ∈ wA := wm (tq5 (i := 174) rfl) rfl
theorem q901 : Cond.methodLink RL 120 yX7_goBack ∈ wA := wm (tq3 (i := 230) rfl) rfl
theorem q902 : Cond.instanceMethod yX7_goBack ∈ wA := wm (tq3 (i := 231) rfl) rfl
theorem q903 : Cond.selects RX7 yX7_goBack yX7_goBack ∈ wA := wm (tq3 (i := 232) rfl) rfl
theorem q904 : Cond.code yX7_goBack cX7_goBack 2 (some .int) ∈ wA := wm (tq3 (i := 233) rfl) rfl
theorem q905 : Cond.methodLink RL 123 yX8_goBack ∈ wA := wm (tq5 (i := 175) rfl) rfl
theorem q906 : Cond.instanceMethod yX8_goBack ∈ wA := wm (tq5 (i := 176) rfl) rfl
theorem q907 : Cond.selects RX8 yX8_goBack yX8_goBack ∈ wA := wm (tq5 (i := 177) rfl) rfl
theorem q908 : Cond.code yX8_goBack cX8_goBack 4 (some .int) ∈ wA := wm (tq5 (i := 178) rfl) rfl
theorem inX0 : ∀ w ∈ u_ws RX0 TX0 11, w ∈ wA := by
  intro w hw
  obtain ⟨k, hk, rfl⟩ := List.mem_map.mp hw
  have hk := List.mem_range.mp hk
  match k, hk with
  | 0, _ => exact wm (tq1 (i := 191) rfl) rfl
  | 1, _ => exact wm (tq1 (i := 193) rfl) rfl
  | 2, _ => exact wm (tq1 (i := 195) rfl) rfl
  | 3, _ => exact wm (tq1 (i := 197) rfl) rfl
  | 4, _ => exact wm (tq1 (i := 199) rfl) rfl
  | 5, _ => exact wm (tq1 (i := 201) rfl) rfl
  | 6, _ => exact wm (tq1 (i := 203) rfl) rfl
  | 7, _ => exact wm (tq1 (i := 205) rfl) rfl
  | 8, _ => exact wm (tq1 (i := 207) rfl) rfl
  | 9, _ => exact wm (tq1 (i := 209) rfl) rfl
  | 10, _ => exact wm (tq1 (i := 211) rfl) rfl
  | k + 11, h => exact absurd h (by omega)
theorem inX1 : ∀ w ∈ u_ws RX1 TX1 9, w ∈ wA := by
  intro w hw
  obtain ⟨k, hk, rfl⟩ := List.mem_map.mp hw
  have hk := List.mem_range.mp hk
  match k, hk with
  | 0, _ => exact wm (tq1 (i := 152) rfl) rfl
  | 1, _ => exact wm (tq1 (i := 154) rfl) rfl
  | 2, _ => exact wm (tq1 (i := 156) rfl) rfl
  | 3, _ => exact wm (tq1 (i := 158) rfl) rfl
  | 4, _ => exact wm (tq1 (i := 160) rfl) rfl
  | 5, _ => exact wm (tq1 (i := 162) rfl) rfl
  | 6, _ => exact wm (tq1 (i := 164) rfl) rfl
  | 7, _ => exact wm (tq1 (i := 166) rfl) rfl
  | 8, _ => exact wm (tq1 (i := 168) rfl) rfl
  | k + 9, h => exact absurd h (by omega)
theorem inX2 : ∀ w ∈ u_ws RX2 TX2 7, w ∈ wA := by
  intro w hw
  obtain ⟨k, hk, rfl⟩ := List.mem_map.mp hw
  have hk := List.mem_range.mp hk
  match k, hk with
  | 0, _ => exact wm (tq2 (i := 14) rfl) rfl
  | 1, _ => exact wm (tq2 (i := 16) rfl) rfl
  | 2, _ => exact wm (tq2 (i := 18) rfl) rfl
  | 3, _ => exact wm (tq2 (i := 20) rfl) rfl
  | 4, _ => exact wm (tq2 (i := 22) rfl) rfl
  | 5, _ => exact wm (tq2 (i := 24) rfl) rfl
  | 6, _ => exact wm (tq2 (i := 26) rfl) rfl
  | k + 7, h => exact absurd h (by omega)
theorem inX3 : ∀ w ∈ u_ws RX3 TX3 4, w ∈ wA := by
  intro w hw
  obtain ⟨k, hk, rfl⟩ := List.mem_map.mp hw
  have hk := List.mem_range.mp hk
  match k, hk with
  | 0, _ => exact wm (tq2 (i := 40) rfl) rfl
  | 1, _ => exact wm (tq2 (i := 42) rfl) rfl
  | 2, _ => exact wm (tq2 (i := 44) rfl) rfl
  | 3, _ => exact wm (tq2 (i := 46) rfl) rfl
  | k + 4, h => exact absurd h (by omega)
theorem inX4 : ∀ w ∈ u_ws RX4 TX4 6, w ∈ wA := by
  intro w hw
  obtain ⟨k, hk, rfl⟩ := List.mem_map.mp hw
  have hk := List.mem_range.mp hk
  match k, hk with
  | 0, _ => exact wm (tq1 (i := 108) rfl) rfl
  | 1, _ => exact wm (tq1 (i := 110) rfl) rfl
  | 2, _ => exact wm (tq1 (i := 112) rfl) rfl
  | 3, _ => exact wm (tq1 (i := 114) rfl) rfl
  | 4, _ => exact wm (tq1 (i := 116) rfl) rfl
  | 5, _ => exact wm (tq1 (i := 118) rfl) rfl
  | k + 6, h => exact absurd h (by omega)
theorem inX5 : ∀ w ∈ u_ws RX5 TX5 9, w ∈ wA := by
  intro w hw
  obtain ⟨k, hk, rfl⟩ := List.mem_map.mp hw
  have hk := List.mem_range.mp hk
  match k, hk with
  | 0, _ => exact wm (tq1 (i := 78) rfl) rfl
  | 1, _ => exact wm (tq1 (i := 80) rfl) rfl
  | 2, _ => exact wm (tq1 (i := 82) rfl) rfl
  | 3, _ => exact wm (tq1 (i := 84) rfl) rfl
  | 4, _ => exact wm (tq1 (i := 86) rfl) rfl
  | 5, _ => exact wm (tq1 (i := 88) rfl) rfl
  | 6, _ => exact wm (tq1 (i := 90) rfl) rfl
  | 7, _ => exact wm (tq1 (i := 92) rfl) rfl
  | 8, _ => exact wm (tq1 (i := 94) rfl) rfl
  | k + 9, h => exact absurd h (by omega)
theorem inX6 : ∀ w ∈ u_ws RX6 TX6 4, w ∈ wA := by
  intro w hw
  obtain ⟨k, hk, rfl⟩ := List.mem_map.mp hw
  have hk := List.mem_range.mp hk
  match k, hk with
  | 0, _ => exact wm (tq1 (i := 227) rfl) rfl
  | 1, _ => exact wm (tq1 (i := 229) rfl) rfl
  | 2, _ => exact wm (tq1 (i := 231) rfl) rfl
  | 3, _ => exact wm (tq1 (i := 233) rfl) rfl
  | k + 4, h => exact absurd h (by omega)
theorem inX7 : ∀ w ∈ u_ws RX7 TX7 9, w ∈ wA := by
  intro w hw
  obtain ⟨k, hk, rfl⟩ := List.mem_map.mp hw
  have hk := List.mem_range.mp hk
  match k, hk with
  | 0, _ => exact wm (tq2 (i := 59) rfl) rfl
  | 1, _ => exact wm (tq2 (i := 61) rfl) rfl
  | 2, _ => exact wm (tq2 (i := 63) rfl) rfl
  | 3, _ => exact wm (tq2 (i := 65) rfl) rfl
  | 4, _ => exact wm (tq2 (i := 67) rfl) rfl
  | 5, _ => exact wm (tq2 (i := 69) rfl) rfl
  | 6, _ => exact wm (tq2 (i := 71) rfl) rfl
  | 7, _ => exact wm (tq2 (i := 73) rfl) rfl
  | 8, _ => exact wm (tq2 (i := 75) rfl) rfl
  | k + 9, h => exact absurd h (by omega)
theorem inX8 : ∀ w ∈ u_ws RX8 TX8 49, w ∈ wA := by
  intro w hw
  obtain ⟨k, hk, rfl⟩ := List.mem_map.mp hw
  have hk := List.mem_range.mp hk
  match k, hk with
  | 0, _ => exact wm (tq4 (i := 49) rfl) rfl
  | 1, _ => exact wm (tq4 (i := 51) rfl) rfl
  | 2, _ => exact wm (tq4 (i := 53) rfl) rfl
  | 3, _ => exact wm (tq4 (i := 55) rfl) rfl
  | 4, _ => exact wm (tq4 (i := 57) rfl) rfl
  | 5, _ => exact wm (tq4 (i := 59) rfl) rfl
  | 6, _ => exact wm (tq4 (i := 61) rfl) rfl
  | 7, _ => exact wm (tq4 (i := 63) rfl) rfl
  | 8, _ => exact wm (tq4 (i := 65) rfl) rfl
  | 9, _ => exact wm (tq4 (i := 67) rfl) rfl
  | 10, _ => exact wm (tq4 (i := 69) rfl) rfl
  | 11, _ => exact wm (tq4 (i := 71) rfl) rfl
  | 12, _ => exact wm (tq4 (i := 73) rfl) rfl
  | 13, _ => exact wm (tq4 (i := 75) rfl) rfl
  | 14, _ => exact wm (tq4 (i := 77) rfl) rfl
  | 15, _ => exact wm (tq4 (i := 79) rfl) rfl
  | 16, _ => exact wm (tq4 (i := 81) rfl) rfl
  | 17, _ => exact wm (tq4 (i := 83) rfl) rfl
  | 18, _ => exact wm (tq4 (i := 85) rfl) rfl
  | 19, _ => exact wm (tq4 (i := 87) rfl) rfl
  | 20, _ => exact wm (tq4 (i := 89) rfl) rfl
  | 21, _ => exact wm (tq4 (i := 91) rfl) rfl
  | 22, _ => exact wm (tq4 (i := 93) rfl) rfl
  | 23, _ => exact wm (tq4 (i := 95) rfl) rfl
  | 24, _ => exact wm (tq4 (i := 97) rfl) rfl
  | 25, _ => exact wm (tq4 (i := 99) rfl) rfl
  | 26, _ => exact wm (tq4 (i := 101) rfl) rfl
  | 27, _ => exact wm (tq4 (i := 103) rfl) rfl
  | 28, _ => exact wm (tq4 (i := 105) rfl) rfl
  | 29, _ => exact wm (tq4 (i := 107) rfl) rfl
  | 30, _ => exact wm (tq4 (i := 109) rfl) rfl
  | 31, _ => exact wm (tq4 (i := 111) rfl) rfl
  | 32, _ => exact wm (tq4 (i := 113) rfl) rfl
  | 33, _ => exact wm (tq4 (i := 115) rfl) rfl
  | 34, _ => exact wm (tq4 (i := 117) rfl) rfl
  | 35, _ => exact wm (tq4 (i := 119) rfl) rfl
  | 36, _ => exact wm (tq4 (i := 121) rfl) rfl
  | 37, _ => exact wm (tq4 (i := 123) rfl) rfl
  | 38, _ => exact wm (tq4 (i := 125) rfl) rfl
  | 39, _ => exact wm (tq4 (i := 127) rfl) rfl
  | 40, _ => exact wm (tq4 (i := 129) rfl) rfl
  | 41, _ => exact wm (tq4 (i := 131) rfl) rfl
  | 42, _ => exact wm (tq4 (i := 133) rfl) rfl
  | 43, _ => exact wm (tq4 (i := 135) rfl) rfl
  | 44, _ => exact wm (tq4 (i := 137) rfl) rfl
  | 45, _ => exact wm (tq4 (i := 139) rfl) rfl
  | 46, _ => exact wm (tq4 (i := 141) rfl) rfl
  | 47, _ => exact wm (tq4 (i := 143) rfl) rfl
  | 48, _ => exact wm (tq4 (i := 145) rfl) rfl
  | k + 49, h => exact absurd h (by omega)
