/-! ===== BEGIN words of one list among another's, by their places ===== -/
/-! ===== END ===== -/

/-! ===== BEGIN printed: names, fields, word lists, decode rows ===== -/
def RX0 : String := "CutConformer$Cut"
def TX0 : u_T := fun k => match k with
  | 0 => ("CutConformer$Cut", "firsts", "[I", true)
  | 1 => ("CutConformer$Cut", "lengths", "[I", true)
  | _ => ("CutConformer$Cut", "count", "I", false)
def tyX0 : Nat → FieldType := fun k => match k with
  | 0 => .array .int
  | 1 => .array .int
  | _ => .int
abbrev wsX00 : List Cond := u_ws RX0 TX0 3
theorem nmX0 : ∀ a, a < 3 → ∀ b, b < 3 → a ≠ b → (TX0 a).2.1 ≠ (TX0 b).2.1 := by decide +kernel
theorem tyX0_ok : ∀ k, k < 3 → parseFieldDescriptor (TX0 k).2.2.1 = some (tyX0 k) := by decide +kernel
abbrev cX0_init : ByteArray := prog_2_method_1_code
def yX0_init : MethodName := ⟨RX0, "<init>", "()V"⟩
abbrev cX0_become : ByteArray := prog_2_method_2_code
def yX0_become : MethodName := ⟨RX0, "become", "(LCutConformer$Cut;)V"⟩
abbrev cX0_size : ByteArray := prog_2_method_3_code
def yX0_size : MethodName := ⟨RX0, "size", "()I"⟩
abbrev cX0_has : ByteArray := prog_2_method_4_code
def yX0_has : MethodName := ⟨RX0, "has", "(I)Z"⟩
abbrev cX0_firstOf : ByteArray := prog_2_method_5_code
def yX0_firstOf : MethodName := ⟨RX0, "firstOf", "(I)I"⟩
abbrev cX0_lengthOf : ByteArray := prog_2_method_6_code
def yX0_lengthOf : MethodName := ⟨RX0, "lengthOf", "(I)I"⟩
abbrev cX0_startOf : ByteArray := prog_2_method_7_code
def yX0_startOf : MethodName := ⟨RX0, "startOf", "(I)I"⟩
abbrev cX0_frames : ByteArray := prog_2_method_8_code
def yX0_frames : MethodName := ⟨RX0, "frames", "()I"⟩
abbrev cX0_append : ByteArray := prog_2_method_9_code
def yX0_append : MethodName := ⟨RX0, "append", "(II)V"⟩
abbrev cX0_newFrame : ByteArray := prog_2_method_11_code
def yX0_newFrame : MethodName := ⟨RX0, "newFrame", "(II)I"⟩
abbrev cX0_oldFrame : ByteArray := prog_2_method_12_code
def yX0_oldFrame : MethodName := ⟨RX0, "oldFrame", "(I)I"⟩
def RX1 : String := "CutConformer$History"
def TX1 : u_T := fun k => match k with
  | 0 => ("CutConformer$History", "states", "[LCutConformer$State;", true)
  | _ => ("CutConformer$History", "count", "I", false)
def tyX1 : Nat → FieldType := fun k => match k with
  | 0 => .array (.object "CutConformer$State")
  | _ => .int
abbrev wsX10 : List Cond := u_ws RX1 TX1 2
theorem nmX1 : ∀ a, a < 2 → ∀ b, b < 2 → a ≠ b → (TX1 a).2.1 ≠ (TX1 b).2.1 := by decide +kernel
theorem tyX1_ok : ∀ k, k < 2 → parseFieldDescriptor (TX1 k).2.2.1 = some (tyX1 k) := by decide +kernel
abbrev cX1_init : ByteArray := prog_3_method_1_code
def yX1_init : MethodName := ⟨RX1, "<init>", "(LCutConformer$Part;)V"⟩
abbrev cX1_size : ByteArray := prog_3_method_2_code
def yX1_size : MethodName := ⟨RX1, "size", "()I"⟩
abbrev cX1_record : ByteArray := prog_3_method_3_code
def yX1_record : MethodName := ⟨RX1, "record", "(LCutConformer$State;)V"⟩
abbrev cX1_restore : ByteArray := prog_3_method_4_code
def yX1_restore : MethodName := ⟨RX1, "restore", "(LCutConformer$State;)V"⟩
abbrev cX1_forgetOldest : ByteArray := prog_3_method_5_code
def yX1_forgetOldest : MethodName := ⟨RX1, "forgetOldest", "()V"⟩
def RX2 : String := "CutConformer$Part"
def TX2 : u_T := fun k => match k with
  | 0 => ("CutConformer$Part", "speaker", "I", true)
  | _ => ("CutConformer$Part", "text", "[B", true)
def tyX2 : Nat → FieldType := fun k => match k with
  | 0 => .int
  | _ => .array .byte
abbrev wsX20 : List Cond := u_ws RX2 TX2 2
theorem nmX2 : ∀ a, a < 2 → ∀ b, b < 2 → a ≠ b → (TX2 a).2.1 ≠ (TX2 b).2.1 := by decide +kernel
theorem tyX2_ok : ∀ k, k < 2 → parseFieldDescriptor (TX2 k).2.2.1 = some (tyX2 k) := by decide +kernel
abbrev cX2_init : ByteArray := prog_4_method_1_code
def yX2_init : MethodName := ⟨RX2, "<init>", "(I[BI)V"⟩
abbrev cX2_bytes : ByteArray := prog_4_method_2_code
def yX2_bytes : MethodName := ⟨RX2, "bytes", "()I"⟩
abbrev cX2_byteAt : ByteArray := prog_4_method_3_code
def yX2_byteAt : MethodName := ⟨RX2, "byteAt", "(I)I"⟩
abbrev cX2_brokenAt : ByteArray := prog_4_method_4_code
def yX2_brokenAt : MethodName := ⟨RX2, "brokenAt", "(I)I"⟩
abbrev cX2_isTooWide : ByteArray := prog_4_method_5_code
def yX2_isTooWide : MethodName := ⟨RX2, "isTooWide", "(I)Z"⟩
abbrev cX2_rankOf : ByteArray := prog_4_method_6_code
def yX2_rankOf : MethodName := ⟨RX2, "rankOf", "(I)I"⟩
abbrev cX2_longerLine : ByteArray := prog_4_method_7_code
def yX2_longerLine : MethodName := ⟨RX2, "longerLine", "(I)I"⟩
abbrev cX2_isWord : ByteArray := prog_4_method_8_code
def yX2_isWord : MethodName := ⟨RX2, "isWord", "(ILjava/lang/String;)Z"⟩
def RX3 : String := "CutConformer$Settings"
def TX3 : u_T := fun k => match k with
  | _ => ("CutConformer$Settings", "values", "[I", true)
def tyX3 : Nat → FieldType := fun k => match k with
  | _ => .array .int
abbrev wsX30 : List Cond := u_ws RX3 TX3 1
theorem nmX3 : ∀ a, a < 1 → ∀ b, b < 1 → a ≠ b → (TX3 a).2.1 ≠ (TX3 b).2.1 := by decide +kernel
theorem tyX3_ok : ∀ k, k < 1 → parseFieldDescriptor (TX3 k).2.2.1 = some (tyX3 k) := by decide +kernel
abbrev cX3_init : ByteArray := prog_5_method_1_code
def yX3_init : MethodName := ⟨RX3, "<init>", "()V"⟩
abbrev cX3_become : ByteArray := prog_5_method_2_code
def yX3_become : MethodName := ⟨RX3, "become", "(LCutConformer$Settings;)V"⟩
abbrev cX3_at : ByteArray := prog_5_method_3_code
def yX3_at : MethodName := ⟨RX3, "at", "(I)I"⟩
abbrev cX3_takes : ByteArray := prog_5_method_4_code
def yX3_takes : MethodName := ⟨RX3, "takes", "(II)Z"⟩
abbrev cX3_put : ByteArray := prog_5_method_5_code
def yX3_put : MethodName := ⟨RX3, "put", "(II)V"⟩
def RX4 : String := "CutConformer$Shots"
def TX4 : u_T := fun k => match k with
  | 0 => ("CutConformer$Shots", "frames", "[I", true)
  | _ => ("CutConformer$Shots", "count", "I", false)
def tyX4 : Nat → FieldType := fun k => match k with
  | 0 => .array .int
  | _ => .int
abbrev wsX40 : List Cond := u_ws RX4 TX4 2
theorem nmX4 : ∀ a, a < 2 → ∀ b, b < 2 → a ≠ b → (TX4 a).2.1 ≠ (TX4 b).2.1 := by decide +kernel
theorem tyX4_ok : ∀ k, k < 2 → parseFieldDescriptor (TX4 k).2.2.1 = some (tyX4 k) := by decide +kernel
abbrev cX4_init : ByteArray := prog_6_method_1_code
def yX4_init : MethodName := ⟨RX4, "<init>", "()V"⟩
abbrev cX4_become : ByteArray := prog_6_method_2_code
def yX4_become : MethodName := ⟨RX4, "become", "(LCutConformer$Shots;)V"⟩
abbrev cX4_size : ByteArray := prog_6_method_3_code
def yX4_size : MethodName := ⟨RX4, "size", "()I"⟩
abbrev cX4_at : ByteArray := prog_6_method_4_code
def yX4_at : MethodName := ⟨RX4, "at", "(I)I"⟩
abbrev cX4_has : ByteArray := prog_6_method_5_code
def yX4_has : MethodName := ⟨RX4, "has", "(I)Z"⟩
abbrev cX4_nearest : ByteArray := prog_6_method_6_code
def yX4_nearest : MethodName := ⟨RX4, "nearest", "(II)I"⟩
abbrev cX4_isMissed : ByteArray := prog_6_method_7_code
def yX4_isMissed : MethodName := ⟨RX4, "isMissed", "(II)Z"⟩
abbrev cX4_insert : ByteArray := prog_6_method_8_code
def yX4_insert : MethodName := ⟨RX4, "insert", "(I)V"⟩
abbrev cX4_remove : ByteArray := prog_6_method_9_code
def yX4_remove : MethodName := ⟨RX4, "remove", "(I)V"⟩
def RX5 : String := "CutConformer$State"
def TX5 : u_T := fun k => match k with
  | 0 => ("CutConformer$State", "cut", "LCutConformer$Cut;", true)
  | 1 => ("CutConformer$State", "shots", "LCutConformer$Shots;", true)
  | 2 => ("CutConformer$State", "settings", "LCutConformer$Settings;", true)
  | _ => ("CutConformer$State", "track", "LCutConformer$Track;", true)
def tyX5 : Nat → FieldType := fun k => match k with
  | 0 => .object "CutConformer$Cut"
  | 1 => .object "CutConformer$Shots"
  | 2 => .object "CutConformer$Settings"
  | _ => .object "CutConformer$Track"
abbrev wsX50 : List Cond := u_ws RX5 TX5 4
theorem nmX5 : ∀ a, a < 4 → ∀ b, b < 4 → a ≠ b → (TX5 a).2.1 ≠ (TX5 b).2.1 := by decide +kernel
theorem tyX5_ok : ∀ k, k < 4 → parseFieldDescriptor (TX5 k).2.2.1 = some (tyX5 k) := by decide +kernel
abbrev cX5_init : ByteArray := prog_7_method_1_code
def yX5_init : MethodName := ⟨RX5, "<init>", "(LCutConformer$Part;)V"⟩
abbrev cX5_become : ByteArray := prog_7_method_2_code
def yX5_become : MethodName := ⟨RX5, "become", "(LCutConformer$State;)V"⟩
abbrev cX5_readingLength : ByteArray := prog_7_method_3_code
def yX5_readingLength : MethodName := ⟨RX5, "readingLength", "(LCutConformer$Subtitle;)I"⟩
abbrev cX5_latestEnd : ByteArray := prog_7_method_4_code
def yX5_latestEnd : MethodName := ⟨RX5, "latestEnd", "(I)I"⟩
abbrev cX5_faultsOf : ByteArray := prog_7_method_5_code
def yX5_faultsOf : MethodName := ⟨RX5, "faultsOf", "(I)I"⟩
abbrev cX5_countFaulty : ByteArray := prog_7_method_6_code
def yX5_countFaulty : MethodName := ⟨RX5, "countFaulty", "(I)I"⟩
def RX6 : String := "CutConformer$Subtitle"
def TX6 : u_T := fun k => match k with
  | 0 => ("CutConformer$Subtitle", "first", "I", false)
  | 1 => ("CutConformer$Subtitle", "end", "I", false)
  | 2 => ("CutConformer$Subtitle", "parts", "I", false)
  | 3 => ("CutConformer$Subtitle", "one", "LCutConformer$Part;", false)
  | _ => ("CutConformer$Subtitle", "two", "LCutConformer$Part;", false)
def tyX6 : Nat → FieldType := fun k => match k with
  | 0 => .int
  | 1 => .int
  | 2 => .int
  | 3 => .object "CutConformer$Part"
  | _ => .object "CutConformer$Part"
abbrev wsX60 : List Cond := u_ws RX6 TX6 5
theorem nmX6 : ∀ a, a < 5 → ∀ b, b < 5 → a ≠ b → (TX6 a).2.1 ≠ (TX6 b).2.1 := by decide +kernel
theorem tyX6_ok : ∀ k, k < 5 → parseFieldDescriptor (TX6 k).2.2.1 = some (tyX6 k) := by decide +kernel
abbrev cX6_init : ByteArray := prog_8_method_1_code
def yX6_init : MethodName := ⟨RX6, "<init>", "(LCutConformer$Part;)V"⟩
abbrev cX6_become : ByteArray := prog_8_method_2_code
def yX6_become : MethodName := ⟨RX6, "become", "(LCutConformer$Subtitle;)V"⟩
abbrev cX6_length : ByteArray := prog_8_method_3_code
def yX6_length : MethodName := ⟨RX6, "length", "()I"⟩
abbrev cX6_characters : ByteArray := prog_8_method_4_code
def yX6_characters : MethodName := ⟨RX6, "characters", "()I"⟩
abbrev cX6_isTooWide : ByteArray := prog_8_method_5_code
def yX6_isTooWide : MethodName := ⟨RX6, "isTooWide", "(I)Z"⟩
abbrev cX6_overlaps : ByteArray := prog_8_method_6_code
def yX6_overlaps : MethodName := ⟨RX6, "overlaps", "(LCutConformer$Subtitle;)Z"⟩
abbrev cX6_takeIn : ByteArray := prog_8_method_7_code
def yX6_takeIn : MethodName := ⟨RX6, "takeIn", "(LCutConformer$Subtitle;)V"⟩
def RX7 : String := "CutConformer$Track"
def TX7 : u_T := fun k => match k with
  | 0 => ("CutConformer$Track", "rows", "[LCutConformer$Subtitle;", true)
  | 1 => ("CutConformer$Track", "missing", "LCutConformer$Subtitle;", true)
  | _ => ("CutConformer$Track", "count", "I", false)
def tyX7 : Nat → FieldType := fun k => match k with
  | 0 => .array (.object "CutConformer$Subtitle")
  | 1 => .object "CutConformer$Subtitle"
  | _ => .int
abbrev wsX70 : List Cond := u_ws RX7 TX7 3
theorem nmX7 : ∀ a, a < 3 → ∀ b, b < 3 → a ≠ b → (TX7 a).2.1 ≠ (TX7 b).2.1 := by decide +kernel
theorem tyX7_ok : ∀ k, k < 3 → parseFieldDescriptor (TX7 k).2.2.1 = some (tyX7 k) := by decide +kernel
abbrev cX7_init : ByteArray := prog_9_method_1_code
def yX7_init : MethodName := ⟨RX7, "<init>", "(LCutConformer$Part;)V"⟩
abbrev cX7_become : ByteArray := prog_9_method_2_code
def yX7_become : MethodName := ⟨RX7, "become", "(LCutConformer$Track;)V"⟩
abbrev cX7_size : ByteArray := prog_9_method_3_code
def yX7_size : MethodName := ⟨RX7, "size", "()I"⟩
abbrev cX7_isFull : ByteArray := prog_9_method_4_code
def yX7_isFull : MethodName := ⟨RX7, "isFull", "()Z"⟩
abbrev cX7_has : ByteArray := prog_9_method_5_code
def yX7_has : MethodName := ⟨RX7, "has", "(I)Z"⟩
abbrev cX7_at : ByteArray := prog_9_method_6_code
def yX7_at : MethodName := ⟨RX7, "at", "(I)LCutConformer$Subtitle;"⟩
abbrev cX7_empty : ByteArray := prog_9_method_7_code
def yX7_empty : MethodName := ⟨RX7, "empty", "()V"⟩
abbrev cX7_insert : ByteArray := prog_9_method_8_code
def yX7_insert : MethodName := ⟨RX7, "insert", "(IILCutConformer$Part;)I"⟩
abbrev cX7_insertLike : ByteArray := prog_9_method_9_code
def yX7_insertLike : MethodName := ⟨RX7, "insertLike", "(LCutConformer$Subtitle;II)V"⟩
abbrev cX7_remove : ByteArray := prog_9_method_10_code
def yX7_remove : MethodName := ⟨RX7, "remove", "(I)V"⟩
abbrev cX7_settleAll : ByteArray := prog_9_method_12_code
def yX7_settleAll : MethodName := ⟨RX7, "settleAll", "()V"⟩
abbrev cX7_settle : ByteArray := prog_9_method_13_code
def yX7_settle : MethodName := ⟨RX7, "settle", "(I)I"⟩
abbrev cX7_next : ByteArray := prog_9_method_14_code
def yX7_next : MethodName := ⟨RX7, "next", "(I)I"⟩
abbrev cX7_sharesFirst : ByteArray := prog_9_method_15_code
def yX7_sharesFirst : MethodName := ⟨RX7, "sharesFirst", "(I)Z"⟩
abbrev cX7_allLengths : ByteArray := prog_9_method_16_code
def yX7_allLengths : MethodName := ⟨RX7, "allLengths", "()I"⟩
abbrev cX7_greatestEnd : ByteArray := prog_9_method_17_code
def yX7_greatestEnd : MethodName := ⟨RX7, "greatestEnd", "()I"⟩
abbrev cX7_countPairs : ByteArray := prog_9_method_18_code
def yX7_countPairs : MethodName := ⟨RX7, "countPairs", "()I"⟩
abbrev cX7_shownAt : ByteArray := prog_9_method_19_code
def yX7_shownAt : MethodName := ⟨RX7, "shownAt", "(I)I"⟩
def RX8 : String := "CutConformer$Trial"
def TX8 : u_T := fun k => match k with
  | 0 => ("CutConformer$Trial", "result", "LCutConformer$State;", true)
  | 1 => ("CutConformer$Trial", "lost", "I", false)
  | 2 => ("CutConformer$Trial", "begins", "[I", true)
  | 3 => ("CutConformer$Trial", "ends", "[I", true)
  | _ => ("CutConformer$Trial", "found", "I", false)
def tyX8 : Nat → FieldType := fun k => match k with
  | 0 => .object "CutConformer$State"
  | 1 => .int
  | 2 => .array .int
  | 3 => .array .int
  | _ => .int
abbrev wsX80 : List Cond := u_ws RX8 TX8 5
theorem nmX8 : ∀ a, a < 5 → ∀ b, b < 5 → a ≠ b → (TX8 a).2.1 ≠ (TX8 b).2.1 := by decide +kernel
theorem tyX8_ok : ∀ k, k < 5 → parseFieldDescriptor (TX8 k).2.2.1 = some (tyX8 k) := by decide +kernel
abbrev cX8_init : ByteArray := prog_10_method_1_code
def yX8_init : MethodName := ⟨RX8, "<init>", "(LCutConformer$Part;)V"⟩
abbrev cX8_carryOut : ByteArray := prog_10_method_2_code
def yX8_carryOut : MethodName := ⟨RX8, "carryOut", "(LCutConformer$State;I)Z"⟩
abbrev cX8_countStretches : ByteArray := prog_10_method_3_code
def yX8_countStretches : MethodName := ⟨RX8, "countStretches", "(LCutConformer$Subtitle;LCutConformer$Cut;)I"⟩
abbrev cX8_map : ByteArray := prog_10_method_4_code
def yX8_map : MethodName := ⟨RX8, "map", "(LCutConformer$State;)Z"⟩
abbrev cX8_findStretches : ByteArray := prog_10_method_5_code
def yX8_findStretches : MethodName := ⟨RX8, "findStretches", "(LCutConformer$Subtitle;LCutConformer$Cut;)V"⟩
abbrev cX8_put : ByteArray := prog_10_method_6_code
def yX8_put : MethodName := ⟨RX8, "put", "(II)V"⟩
abbrev cX8_merge : ByteArray := prog_10_method_7_code
def yX8_merge : MethodName := ⟨RX8, "merge", "()V"⟩
abbrev cX8_stretch : ByteArray := prog_10_method_8_code
def yX8_stretch : MethodName := ⟨RX8, "stretch", "()V"⟩
abbrev cX8_snap : ByteArray := prog_10_method_9_code
def yX8_snap : MethodName := ⟨RX8, "snap", "()V"⟩
abbrev cX8_keepGaps : ByteArray := prog_10_method_10_code
def yX8_keepGaps : MethodName := ⟨RX8, "keepGaps", "()V"⟩
def RX9 : String := "CutConformer"
def TX9 : u_T := fun k => match k with
  | 0 => ("CutConformer", "typed", "[B", true)
  | 1 => ("CutConformer", "typedBytes", "I", false)
  | 2 => ("CutConformer", "now", "LCutConformer$State;", true)
  | 3 => ("CutConformer", "trial", "LCutConformer$Trial;", true)
  | _ => ("CutConformer", "history", "LCutConformer$History;", true)
def tyX9 : Nat → FieldType := fun k => match k with
  | 0 => .array .byte
  | 1 => .int
  | 2 => .object "CutConformer$State"
  | 3 => .object "CutConformer$Trial"
  | _ => .object "CutConformer$History"
abbrev wsX90 : List Cond := u_ws RX9 TX9 5
theorem nmX9 : ∀ a, a < 5 → ∀ b, b < 5 → a ≠ b → (TX9 a).2.1 ≠ (TX9 b).2.1 := by decide +kernel
theorem tyX9_ok : ∀ k, k < 5 → parseFieldDescriptor (TX9 k).2.2.1 = some (tyX9 k) := by decide +kernel
abbrev cX9_init : ByteArray := prog_1_method_1_code
def yX9_init : MethodName := ⟨RX9, "<init>", "()V"⟩
abbrev cX9_piece : ByteArray := prog_1_method_2_code
def yX9_piece : MethodName := ⟨RX9, "piece", "(II)I"⟩
abbrev cX9_pieceAt : ByteArray := prog_1_method_4_code
def yX9_pieceAt : MethodName := ⟨RX9, "pieceAt", "(II)I"⟩
abbrev cX9_shot : ByteArray := prog_1_method_5_code
def yX9_shot : MethodName := ⟨RX9, "shot", "(IZ)I"⟩
abbrev cX9_shotAt : ByteArray := prog_1_method_6_code
def yX9_shotAt : MethodName := ⟨RX9, "shotAt", "(I)I"⟩
abbrev cX9_toNew : ByteArray := prog_1_method_7_code
def yX9_toNew : MethodName := ⟨RX9, "toNew", "(II)I"⟩
abbrev cX9_toOld : ByteArray := prog_1_method_8_code
def yX9_toOld : MethodName := ⟨RX9, "toOld", "(I)I"⟩
abbrev cX9_type : ByteArray := prog_1_method_9_code
def yX9_type : MethodName := ⟨RX9, "type", "(I)I"⟩
abbrev cX9_clear : ByteArray := prog_1_method_10_code
def yX9_clear : MethodName := ⟨RX9, "clear", "()I"⟩
abbrev cX9_add : ByteArray := prog_1_method_11_code
def yX9_add : MethodName := ⟨RX9, "add", "(III)I"⟩
abbrev cX9_subtitle : ByteArray := prog_1_method_14_code
def yX9_subtitle : MethodName := ⟨RX9, "subtitle", "(II)I"⟩
abbrev cX9_part : ByteArray := prog_1_method_15_code
def yX9_part : MethodName := ⟨RX9, "part", "(III)I"⟩
abbrev cX9_set : ByteArray := prog_1_method_16_code
def yX9_set : MethodName := ⟨RX9, "set", "(II)I"⟩
abbrev cX9_conform : ByteArray := prog_1_method_17_code
def yX9_conform : MethodName := ⟨RX9, "conform", "(I)I"⟩
abbrev cX9_ifConform : ByteArray := prog_1_method_18_code
def yX9_ifConform : MethodName := ⟨RX9, "ifConform", "(II)I"⟩
abbrev cX9_stretches : ByteArray := prog_1_method_19_code
def yX9_stretches : MethodName := ⟨RX9, "stretches", "(I)I"⟩
abbrev cX9_shown : ByteArray := prog_1_method_20_code
def yX9_shown : MethodName := ⟨RX9, "shown", "(I)I"⟩
abbrev cX9_faults : ByteArray := prog_1_method_21_code
def yX9_faults : MethodName := ⟨RX9, "faults", "(I)I"⟩
abbrev cX9_told : ByteArray := prog_1_method_22_code
def yX9_told : MethodName := ⟨RX9, "told", "(I)I"⟩
abbrev cX9_undo : ByteArray := prog_1_method_23_code
def yX9_undo : MethodName := ⟨RX9, "undo", "()I"⟩
abbrev cX9_firstWrongBlank : ByteArray := prog_1_method_26_code
def yX9_firstWrongBlank : MethodName := ⟨RX9, "firstWrongBlank", "()I"⟩
abbrev cX9_isWithin : ByteArray := prog_1_method_27_code
def yX9_isWithin : MethodName := ⟨RX9, "isWithin", "(III)Z"⟩
abbrev cX9_isTime : ByteArray := prog_1_method_28_code
def yX9_isTime : MethodName := ⟨RX9, "isTime", "(II)Z"⟩
def RX10 : String := "CutConformerModel"
def TX10 : u_T := fun k => match k with
  | _ => ("", "", "", false)
def tyX10 : Nat → FieldType := fun k => match k with
  | _ => .int
abbrev wsX100 : List Cond := u_ws RX10 TX10 0
theorem nmX10 : ∀ a, a < 0 → ∀ b, b < 0 → a ≠ b → (TX10 a).2.1 ≠ (TX10 b).2.1 := by decide +kernel
theorem tyX10_ok : ∀ k, k < 0 → parseFieldDescriptor (TX10 k).2.2.1 = some (tyX10 k) := by decide +kernel
def RJ6 : String := "java/lang/Integer"
def TJ6 : u_T := fun k => match k with
  | _ => ("", "", "", false)
def tyJ6 : Nat → FieldType := fun k => match k with
  | _ => .int
theorem nmJ6 : ∀ a, a < 0 → ∀ b, b < 0 → a ≠ b → (TJ6 a).2.1 ≠ (TJ6 b).2.1 := by decide +kernel
theorem tyJ6_ok : ∀ k, k < 0 → parseFieldDescriptor (TJ6 k).2.2.1 = some (tyJ6 k) := by decide +kernel
abbrev cJ6_bitCount_0f7a4 : ByteArray := prog_13_method_49_code
def yJ6_bitCount_0f7a4 : MethodName := ⟨RJ6, "bitCount", "(I)I"⟩
def RJ9 : String := "java/lang/Math"
def TJ9 : u_T := fun k => match k with
  | _ => ("", "", "", false)
def tyJ9 : Nat → FieldType := fun k => match k with
  | _ => .int
theorem nmJ9 : ∀ a, a < 0 → ∀ b, b < 0 → a ≠ b → (TJ9 a).2.1 ≠ (TJ9 b).2.1 := by decide +kernel
theorem tyJ9_ok : ∀ k, k < 0 → parseFieldDescriptor (TJ9 k).2.2.1 = some (tyJ9 k) := by decide +kernel
abbrev cJ9_abs_0f7a4 : ByteArray := prog_14_method_59_code
def yJ9_abs_0f7a4 : MethodName := ⟨RJ9, "abs", "(I)I"⟩
abbrev cJ9_max_7cf53 : ByteArray := prog_14_method_65_code
def yJ9_max_7cf53 : MethodName := ⟨RJ9, "max", "(II)I"⟩
abbrev cJ9_min_7cf53 : ByteArray := prog_14_method_69_code
def yJ9_min_7cf53 : MethodName := ⟨RJ9, "min", "(II)I"⟩
def RJ0 : String := "java/lang/String"
def TJ0 : u_T := fun k => match k with
  | _ => ("", "", "", false)
def tyJ0 : Nat → FieldType := fun k => match k with
  | _ => .int
theorem nmJ0 : ∀ a, a < 0 → ∀ b, b < 0 → a ≠ b → (TJ0 a).2.1 ≠ (TJ0 b).2.1 := by decide +kernel
theorem tyJ0_ok : ∀ k, k < 0 → parseFieldDescriptor (TJ0 k).2.2.1 = some (tyJ0 k) := by decide +kernel
abbrev cJ0_length_8abf5 : ByteArray := prog_15_method_54_code
def yJ0_length_8abf5 : MethodName := ⟨RJ0, "length", "()I"⟩
abbrev cJ0_charAt_5068e : ByteArray := prog_15_method_56_code
def yJ0_charAt_5068e : MethodName := ⟨RJ0, "charAt", "(I)C"⟩
abbrev cJ0_coder_7d493 : ByteArray := prog_15_method_152_code
def yJ0_coder_7d493 : MethodName := ⟨RJ0, "coder", "()B"⟩
abbrev cJ0_isLatin1_aae02 : ByteArray := prog_15_method_154_code
def yJ0_isLatin1_aae02 : MethodName := ⟨RJ0, "isLatin1", "()Z"⟩
abbrev cJ0_checkIndex_df160 : ByteArray := prog_15_method_155_code
def yJ0_checkIndex_df160 : MethodName := ⟨RJ0, "checkIndex", "(II)V"⟩
def RJ1 : String := "java/lang/StringLatin1"
def TJ1 : u_T := fun k => match k with
  | _ => ("", "", "", false)
def tyJ1 : Nat → FieldType := fun k => match k with
  | _ => .int
theorem nmJ1 : ∀ a, a < 0 → ∀ b, b < 0 → a ≠ b → (TJ1 a).2.1 ≠ (TJ1 b).2.1 := by decide +kernel
theorem tyJ1_ok : ∀ k, k < 0 → parseFieldDescriptor (TJ1 k).2.2.1 = some (tyJ1 k) := by decide +kernel
abbrev cJ1_charAt_3b067 : ByteArray := prog_16_method_2_code
def yJ1_charAt_3b067 : MethodName := ⟨RJ1, "charAt", "([BI)C"⟩
def RJ2 : String := "java/lang/StringUTF16"
def TJ2 : u_T := fun k => match k with
  | _ => ("", "", "", false)
def tyJ2 : Nat → FieldType := fun k => match k with
  | _ => .int
theorem nmJ2 : ∀ a, a < 0 → ∀ b, b < 0 → a ≠ b → (TJ2 a).2.1 ≠ (TJ2 b).2.1 := by decide +kernel
theorem tyJ2_ok : ∀ k, k < 0 → parseFieldDescriptor (TJ2 k).2.2.1 = some (tyJ2 k) := by decide +kernel
abbrev cJ2_getChar_3b067 : ByteArray := prog_17_method_5_code
def yJ2_getChar_3b067 : MethodName := ⟨RJ2, "getChar", "([BI)C"⟩
abbrev cJ2_length_9d52b : ByteArray := prog_17_method_6_code
def yJ2_length_9d52b : MethodName := ⟨RJ2, "length", "([B)I"⟩
abbrev cJ2_charAt_3b067 : ByteArray := prog_17_method_83_code
def yJ2_charAt_3b067 : MethodName := ⟨RJ2, "charAt", "([BI)C"⟩
abbrev cJ2_checkIndex_2214a : ByteArray := prog_17_method_91_code
def yJ2_checkIndex_2214a : MethodName := ⟨RJ2, "checkIndex", "(I[B)V"⟩
def RJ10 : String := "java/lang/System"
def TJ10 : u_T := fun k => match k with
  | _ => ("", "", "", false)
def tyJ10 : Nat → FieldType := fun k => match k with
  | _ => .int
theorem nmJ10 : ∀ a, a < 0 → ∀ b, b < 0 → a ≠ b → (TJ10 a).2.1 ≠ (TJ10 b).2.1 := by decide +kernel
theorem tyJ10_ok : ∀ k, k < 0 → parseFieldDescriptor (TJ10 k).2.2.1 = some (tyJ10 k) := by decide +kernel
def RJ3 : String := "jdk/internal/util/Preconditions"
def TJ3 : u_T := fun k => match k with
  | _ => ("", "", "", false)
def tyJ3 : Nat → FieldType := fun k => match k with
  | _ => .int
theorem nmJ3 : ∀ a, a < 0 → ∀ b, b < 0 → a ≠ b → (TJ3 a).2.1 ≠ (TJ3 b).2.1 := by decide +kernel
theorem tyJ3_ok : ∀ k, k < 0 → parseFieldDescriptor (TJ3 k).2.2.1 = some (tyJ3 k) := by decide +kernel
abbrev cJ3_checkIndex_8e157 : ByteArray := prog_19_method_11_code
def yJ3_checkIndex_8e157 : MethodName := ⟨RJ3, "checkIndex", "(IILjava/util/function/BiFunction;)I"⟩
def RL : String := "CutConformerLaw"
abbrev cL_cell : ByteArray := method_2_code
def yL_cell : MethodName := ⟨RL, "cell", "([II)I"⟩
abbrev cL_sets : ByteArray := method_3_code
def yL_sets : MethodName := ⟨RL, "sets", "(LCutConformer;[I)Z"⟩
abbrev cL_writes : ByteArray := method_4_code
def yL_writes : MethodName := ⟨RL, "writes", "(LCutConformer;I)Z"⟩
abbrev cL_frames : ByteArray := method_5_code
def yL_frames : MethodName := ⟨RL, "frames", "(LCutConformer;[I)Z"⟩
abbrev cL_order : ByteArray := method_6_code
def yL_order : MethodName := ⟨RL, "order", "(LCutConformer;)Z"⟩
abbrev cL_lines : ByteArray := method_7_code
def yL_lines : MethodName := ⟨RL, "lines", "(LCutConformer;II)Z"⟩
abbrev cL_isTooWide : ByteArray := method_8_code
def yL_isTooWide : MethodName := ⟨RL, "isTooWide", "(LCutConformer;I)Z"⟩
abbrev cL_away : ByteArray := method_9_code
def yL_away : MethodName := ⟨RL, "away", "(LCutConformer;I)I"⟩
abbrev cL_isNear : ByteArray := method_10_code
def yL_isNear : MethodName := ⟨RL, "isNear", "(LCutConformer;I)Z"⟩
abbrev cL_faults : ByteArray := method_11_code
def yL_faults : MethodName := ⟨RL, "faults", "(LCutConformer;)Z"⟩
abbrev cL_whole : ByteArray := method_12_code
def yL_whole : MethodName := ⟨RL, "whole", "(LCutConformer;)Z"⟩
abbrev cL_step : ByteArray := method_13_code
def yL_step : MethodName := ⟨RL, "step", "(LCutConformer;I)Z"⟩
abbrev cL_law : ByteArray := code
def yL_law : MethodName := ⟨RL, "law", "([I)Z"⟩
abbrev vwCl : List vw_C := [(RX0, TX0, 3), (RX1, TX1, 2), (RX2, TX2, 2), (RX3, TX3, 1), (RX4, TX4, 2), (RX5, TX5, 4), (RX6, TX6, 5), (RX7, TX7, 3), (RX8, TX8, 5), (RX9, TX9, 5)]
