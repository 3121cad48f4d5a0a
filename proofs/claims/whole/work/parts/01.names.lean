def RX0 : String := "HarpFences$Choices"
def TX0 : u_T := fun k => match k with
  | 0 => ("HarpFences$Choices", "farm", "LHarpFences$Farm;", true)
  | 1 => ("HarpFences$Choices", "land", "LHarpFences$Land;", true)
  | 2 => ("HarpFences$Choices", "partners", "[I", true)
  | 3 => ("HarpFences$Choices", "fifthsOf", "[I", true)
  | _ => ("HarpFences$Choices", "mostWithTaken", "[I", true)
def tyX0 : Nat → FieldType := fun k => match k with
  | 0 => .object "HarpFences$Farm"
  | 1 => .object "HarpFences$Land"
  | 2 => .array .int
  | 3 => .array .int
  | _ => .array .int
theorem nmX0 : ∀ a, a < 5 → ∀ b, b < 5 → a ≠ b → (TX0 a).2.1 ≠ (TX0 b).2.1 := by decide +kernel
theorem tyX0_ok : ∀ k, k < 5 → parseFieldDescriptor (TX0 k).2.2.1 = some (tyX0 k) := by decide +kernel
abbrev cX0_init : ByteArray := prog_2_method_1_code
def yX0_init : MethodName := ⟨RX0, "<init>", "(LHarpFences$Farm;)V"⟩
abbrev cX0_alike : ByteArray := prog_2_method_2_code
def yX0_alike : MethodName := ⟨RX0, "alike", "()I"⟩
abbrev cX0_fewestTuned : ByteArray := prog_2_method_3_code
def yX0_fewestTuned : MethodName := ⟨RX0, "fewestTuned", "()I"⟩
abbrev cX0_fewestEars : ByteArray := prog_2_method_4_code
def yX0_fewestEars : MethodName := ⟨RX0, "fewestEars", "()I"⟩
abbrev cX0_partnerAlikes : ByteArray := prog_2_method_5_code
def yX0_partnerAlikes : MethodName := ⟨RX0, "partnerAlikes", "()V"⟩
abbrev cX0_areAlike : ByteArray := prog_2_method_6_code
def yX0_areAlike : MethodName := ⟨RX0, "areAlike", "(II)Z"⟩
abbrev cX0_fewestOfEachTwo : ByteArray := prog_2_method_7_code
def yX0_fewestOfEachTwo : MethodName := ⟨RX0, "fewestOfEachTwo", "(I)I"⟩
abbrev cX0_hasOneOfEachTwo : ByteArray := prog_2_method_8_code
def yX0_hasOneOfEachTwo : MethodName := ⟨RX0, "hasOneOfEachTwo", "(II)Z"⟩
abbrev cX0_mostMilk : ByteArray := prog_2_method_9_code
def yX0_mostMilk : MethodName := ⟨RX0, "mostMilk", "()I"⟩
abbrev cX0_fieldInHerd : ByteArray := prog_2_method_10_code
def yX0_fieldInHerd : MethodName := ⟨RX0, "fieldInHerd", "(I)I"⟩
abbrev cX0_bestField : ByteArray := prog_2_method_11_code
def yX0_bestField : MethodName := ⟨RX0, "bestField", "(II)I"⟩
abbrev cX0_measureHerds : ByteArray := prog_2_method_12_code
def yX0_measureHerds : MethodName := ⟨RX0, "measureHerds", "()V"⟩
abbrev cX0_milkWith : ByteArray := prog_2_method_13_code
def yX0_milkWith : MethodName := ⟨RX0, "milkWith", "(III)I"⟩
def RX1 : String := "HarpFences$Farm"
def TX1 : u_T := fun k => match k with
  | 0 => ("HarpFences$Farm", "land", "LHarpFences$Land;", true)
  | _ => ("HarpFences$Farm", "stand", "LHarpFences$Stand;", true)
def tyX1 : Nat → FieldType := fun k => match k with
  | 0 => .object "HarpFences$Land"
  | _ => .object "HarpFences$Stand"
theorem nmX1 : ∀ a, a < 2 → ∀ b, b < 2 → a ≠ b → (TX1 a).2.1 ≠ (TX1 b).2.1 := by decide +kernel
theorem tyX1_ok : ∀ k, k < 2 → parseFieldDescriptor (TX1 k).2.2.1 = some (tyX1 k) := by decide +kernel
abbrev cX1_init : ByteArray := prog_3_method_1_code
def yX1_init : MethodName := ⟨RX1, "<init>", "(LHarpFences$Land;LHarpFences$Stand;)V"⟩
abbrev cX1_isString : ByteArray := prog_3_method_2_code
def yX1_isString : MethodName := ⟨RX1, "isString", "(I)Z"⟩
abbrev cX1_soundTo : ByteArray := prog_3_method_3_code
def yX1_soundTo : MethodName := ⟨RX1, "soundTo", "(II)I"⟩
abbrev cX1_fifthsAt : ByteArray := prog_3_method_4_code
def yX1_fifthsAt : MethodName := ⟨RX1, "fifthsAt", "(I)I"⟩
abbrev cX1_isStringAt : ByteArray := prog_3_method_5_code
def yX1_isStringAt : MethodName := ⟨RX1, "isStringAt", "(II)Z"⟩
abbrev cX1_beastsThatSound : ByteArray := prog_3_method_6_code
def yX1_beastsThatSound : MethodName := ⟨RX1, "beastsThatSound", "(I)I"⟩
def RX2 : String := "HarpFences$Hearing"
def TX2 : u_T := fun k => match k with
  | 0 => ("HarpFences$Hearing", "farm", "LHarpFences$Farm;", true)
  | 1 => ("HarpFences$Hearing", "land", "LHarpFences$Land;", true)
  | 2 => ("HarpFences$Hearing", "sounds", "[I", true)
  | 3 => ("HarpFences$Hearing", "endsByKind", "[I", true)
  | 4 => ("HarpFences$Hearing", "rows", "[I", false)
  | 5 => ("HarpFences$Hearing", "rowsAfter", "[I", false)
  | _ => ("HarpFences$Hearing", "heard", "I", false)
def tyX2 : Nat → FieldType := fun k => match k with
  | 0 => .object "HarpFences$Farm"
  | 1 => .object "HarpFences$Land"
  | 2 => .array .int
  | 3 => .array .int
  | 4 => .array .int
  | 5 => .array .int
  | _ => .int
theorem nmX2 : ∀ a, a < 7 → ∀ b, b < 7 → a ≠ b → (TX2 a).2.1 ≠ (TX2 b).2.1 := by decide +kernel
theorem tyX2_ok : ∀ k, k < 7 → parseFieldDescriptor (TX2 k).2.2.1 = some (tyX2 k) := by decide +kernel
abbrev cX2_init : ByteArray := prog_4_method_1_code
def yX2_init : MethodName := ⟨RX2, "<init>", "(LHarpFences$Farm;)V"⟩
abbrev cX2_takes : ByteArray := prog_4_method_2_code
def yX2_takes : MethodName := ⟨RX2, "takes", "(I)Z"⟩
abbrev cX2_rowsFrom : ByteArray := prog_4_method_3_code
def yX2_rowsFrom : MethodName := ⟨RX2, "rowsFrom", "(II)I"⟩
abbrev cX2_crossAll : ByteArray := prog_4_method_4_code
def yX2_crossAll : MethodName := ⟨RX2, "crossAll", "(II)V"⟩
abbrev cX2_endsOf : ByteArray := prog_4_method_5_code
def yX2_endsOf : MethodName := ⟨RX2, "endsOf", "(I)I"⟩
abbrev cX2_endsBehind : ByteArray := prog_4_method_6_code
def yX2_endsBehind : MethodName := ⟨RX2, "endsBehind", "(III)I"⟩
abbrev cX2_kindsThatCan : ByteArray := prog_4_method_7_code
def yX2_kindsThatCan : MethodName := ⟨RX2, "kindsThatCan", "()I"⟩
abbrev cX2_fenceToWatch : ByteArray := prog_4_method_8_code
def yX2_fenceToWatch : MethodName := ⟨RX2, "fenceToWatch", "()I"⟩
abbrev cX2_greatestCrowd : ByteArray := prog_4_method_9_code
def yX2_greatestCrowd : MethodName := ⟨RX2, "greatestCrowd", "(I)I"⟩
abbrev cX2_comesTo : ByteArray := prog_4_method_10_code
def yX2_comesTo : MethodName := ⟨RX2, "comesTo", "(II)Z"⟩
def RX3 : String := "HarpFences$Image"
def TX3 : u_T := fun k => match k with
  | 0 => ("HarpFences$Image", "stand", "LHarpFences$Stand;", true)
  | 1 => ("HarpFences$Image", "past", "LHarpFences$Past;", true)
  | _ => ("HarpFences$Image", "kept", "Z", false)
def tyX3 : Nat → FieldType := fun k => match k with
  | 0 => .object "HarpFences$Stand"
  | 1 => .object "HarpFences$Past"
  | _ => .boolean
theorem nmX3 : ∀ a, a < 3 → ∀ b, b < 3 → a ≠ b → (TX3 a).2.1 ≠ (TX3 b).2.1 := by decide +kernel
theorem tyX3_ok : ∀ k, k < 3 → parseFieldDescriptor (TX3 k).2.2.1 = some (tyX3 k) := by decide +kernel
abbrev cX3_init : ByteArray := prog_5_method_1_code
def yX3_init : MethodName := ⟨RX3, "<init>", "()V"⟩
abbrev cX3_take : ByteArray := prog_5_method_2_code
def yX3_take : MethodName := ⟨RX3, "take", "(LHarpFences$Stand;LHarpFences$Past;)V"⟩
abbrev cX3_give : ByteArray := prog_5_method_3_code
def yX3_give : MethodName := ⟨RX3, "give", "(LHarpFences$Stand;LHarpFences$Past;)V"⟩
def RX4 : String := "HarpFences$Land"
def TX4 : u_T := fun k => match k with
  | 0 => ("HarpFences$Land", "fields", "I", false)
  | 1 => ("HarpFences$Land", "fences", "I", false)
  | 2 => ("HarpFences$Land", "first", "[I", true)
  | 3 => ("HarpFences$Land", "second", "[I", true)
  | 4 => ("HarpFences$Land", "pitch", "[I", true)
  | 5 => ("HarpFences$Land", "kinds", "I", false)
  | 6 => ("HarpFences$Land", "voice", "[I", true)
  | 7 => ("HarpFences$Land", "milk", "[I", true)
  | 8 => ("HarpFences$Land", "beasts", "I", false)
  | 9 => ("HarpFences$Land", "kindOf", "[I", true)
  | 10 => ("HarpFences$Land", "field", "[I", true)
  | _ => ("HarpFences$Land", "wet", "I", false)
def tyX4 : Nat → FieldType := fun k => match k with
  | 0 => .int
  | 1 => .int
  | 2 => .array .int
  | 3 => .array .int
  | 4 => .array .int
  | 5 => .int
  | 6 => .array .int
  | 7 => .array .int
  | 8 => .int
  | 9 => .array .int
  | 10 => .array .int
  | _ => .int
theorem nmX4 : ∀ a, a < 12 → ∀ b, b < 12 → a ≠ b → (TX4 a).2.1 ≠ (TX4 b).2.1 := by decide +kernel
theorem tyX4_ok : ∀ k, k < 12 → parseFieldDescriptor (TX4 k).2.2.1 = some (tyX4 k) := by decide +kernel
abbrev cX4_init : ByteArray := prog_6_method_1_code
def yX4_init : MethodName := ⟨RX4, "<init>", "()V"⟩
abbrev cX4_begin : ByteArray := prog_6_method_2_code
def yX4_begin : MethodName := ⟨RX4, "begin", "()V"⟩
abbrev cX4_copyFrom : ByteArray := prog_6_method_3_code
def yX4_copyFrom : MethodName := ⟨RX4, "copyFrom", "(LHarpFences$Land;)V"⟩
abbrev cX4_isAt : ByteArray := prog_6_method_4_code
def yX4_isAt : MethodName := ⟨RX4, "isAt", "(II)Z"⟩
abbrev cX4_across : ByteArray := prog_6_method_5_code
def yX4_across : MethodName := ⟨RX4, "across", "(II)I"⟩
abbrev cX4_endBits : ByteArray := prog_6_method_6_code
def yX4_endBits : MethodName := ⟨RX4, "endBits", "(I)I"⟩
def RX5 : String := "HarpFences$Past"
def TX5 : u_T := fun k => match k with
  | 0 => ("HarpFences$Past", "ahead", "[LHarpFences$Stand;", true)
  | 1 => ("HarpFences$Past", "latest", "I", false)
  | _ => ("HarpFences$Past", "known", "I", false)
def tyX5 : Nat → FieldType := fun k => match k with
  | 0 => .array (.object "HarpFences$Stand")
  | 1 => .int
  | _ => .int
theorem nmX5 : ∀ a, a < 3 → ∀ b, b < 3 → a ≠ b → (TX5 a).2.1 ≠ (TX5 b).2.1 := by decide +kernel
theorem tyX5_ok : ∀ k, k < 3 → parseFieldDescriptor (TX5 k).2.2.1 = some (tyX5 k) := by decide +kernel
abbrev cX5_init : ByteArray := prog_7_method_1_code
def yX5_init : MethodName := ⟨RX5, "<init>", "()V"⟩
abbrev cX5_note : ByteArray := prog_7_method_2_code
def yX5_note : MethodName := ⟨RX5, "note", "(LHarpFences$Stand;)V"⟩
abbrev cX5_restore : ByteArray := prog_7_method_3_code
def yX5_restore : MethodName := ⟨RX5, "restore", "(LHarpFences$Stand;)V"⟩
abbrev cX5_copyFrom : ByteArray := prog_7_method_4_code
def yX5_copyFrom : MethodName := ⟨RX5, "copyFrom", "(LHarpFences$Past;)V"⟩
def RX6 : String := "HarpFences$Paths"
def TX6 : u_T := fun k => match k with
  | 0 => ("HarpFences$Paths", "farm", "LHarpFences$Farm;", true)
  | 1 => ("HarpFences$Paths", "land", "LHarpFences$Land;", true)
  | 2 => ("HarpFences$Paths", "costs", "[I", true)
  | 3 => ("HarpFences$Paths", "snapping", "[I", true)
  | 4 => ("HarpFences$Paths", "snappers", "I", false)
  | _ => ("HarpFences$Paths", "silent", "I", false)
def tyX6 : Nat → FieldType := fun k => match k with
  | 0 => .object "HarpFences$Farm"
  | 1 => .object "HarpFences$Land"
  | 2 => .array .int
  | 3 => .array .int
  | 4 => .int
  | _ => .int
theorem nmX6 : ∀ a, a < 6 → ∀ b, b < 6 → a ≠ b → (TX6 a).2.1 ≠ (TX6 b).2.1 := by decide +kernel
theorem tyX6_ok : ∀ k, k < 6 → parseFieldDescriptor (TX6 k).2.2.1 = some (tyX6 k) := by decide +kernel
abbrev cX6_init : ByteArray := prog_8_method_1_code
def yX6_init : MethodName := ⟨RX6, "<init>", "(LHarpFences$Farm;)V"⟩
abbrev cX6_fewestHeard : ByteArray := prog_8_method_2_code
def yX6_fewestHeard : MethodName := ⟨RX6, "fewestHeard", "(III)I"⟩
abbrev cX6_fewestCrossings : ByteArray := prog_8_method_3_code
def yX6_fewestCrossings : MethodName := ⟨RX6, "fewestCrossings", "(III)I"⟩
abbrev cX6_firstFence : ByteArray := prog_8_method_4_code
def yX6_firstFence : MethodName := ⟨RX6, "firstFence", "(III)I"⟩
abbrev cX6_costOf : ByteArray := prog_8_method_5_code
def yX6_costOf : MethodName := ⟨RX6, "costOf", "(II)I"⟩
abbrev cX6_measure : ByteArray := prog_8_method_6_code
def yX6_measure : MethodName := ⟨RX6, "measure", "(II)V"⟩
abbrev cX6_frostParts : ByteArray := prog_8_method_7_code
def yX6_frostParts : MethodName := ⟨RX6, "frostParts", "(II)I"⟩
abbrev cX6_frostUnheard : ByteArray := prog_8_method_8_code
def yX6_frostUnheard : MethodName := ⟨RX6, "frostUnheard", "(III)I"⟩
abbrev cX6_snappedFences : ByteArray := prog_8_method_9_code
def yX6_snappedFences : MethodName := ⟨RX6, "snappedFences", "(I)I"⟩
abbrev cX6_reaches : ByteArray := prog_8_method_10_code
def yX6_reaches : MethodName := ⟨RX6, "reaches", "(III)Z"⟩
abbrev cX6_power : ByteArray := prog_8_method_11_code
def yX6_power : MethodName := ⟨RX6, "power", "(II)I"⟩
abbrev cX6_commonDivisor : ByteArray := prog_8_method_12_code
def yX6_commonDivisor : MethodName := ⟨RX6, "commonDivisor", "(II)I"⟩
def RX7 : String := "HarpFences$Stand"
def TX7 : u_T := fun k => match k with
  | 0 => ("HarpFences$Stand", "field", "[I", true)
  | 1 => ("HarpFences$Stand", "pitch", "[I", true)
  | 2 => ("HarpFences$Stand", "song", "[I", true)
  | 3 => ("HarpFences$Stand", "sung", "I", false)
  | 4 => ("HarpFences$Stand", "cut", "I", false)
  | 5 => ("HarpFences$Stand", "down", "I", false)
  | _ => ("HarpFences$Stand", "wet", "I", false)
def tyX7 : Nat → FieldType := fun k => match k with
  | 0 => .array .int
  | 1 => .array .int
  | 2 => .array .int
  | 3 => .int
  | 4 => .int
  | 5 => .int
  | _ => .int
theorem nmX7 : ∀ a, a < 7 → ∀ b, b < 7 → a ≠ b → (TX7 a).2.1 ≠ (TX7 b).2.1 := by decide +kernel
theorem tyX7_ok : ∀ k, k < 7 → parseFieldDescriptor (TX7 k).2.2.1 = some (tyX7 k) := by decide +kernel
abbrev cX7_init : ByteArray := prog_9_method_1_code
def yX7_init : MethodName := ⟨RX7, "<init>", "()V"⟩
abbrev cX7_begin : ByteArray := prog_9_method_2_code
def yX7_begin : MethodName := ⟨RX7, "begin", "(LHarpFences$Land;)V"⟩
abbrev cX7_copyFrom : ByteArray := prog_9_method_3_code
def yX7_copyFrom : MethodName := ⟨RX7, "copyFrom", "(LHarpFences$Stand;)V"⟩
abbrev cX7_sing : ByteArray := prog_9_method_4_code
def yX7_sing : MethodName := ⟨RX7, "sing", "(I)V"⟩
def RX8 : String := "HarpFences$Text"
def TX8 : u_T := fun k => match k with
  | 0 => ("HarpFences$Text", "bytes", "[I", true)
  | 1 => ("HarpFences$Text", "length", "I", false)
  | 2 => ("HarpFences$Text", "place", "I", false)
  | 3 => ("HarpFences$Text", "token", "I", false)
  | 4 => ("HarpFences$Text", "start", "I", false)
  | 5 => ("HarpFences$Text", "value", "I", false)
  | _ => ("HarpFences$Text", "wetTold", "Z", false)
def tyX8 : Nat → FieldType := fun k => match k with
  | 0 => .array .int
  | 1 => .int
  | 2 => .int
  | 3 => .int
  | 4 => .int
  | 5 => .int
  | _ => .boolean
theorem nmX8 : ∀ a, a < 7 → ∀ b, b < 7 → a ≠ b → (TX8 a).2.1 ≠ (TX8 b).2.1 := by decide +kernel
theorem tyX8_ok : ∀ k, k < 7 → parseFieldDescriptor (TX8 k).2.2.1 = some (tyX8 k) := by decide +kernel
abbrev cX8_init : ByteArray := prog_10_method_1_code
def yX8_init : MethodName := ⟨RX8, "<init>", "()V"⟩
abbrev cX8_takes : ByteArray := prog_10_method_2_code
def yX8_takes : MethodName := ⟨RX8, "takes", "(I)Z"⟩
abbrev cX8_tell : ByteArray := prog_10_method_3_code
def yX8_tell : MethodName := ⟨RX8, "tell", "(LHarpFences$Land;)I"⟩
abbrev cX8_tellsFields : ByteArray := prog_10_method_4_code
def yX8_tellsFields : MethodName := ⟨RX8, "tellsFields", "(LHarpFences$Land;)Z"⟩
abbrev cX8_tellsFence : ByteArray := prog_10_method_5_code
def yX8_tellsFence : MethodName := ⟨RX8, "tellsFence", "(LHarpFences$Land;)Z"⟩
abbrev cX8_tellsKind : ByteArray := prog_10_method_6_code
def yX8_tellsKind : MethodName := ⟨RX8, "tellsKind", "(LHarpFences$Land;)Z"⟩
abbrev cX8_tellsBeast : ByteArray := prog_10_method_7_code
def yX8_tellsBeast : MethodName := ⟨RX8, "tellsBeast", "(LHarpFences$Land;)Z"⟩
abbrev cX8_tellsWet : ByteArray := prog_10_method_8_code
def yX8_tellsWet : MethodName := ⟨RX8, "tellsWet", "(LHarpFences$Land;)Z"⟩
abbrev cX8_number : ByteArray := prog_10_method_9_code
def yX8_number : MethodName := ⟨RX8, "number", "(II)Z"⟩
abbrev cX8_stops : ByteArray := prog_10_method_10_code
def yX8_stops : MethodName := ⟨RX8, "stops", "()Z"⟩
abbrev cX8_step : ByteArray := prog_10_method_11_code
def yX8_step : MethodName := ⟨RX8, "step", "()V"⟩
abbrev cX8_stepLetters : ByteArray := prog_10_method_12_code
def yX8_stepLetters : MethodName := ⟨RX8, "stepLetters", "()V"⟩
abbrev cX8_stepNumber : ByteArray := prog_10_method_13_code
def yX8_stepNumber : MethodName := ⟨RX8, "stepNumber", "()V"⟩
abbrev cX8_isLetter : ByteArray := prog_10_method_14_code
def yX8_isLetter : MethodName := ⟨RX8, "isLetter", "(I)Z"⟩
abbrev cX8_isDigit : ByteArray := prog_10_method_15_code
def yX8_isDigit : MethodName := ⟨RX8, "isDigit", "(I)Z"⟩
def RX9 : String := "HarpFences"
def TX9 : u_T := fun k => match k with
  | 0 => ("HarpFences", "text", "LHarpFences$Text;", true)
  | 1 => ("HarpFences", "land", "LHarpFences$Land;", true)
  | 2 => ("HarpFences", "draft", "LHarpFences$Land;", true)
  | 3 => ("HarpFences", "stand", "LHarpFences$Stand;", true)
  | 4 => ("HarpFences", "farm", "LHarpFences$Farm;", true)
  | 5 => ("HarpFences", "past", "LHarpFences$Past;", true)
  | 6 => ("HarpFences", "images", "[LHarpFences$Image;", true)
  | 7 => ("HarpFences", "hearing", "LHarpFences$Hearing;", true)
  | 8 => ("HarpFences", "paths", "LHarpFences$Paths;", true)
  | 9 => ("HarpFences", "choices", "LHarpFences$Choices;", true)
  | _ => ("HarpFences", "traced", "J", false)
def tyX9 : Nat → FieldType := fun k => match k with
  | 0 => .object "HarpFences$Text"
  | 1 => .object "HarpFences$Land"
  | 2 => .object "HarpFences$Land"
  | 3 => .object "HarpFences$Stand"
  | 4 => .object "HarpFences$Farm"
  | 5 => .object "HarpFences$Past"
  | 6 => .array (.object "HarpFences$Image")
  | 7 => .object "HarpFences$Hearing"
  | 8 => .object "HarpFences$Paths"
  | 9 => .object "HarpFences$Choices"
  | _ => .long
theorem nmX9 : ∀ a, a < 11 → ∀ b, b < 11 → a ≠ b → (TX9 a).2.1 ≠ (TX9 b).2.1 := by decide +kernel
theorem tyX9_ok : ∀ k, k < 11 → parseFieldDescriptor (TX9 k).2.2.1 = some (tyX9 k) := by decide +kernel
abbrev cX9_init : ByteArray := prog_1_method_1_code
def yX9_init : MethodName := ⟨RX9, "<init>", "()V"⟩
abbrev cX9_type : ByteArray := prog_1_method_2_code
def yX9_type : MethodName := ⟨RX9, "type", "(I)I"⟩
abbrev cX9_clear : ByteArray := prog_1_method_3_code
def yX9_clear : MethodName := ⟨RX9, "clear", "()I"⟩
abbrev cX9_downs : ByteArray := prog_1_method_4_code
def yX9_downs : MethodName := ⟨RX9, "downs", "()I"⟩
abbrev cX9_fence : ByteArray := prog_1_method_5_code
def yX9_fence : MethodName := ⟨RX9, "fence", "(II)I"⟩
abbrev cX9_kind : ByteArray := prog_1_method_6_code
def yX9_kind : MethodName := ⟨RX9, "kind", "(II)I"⟩
abbrev cX9_beast : ByteArray := prog_1_method_7_code
def yX9_beast : MethodName := ⟨RX9, "beast", "(II)I"⟩
abbrev cX9_sound : ByteArray := prog_1_method_8_code
def yX9_sound : MethodName := ⟨RX9, "sound", "(II)I"⟩
abbrev cX9_goes : ByteArray := prog_1_method_9_code
def yX9_goes : MethodName := ⟨RX9, "goes", "(II)I"⟩
abbrev cX9_cuts : ByteArray := prog_1_method_10_code
def yX9_cuts : MethodName := ⟨RX9, "cuts", "(II)I"⟩
abbrev cX9_tunes : ByteArray := prog_1_method_11_code
def yX9_tunes : MethodName := ⟨RX9, "tunes", "(II)I"⟩
abbrev cX9_lays : ByteArray := prog_1_method_12_code
def yX9_lays : MethodName := ⟨RX9, "lays", "(I)I"⟩
abbrev cX9_rains : ByteArray := prog_1_method_13_code
def yX9_rains : MethodName := ⟨RX9, "rains", "(I)I"⟩
abbrev cX9_undo : ByteArray := prog_1_method_14_code
def yX9_undo : MethodName := ⟨RX9, "undo", "()I"⟩
abbrev cX9_now : ByteArray := prog_1_method_15_code
def yX9_now : MethodName := ⟨RX9, "now", "(I)I"⟩
abbrev cX9_song : ByteArray := prog_1_method_16_code
def yX9_song : MethodName := ⟨RX9, "song", "(I)I"⟩
abbrev cX9_who : ByteArray := prog_1_method_17_code
def yX9_who : MethodName := ⟨RX9, "who", "(I)I"⟩
abbrev cX9_hears : ByteArray := prog_1_method_18_code
def yX9_hears : MethodName := ⟨RX9, "hears", "(I)I"⟩
abbrev cX9_forget : ByteArray := prog_1_method_19_code
def yX9_forget : MethodName := ⟨RX9, "forget", "()I"⟩
abbrev cX9_ways : ByteArray := prog_1_method_20_code
def yX9_ways : MethodName := ⟨RX9, "ways", "(II)I"⟩
abbrev cX9_ends : ByteArray := prog_1_method_21_code
def yX9_ends : MethodName := ⟨RX9, "ends", "(I)I"⟩
abbrev cX9_can : ByteArray := prog_1_method_22_code
def yX9_can : MethodName := ⟨RX9, "can", "()I"⟩
abbrev cX9_ask : ByteArray := prog_1_method_23_code
def yX9_ask : MethodName := ⟨RX9, "ask", "()I"⟩
abbrev cX9_quiet : ByteArray := prog_1_method_24_code
def yX9_quiet : MethodName := ⟨RX9, "quiet", "(IIII)I"⟩
abbrev cX9_fifths : ByteArray := prog_1_method_25_code
def yX9_fifths : MethodName := ⟨RX9, "fifths", "(I)I"⟩
abbrev cX9_herd : ByteArray := prog_1_method_26_code
def yX9_herd : MethodName := ⟨RX9, "herd", "(I)I"⟩
abbrev cX9_frost : ByteArray := prog_1_method_27_code
def yX9_frost : MethodName := ⟨RX9, "frost", "(IIIIII)I"⟩
abbrev cX9_mark : ByteArray := prog_1_method_28_code
def yX9_mark : MethodName := ⟨RX9, "mark", "(II)I"⟩
abbrev cX9_keep : ByteArray := prog_1_method_29_code
def yX9_keep : MethodName := ⟨RX9, "keep", "(I)I"⟩
abbrev cX9_back : ByteArray := prog_1_method_30_code
def yX9_back : MethodName := ⟨RX9, "back", "(I)I"⟩
abbrev cX9_count : ByteArray := prog_1_method_31_code
def yX9_count : MethodName := ⟨RX9, "count", "(I)I"⟩
abbrev cX9_trace : ByteArray := prog_1_method_32_code
def yX9_trace : MethodName := ⟨RX9, "trace", "()J"⟩
abbrev cX9_beginAnew : ByteArray := prog_1_method_33_code
def yX9_beginAnew : MethodName := ⟨RX9, "beginAnew", "()V"⟩
abbrev cX9_isField : ByteArray := prog_1_method_34_code
def yX9_isField : MethodName := ⟨RX9, "isField", "(I)Z"⟩
abbrev cX9_isFence : ByteArray := prog_1_method_35_code
def yX9_isFence : MethodName := ⟨RX9, "isFence", "(I)Z"⟩
abbrev cX9_isKind : ByteArray := prog_1_method_36_code
def yX9_isKind : MethodName := ⟨RX9, "isKind", "(I)Z"⟩
abbrev cX9_isBeast : ByteArray := prog_1_method_37_code
def yX9_isBeast : MethodName := ⟨RX9, "isBeast", "(I)Z"⟩
abbrev cX9_isImage : ByteArray := prog_1_method_38_code
def yX9_isImage : MethodName := ⟨RX9, "isImage", "(I)Z"⟩
abbrev cX9_isFlag : ByteArray := prog_1_method_39_code
def yX9_isFlag : MethodName := ⟨RX9, "isFlag", "(I)Z"⟩
abbrev cX9_markString : ByteArray := prog_1_method_40_code
def yX9_markString : MethodName := ⟨RX9, "markString", "(I)I"⟩
abbrev cX9_markBass : ByteArray := prog_1_method_41_code
def yX9_markBass : MethodName := ⟨RX9, "markBass", "(I)I"⟩
abbrev cX9_markTreble : ByteArray := prog_1_method_42_code
def yX9_markTreble : MethodName := ⟨RX9, "markTreble", "(I)I"⟩
abbrev cX9_markBull : ByteArray := prog_1_method_43_code
def yX9_markBull : MethodName := ⟨RX9, "markBull", "(I)I"⟩
abbrev cX9_markLark : ByteArray := prog_1_method_44_code
def yX9_markLark : MethodName := ⟨RX9, "markLark", "(I)I"⟩
abbrev cX9_markPedal : ByteArray := prog_1_method_45_code
def yX9_markPedal : MethodName := ⟨RX9, "markPedal", "(I)I"⟩
def RX10 : String := "HarpFencesModel"
def TX10 : u_T := fun k => match k with
  | 0 => ("HarpFencesModel", "text", "[B", true)
  | 1 => ("HarpFencesModel", "typed", "I", false)
  | 2 => ("HarpFencesModel", "fields", "[I", true)
  | 3 => ("HarpFencesModel", "fences", "[I", true)
  | 4 => ("HarpFencesModel", "left", "[I", true)
  | 5 => ("HarpFencesModel", "right", "[I", true)
  | 6 => ("HarpFencesModel", "firstPitch", "[I", true)
  | 7 => ("HarpFencesModel", "kinds", "[I", true)
  | 8 => ("HarpFencesModel", "voice", "[I", true)
  | 9 => ("HarpFencesModel", "milk", "[I", true)
  | 10 => ("HarpFencesModel", "beasts", "[I", true)
  | 11 => ("HarpFencesModel", "kindOf", "[I", true)
  | 12 => ("HarpFencesModel", "firstField", "[I", true)
  | 13 => ("HarpFencesModel", "firstWet", "[I", true)
  | 14 => ("HarpFencesModel", "at", "I", false)
  | 15 => ("HarpFencesModel", "place", "I", false)
  | 16 => ("HarpFencesModel", "sort", "I", false)
  | 17 => ("HarpFencesModel", "value", "I", false)
  | 18 => ("HarpFencesModel", "isWrong", "Z", false)
  | 19 => ("HarpFencesModel", "items", "I", false)
  | 20 => ("HarpFencesModel", "now", "[I", true)
  | 21 => ("HarpFencesModel", "known", "[I", true)
  | 22 => ("HarpFencesModel", "before", "[I", true)
  | 23 => ("HarpFencesModel", "store", "[I", true)
  | 24 => ("HarpFencesModel", "isKept", "[Z", true)
  | 25 => ("HarpFencesModel", "ear", "[I", true)
  | 26 => ("HarpFencesModel", "heard", "I", false)
  | 27 => ("HarpFencesModel", "many", "[I", true)
  | 28 => ("HarpFencesModel", "next", "[I", true)
  | 29 => ("HarpFencesModel", "far", "[I", true)
  | 30 => ("HarpFencesModel", "most", "[I", true)
  | _ => ("HarpFencesModel", "trace", "J", false)
def tyX10 : Nat → FieldType := fun k => match k with
  | 0 => .array .byte
  | 1 => .int
  | 2 => .array .int
  | 3 => .array .int
  | 4 => .array .int
  | 5 => .array .int
  | 6 => .array .int
  | 7 => .array .int
  | 8 => .array .int
  | 9 => .array .int
  | 10 => .array .int
  | 11 => .array .int
  | 12 => .array .int
  | 13 => .array .int
  | 14 => .int
  | 15 => .int
  | 16 => .int
  | 17 => .int
  | 18 => .boolean
  | 19 => .int
  | 20 => .array .int
  | 21 => .array .int
  | 22 => .array .int
  | 23 => .array .int
  | 24 => .array .boolean
  | 25 => .array .int
  | 26 => .int
  | 27 => .array .int
  | 28 => .array .int
  | 29 => .array .int
  | 30 => .array .int
  | _ => .long
theorem nmX10 : ∀ a, a < 32 → ∀ b, b < 32 → a ≠ b → (TX10 a).2.1 ≠ (TX10 b).2.1 := by decide +kernel
theorem tyX10_ok : ∀ k, k < 32 → parseFieldDescriptor (TX10 k).2.2.1 = some (tyX10 k) := by decide +kernel
abbrev cX10_init : ByteArray := prog_12_method_1_code
def yX10_init : MethodName := ⟨RX10, "<init>", "()V"⟩
abbrev cX10_in : ByteArray := prog_12_method_3_code
def yX10_in : MethodName := ⟨RX10, "in", "(III)Z"⟩
abbrev cX10_has : ByteArray := prog_12_method_4_code
def yX10_has : MethodName := ⟨RX10, "has", "(II)Z"⟩
abbrev cX10_type : ByteArray := prog_12_method_5_code
def yX10_type : MethodName := ⟨RX10, "type", "(I)I"⟩
abbrev cX10_clear : ByteArray := prog_12_method_6_code
def yX10_clear : MethodName := ⟨RX10, "clear", "()I"⟩
abbrev cX10_here : ByteArray := prog_12_method_7_code
def yX10_here : MethodName := ⟨RX10, "here", "()I"⟩
abbrev cX10_step : ByteArray := prog_12_method_8_code
def yX10_step : MethodName := ⟨RX10, "step", "()V"⟩
abbrev cX10_due : ByteArray := prog_12_method_9_code
def yX10_due : MethodName := ⟨RX10, "due", "(Z)V"⟩
abbrev cX10_number : ByteArray := prog_12_method_10_code
def yX10_number : MethodName := ⟨RX10, "number", "(II)I"⟩
abbrev cX10_item : ByteArray := prog_12_method_11_code
def yX10_item : MethodName := ⟨RX10, "item", "(I)V"⟩
abbrev cX10_may : ByteArray := prog_12_method_12_code
def yX10_may : MethodName := ⟨RX10, "may", "(IZ)Z"⟩
abbrev cX10_read : ByteArray := prog_12_method_13_code
def yX10_read : MethodName := ⟨RX10, "read", "()V"⟩
abbrev cX10_downs : ByteArray := prog_12_method_14_code
def yX10_downs : MethodName := ⟨RX10, "downs", "()I"⟩
abbrev cX10_isField : ByteArray := prog_12_method_15_code
def yX10_isField : MethodName := ⟨RX10, "isField", "(I)Z"⟩
abbrev cX10_isFence : ByteArray := prog_12_method_16_code
def yX10_isFence : MethodName := ⟨RX10, "isFence", "(I)Z"⟩
abbrev cX10_isKind : ByteArray := prog_12_method_17_code
def yX10_isKind : MethodName := ⟨RX10, "isKind", "(I)Z"⟩
abbrev cX10_isBeast : ByteArray := prog_12_method_18_code
def yX10_isBeast : MethodName := ⟨RX10, "isBeast", "(I)Z"⟩
abbrev cX10_soundOf : ByteArray := prog_12_method_19_code
def yX10_soundOf : MethodName := ⟨RX10, "soundOf", "(II)I"⟩
abbrev cX10_isAt : ByteArray := prog_12_method_20_code
def yX10_isAt : MethodName := ⟨RX10, "isAt", "(II)Z"⟩
abbrev cX10_across : ByteArray := prog_12_method_21_code
def yX10_across : MethodName := ⟨RX10, "across", "(II)I"⟩
abbrev cX10_isString : ByteArray := prog_12_method_22_code
def yX10_isString : MethodName := ⟨RX10, "isString", "(I)Z"⟩
abbrev cX10_bitsOf : ByteArray := prog_12_method_23_code
def yX10_bitsOf : MethodName := ⟨RX10, "bitsOf", "(I)I"⟩
abbrev cX10_allOf : ByteArray := prog_12_method_24_code
def yX10_allOf : MethodName := ⟨RX10, "allOf", "(I)I"⟩
abbrev cX10_fence : ByteArray := prog_12_method_25_code
def yX10_fence : MethodName := ⟨RX10, "fence", "(II)I"⟩
abbrev cX10_kind : ByteArray := prog_12_method_26_code
def yX10_kind : MethodName := ⟨RX10, "kind", "(II)I"⟩
abbrev cX10_beast : ByteArray := prog_12_method_27_code
def yX10_beast : MethodName := ⟨RX10, "beast", "(II)I"⟩
abbrev cX10_sound : ByteArray := prog_12_method_28_code
def yX10_sound : MethodName := ⟨RX10, "sound", "(II)I"⟩
abbrev cX10_know : ByteArray := prog_12_method_29_code
def yX10_know : MethodName := ⟨RX10, "know", "()V"⟩
abbrev cX10_sing : ByteArray := prog_12_method_30_code
def yX10_sing : MethodName := ⟨RX10, "sing", "(I)V"⟩
abbrev cX10_goes : ByteArray := prog_12_method_31_code
def yX10_goes : MethodName := ⟨RX10, "goes", "(II)I"⟩
abbrev cX10_cuts : ByteArray := prog_12_method_32_code
def yX10_cuts : MethodName := ⟨RX10, "cuts", "(II)I"⟩
abbrev cX10_tunes : ByteArray := prog_12_method_33_code
def yX10_tunes : MethodName := ⟨RX10, "tunes", "(II)I"⟩
abbrev cX10_lays : ByteArray := prog_12_method_34_code
def yX10_lays : MethodName := ⟨RX10, "lays", "(I)I"⟩
abbrev cX10_rains : ByteArray := prog_12_method_35_code
def yX10_rains : MethodName := ⟨RX10, "rains", "(I)I"⟩
abbrev cX10_undo : ByteArray := prog_12_method_36_code
def yX10_undo : MethodName := ⟨RX10, "undo", "()I"⟩
abbrev cX10_areAlike : ByteArray := prog_12_method_37_code
def yX10_areAlike : MethodName := ⟨RX10, "areAlike", "(II)Z"⟩
abbrev cX10_alike : ByteArray := prog_12_method_38_code
def yX10_alike : MethodName := ⟨RX10, "alike", "()I"⟩
abbrev cX10_areApart : ByteArray := prog_12_method_39_code
def yX10_areApart : MethodName := ⟨RX10, "areApart", "(I)Z"⟩
abbrev cX10_areHeard : ByteArray := prog_12_method_40_code
def yX10_areHeard : MethodName := ⟨RX10, "areHeard", "(I)Z"⟩
abbrev cX10_fewest : ByteArray := prog_12_method_41_code
def yX10_fewest : MethodName := ⟨RX10, "fewest", "(I)I"⟩
abbrev cX10_now : ByteArray := prog_12_method_42_code
def yX10_now : MethodName := ⟨RX10, "now", "(I)I"⟩
abbrev cX10_song : ByteArray := prog_12_method_43_code
def yX10_song : MethodName := ⟨RX10, "song", "(I)I"⟩
abbrev cX10_who : ByteArray := prog_12_method_44_code
def yX10_who : MethodName := ⟨RX10, "who", "(I)I"⟩
abbrev cX10_hears : ByteArray := prog_12_method_45_code
def yX10_hears : MethodName := ⟨RX10, "hears", "(I)I"⟩
abbrev cX10_forget : ByteArray := prog_12_method_46_code
def yX10_forget : MethodName := ⟨RX10, "forget", "()I"⟩
abbrev cX10_ways : ByteArray := prog_12_method_47_code
def yX10_ways : MethodName := ⟨RX10, "ways", "(II)I"⟩
abbrev cX10_endsOf : ByteArray := prog_12_method_48_code
def yX10_endsOf : MethodName := ⟨RX10, "endsOf", "(I)I"⟩
abbrev cX10_ends : ByteArray := prog_12_method_49_code
def yX10_ends : MethodName := ⟨RX10, "ends", "(I)I"⟩
abbrev cX10_can : ByteArray := prog_12_method_50_code
def yX10_can : MethodName := ⟨RX10, "can", "()I"⟩
abbrev cX10_comesTo : ByteArray := prog_12_method_51_code
def yX10_comesTo : MethodName := ⟨RX10, "comesTo", "(II)Z"⟩
abbrev cX10_ask : ByteArray := prog_12_method_52_code
def yX10_ask : MethodName := ⟨RX10, "ask", "()I"⟩
abbrev cX10_costOf : ByteArray := prog_12_method_53_code
def yX10_costOf : MethodName := ⟨RX10, "costOf", "(II)I"⟩
abbrev cX10_measure : ByteArray := prog_12_method_54_code
def yX10_measure : MethodName := ⟨RX10, "measure", "(II)V"⟩
abbrev cX10_quiet : ByteArray := prog_12_method_55_code
def yX10_quiet : MethodName := ⟨RX10, "quiet", "(IIII)I"⟩
abbrev cX10_fifthsOf : ByteArray := prog_12_method_56_code
def yX10_fifthsOf : MethodName := ⟨RX10, "fifthsOf", "(I)I"⟩
abbrev cX10_fifths : ByteArray := prog_12_method_57_code
def yX10_fifths : MethodName := ⟨RX10, "fifths", "(I)I"⟩
abbrev cX10_milkBy : ByteArray := prog_12_method_58_code
def yX10_milkBy : MethodName := ⟨RX10, "milkBy", "(III)I"⟩
abbrev cX10_herd : ByteArray := prog_12_method_59_code
def yX10_herd : MethodName := ⟨RX10, "herd", "(I)I"⟩
abbrev cX10_isUnheard : ByteArray := prog_12_method_60_code
def yX10_isUnheard : MethodName := ⟨RX10, "isUnheard", "(IIII)Z"⟩
abbrev cX10_frost : ByteArray := prog_12_method_61_code
def yX10_frost : MethodName := ⟨RX10, "frost", "(IIIIII)I"⟩
abbrev cX10_bodiesOf : ByteArray := prog_12_method_62_code
def yX10_bodiesOf : MethodName := ⟨RX10, "bodiesOf", "(I)I"⟩
abbrev cX10_mark : ByteArray := prog_12_method_63_code
def yX10_mark : MethodName := ⟨RX10, "mark", "(II)I"⟩
abbrev cX10_trace : ByteArray := prog_12_method_64_code
def yX10_trace : MethodName := ⟨RX10, "trace", "()J"⟩
abbrev cX10_keep : ByteArray := prog_12_method_65_code
def yX10_keep : MethodName := ⟨RX10, "keep", "(I)I"⟩
abbrev cX10_back : ByteArray := prog_12_method_66_code
def yX10_back : MethodName := ⟨RX10, "back", "(I)I"⟩
abbrev cX10_count : ByteArray := prog_12_method_67_code
def yX10_count : MethodName := ⟨RX10, "count", "(I)I"⟩
def RJ6 : String := "java/lang/Integer"
def TJ6 : u_T := fun k => match k with
  | _ => ("", "", "", false)
def tyJ6 : Nat → FieldType := fun k => match k with
  | _ => .int
theorem nmJ6 : ∀ a, a < 0 → ∀ b, b < 0 → a ≠ b → (TJ6 a).2.1 ≠ (TJ6 b).2.1 := by decide +kernel
theorem tyJ6_ok : ∀ k, k < 0 → parseFieldDescriptor (TJ6 k).2.2.1 = some (tyJ6 k) := by decide +kernel
abbrev cJ6_bitCount_0f7a4 : ByteArray := prog_13_method_49_code
def yJ6_bitCount_0f7a4 : MethodName := ⟨RJ6, "bitCount", "(I)I"⟩
def RJ9 : String := "java/lang/Math"
def TJ9 : u_T := fun k => match k with
  | _ => ("", "", "", false)
def tyJ9 : Nat → FieldType := fun k => match k with
  | _ => .int
theorem nmJ9 : ∀ a, a < 0 → ∀ b, b < 0 → a ≠ b → (TJ9 a).2.1 ≠ (TJ9 b).2.1 := by decide +kernel
theorem tyJ9_ok : ∀ k, k < 0 → parseFieldDescriptor (TJ9 k).2.2.1 = some (tyJ9 k) := by decide +kernel
abbrev cJ9_abs_0f7a4 : ByteArray := prog_14_method_59_code
def yJ9_abs_0f7a4 : MethodName := ⟨RJ9, "abs", "(I)I"⟩
abbrev cJ9_max_7cf53 : ByteArray := prog_14_method_65_code
def yJ9_max_7cf53 : MethodName := ⟨RJ9, "max", "(II)I"⟩
abbrev cJ9_min_7cf53 : ByteArray := prog_14_method_69_code
def yJ9_min_7cf53 : MethodName := ⟨RJ9, "min", "(II)I"⟩
def RJ10 : String := "java/lang/System"
def TJ10 : u_T := fun k => match k with
  | _ => ("", "", "", false)
def tyJ10 : Nat → FieldType := fun k => match k with
  | _ => .int
theorem nmJ10 : ∀ a, a < 0 → ∀ b, b < 0 → a ≠ b → (TJ10 a).2.1 ≠ (TJ10 b).2.1 := by decide +kernel
theorem tyJ10_ok : ∀ k, k < 0 → parseFieldDescriptor (TJ10 k).2.2.1 = some (tyJ10 k) := by decide +kernel
def RL : String := "HarpFencesLaw"
abbrev cL_law : ByteArray := code
def yL_law : MethodName := ⟨RL, "law", "([I)Z"⟩
/-! the tables of the interpreter: own class id, vwCl, methods, pool resolution, layout -/
abbrev zCl : List vw_C := [(RX0, TX0, 5), (RX1, TX1, 2), (RX2, TX2, 7), (RX3, TX3, 3), (RX4, TX4, 12), (RX5, TX5, 3), (RX6, TX6, 6), (RX7, TX7, 7), (RX8, TX8, 7), (RX9, TX9, 11), (RX10, TX10, 32)]
def zRN : Nat → String := fun k => match k with
  | 0 => RX0
  | 1 => RX1
  | 2 => RX2
  | 3 => RX3
  | 4 => RX4
  | 5 => RX5
  | 6 => RX6
  | 7 => RX7
  | 8 => RX8
  | 9 => RX9
  | 10 => RX10
  | 11 => RJ6
  | _ => RL
def zTy : Nat → Nat → FieldType := fun k => match k with
  | 0 => tyX0
  | 1 => tyX1
  | 2 => tyX2
  | 3 => tyX3
  | 4 => tyX4
  | 5 => tyX5
  | 6 => tyX6
  | 7 => tyX7
  | 8 => tyX8
  | 9 => tyX9
  | 10 => tyX10
  | _ => fun _ => .float
abbrev zMe : Type := MethodName × ByteArray × Nat × Option FieldType × Nat × Nat × Nat
def zMT : List zMe := [
  (yX0_init, cX0_init, 2, none, 0, 1, 21),
  (yX0_alike, cX0_alike, 3, (some .int), 0, 3, 65),
  (yX0_fewestTuned, cX0_fewestTuned, 1, (some .int), 0, 3, 65),
  (yX0_fewestEars, cX0_fewestEars, 2, (some .int), 0, 2, 46),
  (yX0_partnerAlikes, cX0_partnerAlikes, 3, none, 0, 2, 43),
  (yX0_areAlike, cX0_areAlike, 3, (some .boolean), 0, 1, 21),
  (yX0_fewestOfEachTwo, cX0_fewestOfEachTwo, 4, (some .int), 0, 1, 23),
  (yX0_hasOneOfEachTwo, cX0_hasOneOfEachTwo, 4, (some .boolean), 0, 0, 0),
  (yX0_mostMilk, cX0_mostMilk, 1, (some .int), 0, 4, 91),
  (yX0_fieldInHerd, cX0_fieldInHerd, 5, (some .int), 0, 4, 91),
  (yX0_bestField, cX0_bestField, 4, (some .int), 0, 1, 23),
  (yX0_measureHerds, cX0_measureHerds, 4, none, 0, 3, 68),
  (yX0_milkWith, cX0_milkWith, 4, (some .int), 0, 0, 0),
  (yX1_init, cX1_init, 3, none, 1, 1, 20),
  (yX1_isString, cX1_isString, 2, (some .boolean), 1, 0, 0),
  (yX1_soundTo, cX1_soundTo, 3, (some .int), 1, 1, 21),
  (yX1_fifthsAt, cX1_fifthsAt, 5, (some .int), 1, 2, 44),
  (yX1_isStringAt, cX1_isStringAt, 3, (some .boolean), 1, 1, 22),
  (yX1_beastsThatSound, cX1_beastsThatSound, 5, (some .int), 1, 2, 43),
  (yX2_init, cX2_init, 2, none, 2, 1, 20),
  (yX2_takes, cX2_takes, 2, (some .boolean), 2, 0, 0),
  (yX2_rowsFrom, cX2_rowsFrom, 5, (some .int), 2, 3, 68),
  (yX2_crossAll, cX2_crossAll, 6, none, 2, 2, 43),
  (yX2_endsOf, cX2_endsOf, 4, (some .int), 2, 3, 68),
  (yX2_endsBehind, cX2_endsBehind, 6, (some .int), 2, 2, 43),
  (yX2_kindsThatCan, cX2_kindsThatCan, 3, (some .int), 2, 4, 91),
  (yX2_fenceToWatch, cX2_fenceToWatch, 5, (some .int), 2, 4, 91),
  (yX2_greatestCrowd, cX2_greatestCrowd, 6, (some .int), 2, 2, 43),
  (yX2_comesTo, cX2_comesTo, 3, (some .boolean), 2, 1, 21),
  (yX3_init, cX3_init, 1, none, 3, 3, 61),
  (yX3_take, cX3_take, 3, none, 3, 3, 69),
  (yX3_give, cX3_give, 3, none, 3, 3, 69),
  (yX4_init, cX4_init, 1, none, 4, 1, 20),
  (yX4_begin, cX4_begin, 1, none, 4, 0, 0),
  (yX4_copyFrom, cX4_copyFrom, 2, none, 4, 1, 26),
  (yX4_isAt, cX4_isAt, 3, (some .boolean), 4, 0, 0),
  (yX4_across, cX4_across, 3, (some .int), 4, 0, 0),
  (yX4_endBits, cX4_endBits, 2, (some .int), 4, 0, 0),
  (yX5_init, cX5_init, 2, none, 5, 2, 40),
  (yX5_note, cX5_note, 2, none, 5, 2, 47),
  (yX5_restore, cX5_restore, 2, none, 5, 2, 47),
  (yX5_copyFrom, cX5_copyFrom, 3, none, 5, 2, 47),
  (yX6_init, cX6_init, 2, none, 6, 1, 20),
  (yX6_fewestHeard, cX6_fewestHeard, 4, (some .int), 6, 4, 92),
  (yX6_fewestCrossings, cX6_fewestCrossings, 4, (some .int), 6, 4, 92),
  (yX6_firstFence, cX6_firstFence, 5, (some .int), 6, 4, 92),
  (yX6_costOf, cX6_costOf, 3, (some .int), 6, 2, 43),
  (yX6_measure, cX6_measure, 8, none, 6, 3, 65),
  (yX6_frostParts, cX6_frostParts, 4, (some .int), 6, 2, 43),
  (yX6_frostUnheard, cX6_frostUnheard, 8, (some .int), 6, 2, 47),
  (yX6_snappedFences, cX6_snappedFences, 4, (some .int), 6, 0, 0),
  (yX6_reaches, cX6_reaches, 7, (some .boolean), 6, 1, 21),
  (yX6_power, cX6_power, 4, (some .int), 6, 0, 0),
  (yX6_commonDivisor, cX6_commonDivisor, 6, (some .int), 6, 0, 0),
  (yX7_init, cX7_init, 1, none, 7, 1, 20),
  (yX7_begin, cX7_begin, 2, none, 7, 1, 26),
  (yX7_copyFrom, cX7_copyFrom, 2, none, 7, 1, 26),
  (yX7_sing, cX7_sing, 2, none, 7, 1, 26),
  (yX8_init, cX8_init, 1, none, 8, 1, 20),
  (yX8_takes, cX8_takes, 2, (some .boolean), 8, 0, 0),
  (yX8_tell, cX8_tell, 4, (some .int), 8, 5, 106),
  (yX8_tellsFields, cX8_tellsFields, 2, (some .boolean), 8, 4, 84),
  (yX8_tellsFence, cX8_tellsFence, 3, (some .boolean), 8, 4, 84),
  (yX8_tellsKind, cX8_tellsKind, 3, (some .boolean), 8, 4, 84),
  (yX8_tellsBeast, cX8_tellsBeast, 3, (some .boolean), 8, 4, 84),
  (yX8_tellsWet, cX8_tellsWet, 2, (some .boolean), 8, 4, 84),
  (yX8_number, cX8_number, 3, (some .boolean), 8, 3, 62),
  (yX8_stops, cX8_stops, 1, (some .boolean), 8, 3, 62),
  (yX8_step, cX8_step, 1, none, 8, 2, 42),
  (yX8_stepLetters, cX8_stepLetters, 1, none, 8, 1, 20),
  (yX8_stepNumber, cX8_stepNumber, 2, none, 8, 1, 21),
  (yX8_isLetter, cX8_isLetter, 1, (some .boolean), 8, 0, 0),
  (yX8_isDigit, cX8_isDigit, 1, (some .boolean), 8, 0, 0),
  (yX9_init, cX9_init, 2, none, 9, 4, 81),
  (yX9_type, cX9_type, 2, (some .int), 9, 1, 21),
  (yX9_clear, cX9_clear, 2, (some .int), 9, 0, 0),
  (yX9_downs, cX9_downs, 2, (some .int), 9, 6, 129),
  (yX9_fence, cX9_fence, 3, (some .int), 9, 1, 21),
  (yX9_kind, cX9_kind, 3, (some .int), 9, 1, 21),
  (yX9_beast, cX9_beast, 3, (some .int), 9, 1, 21),
  (yX9_sound, cX9_sound, 3, (some .int), 9, 2, 43),
  (yX9_goes, cX9_goes, 5, (some .int), 9, 3, 68),
  (yX9_cuts, cX9_cuts, 3, (some .int), 9, 3, 68),
  (yX9_tunes, cX9_tunes, 4, (some .int), 9, 3, 68),
  (yX9_lays, cX9_lays, 3, (some .int), 9, 3, 68),
  (yX9_rains, cX9_rains, 3, (some .int), 9, 3, 68),
  (yX9_undo, cX9_undo, 1, (some .int), 9, 3, 68),
  (yX9_now, cX9_now, 2, (some .int), 9, 4, 87),
  (yX9_song, cX9_song, 2, (some .int), 9, 0, 0),
  (yX9_who, cX9_who, 2, (some .int), 9, 3, 67),
  (yX9_hears, cX9_hears, 2, (some .int), 9, 1, 21),
  (yX9_forget, cX9_forget, 2, (some .int), 9, 0, 0),
  (yX9_ways, cX9_ways, 3, (some .int), 9, 4, 92),
  (yX9_ends, cX9_ends, 2, (some .int), 9, 4, 91),
  (yX9_can, cX9_can, 1, (some .int), 9, 5, 113),
  (yX9_ask, cX9_ask, 1, (some .int), 9, 5, 115),
  (yX9_quiet, cX9_quiet, 5, (some .int), 9, 5, 116),
  (yX9_fifths, cX9_fifths, 2, (some .int), 9, 3, 68),
  (yX9_herd, cX9_herd, 2, (some .int), 9, 5, 115),
  (yX9_frost, cX9_frost, 10, (some .int), 9, 3, 74),
  (yX9_mark, cX9_mark, 3, (some .int), 9, 5, 110),
  (yX9_keep, cX9_keep, 2, (some .int), 9, 4, 91),
  (yX9_back, cX9_back, 2, (some .int), 9, 4, 91),
  (yX9_count, cX9_count, 2, (some .int), 9, 0, 0),
  (yX9_trace, cX9_trace, 1, (some .long), 9, 0, 0),
  (yX9_beginAnew, cX9_beginAnew, 2, none, 9, 2, 47),
  (yX9_isField, cX9_isField, 2, (some .boolean), 9, 0, 0),
  (yX9_isFence, cX9_isFence, 2, (some .boolean), 9, 0, 0),
  (yX9_isKind, cX9_isKind, 2, (some .boolean), 9, 0, 0),
  (yX9_isBeast, cX9_isBeast, 2, (some .boolean), 9, 0, 0),
  (yX9_isImage, cX9_isImage, 1, (some .boolean), 9, 0, 0),
  (yX9_isFlag, cX9_isFlag, 1, (some .boolean), 9, 0, 0),
  (yX9_markString, cX9_markString, 2, (some .int), 9, 0, 0),
  (yX9_markBass, cX9_markBass, 2, (some .int), 9, 1, 21),
  (yX9_markTreble, cX9_markTreble, 2, (some .int), 9, 3, 68),
  (yX9_markBull, cX9_markBull, 2, (some .int), 9, 2, 42),
  (yX9_markLark, cX9_markLark, 2, (some .int), 9, 4, 89),
  (yX9_markPedal, cX9_markPedal, 2, (some .int), 9, 1, 21),
  (yX10_init, cX10_init, 1, none, 10, 1, 20),
  (yX10_in, cX10_in, 3, (some .boolean), 10, 0, 0),
  (yX10_has, cX10_has, 2, (some .boolean), 10, 0, 0),
  (yX10_type, cX10_type, 2, (some .int), 10, 1, 22),
  (yX10_clear, cX10_clear, 2, (some .int), 10, 0, 0),
  (yX10_here, cX10_here, 1, (some .int), 10, 0, 0),
  (yX10_step, cX10_step, 2, none, 10, 1, 22),
  (yX10_due, cX10_due, 2, none, 10, 2, 43),
  (yX10_number, cX10_number, 4, (some .int), 10, 3, 64),
  (yX10_item, cX10_item, 4, none, 10, 4, 87),
  (yX10_may, cX10_may, 3, (some .boolean), 10, 0, 0),
  (yX10_read, cX10_read, 3, none, 10, 5, 110),
  (yX10_downs, cX10_downs, 2, (some .int), 10, 6, 132),
  (yX10_isField, cX10_isField, 2, (some .boolean), 10, 1, 22),
  (yX10_isFence, cX10_isFence, 2, (some .boolean), 10, 1, 22),
  (yX10_isKind, cX10_isKind, 2, (some .boolean), 10, 1, 22),
  (yX10_isBeast, cX10_isBeast, 2, (some .boolean), 10, 1, 22),
  (yX10_soundOf, cX10_soundOf, 4, (some .int), 10, 1, 21),
  (yX10_isAt, cX10_isAt, 3, (some .boolean), 10, 0, 0),
  (yX10_across, cX10_across, 3, (some .int), 10, 0, 0),
  (yX10_isString, cX10_isString, 2, (some .boolean), 10, 1, 21),
  (yX10_bitsOf, cX10_bitsOf, 3, (some .int), 10, 0, 0),
  (yX10_allOf, cX10_allOf, 1, (some .int), 10, 0, 0),
  (yX10_fence, cX10_fence, 3, (some .int), 10, 2, 43),
  (yX10_kind, cX10_kind, 3, (some .int), 10, 2, 43),
  (yX10_beast, cX10_beast, 3, (some .int), 10, 2, 43),
  (yX10_sound, cX10_sound, 3, (some .int), 10, 2, 44),
  (yX10_know, cX10_know, 2, none, 10, 0, 0),
  (yX10_sing, cX10_sing, 3, none, 10, 0, 0),
  (yX10_goes, cX10_goes, 4, (some .int), 10, 2, 44),
  (yX10_cuts, cX10_cuts, 3, (some .int), 10, 2, 43),
  (yX10_tunes, cX10_tunes, 4, (some .int), 10, 2, 43),
  (yX10_lays, cX10_lays, 3, (some .int), 10, 1, 22),
  (yX10_rains, cX10_rains, 2, (some .int), 10, 1, 22),
  (yX10_undo, cX10_undo, 2, (some .int), 10, 0, 0),
  (yX10_areAlike, cX10_areAlike, 4, (some .boolean), 10, 2, 42),
  (yX10_alike, cX10_alike, 4, (some .int), 10, 3, 65),
  (yX10_areApart, cX10_areApart, 5, (some .boolean), 10, 3, 65),
  (yX10_areHeard, cX10_areHeard, 4, (some .boolean), 10, 2, 42),
  (yX10_fewest, cX10_fewest, 6, (some .int), 10, 4, 89),
  (yX10_now, cX10_now, 2, (some .int), 10, 5, 114),
  (yX10_song, cX10_song, 2, (some .int), 10, 1, 22),
  (yX10_who, cX10_who, 6, (some .int), 10, 2, 44),
  (yX10_hears, cX10_hears, 2, (some .int), 10, 1, 22),
  (yX10_forget, cX10_forget, 2, (some .int), 10, 0, 0),
  (yX10_ways, cX10_ways, 5, (some .int), 10, 2, 44),
  (yX10_endsOf, cX10_endsOf, 6, (some .int), 10, 2, 44),
  (yX10_ends, cX10_ends, 2, (some .int), 10, 3, 69),
  (yX10_can, cX10_can, 3, (some .int), 10, 3, 69),
  (yX10_comesTo, cX10_comesTo, 4, (some .boolean), 10, 3, 69),
  (yX10_ask, cX10_ask, 8, (some .int), 10, 4, 92),
  (yX10_costOf, cX10_costOf, 3, (some .int), 10, 2, 44),
  (yX10_measure, cX10_measure, 7, none, 10, 3, 66),
  (yX10_quiet, cX10_quiet, 8, (some .int), 10, 4, 92),
  (yX10_fifthsOf, cX10_fifthsOf, 7, (some .int), 10, 2, 42),
  (yX10_fifths, cX10_fifths, 2, (some .int), 10, 3, 68),
  (yX10_milkBy, cX10_milkBy, 5, (some .int), 10, 3, 68),
  (yX10_herd, cX10_herd, 7, (some .int), 10, 4, 92),
  (yX10_isUnheard, cX10_isUnheard, 10, (some .boolean), 10, 2, 44),
  (yX10_frost, cX10_frost, 13, (some .int), 10, 3, 73),
  (yX10_bodiesOf, cX10_bodiesOf, 1, (some .int), 10, 0, 0),
  (yX10_mark, cX10_mark, 7, (some .int), 10, 3, 68),
  (yX10_trace, cX10_trace, 1, (some .long), 10, 0, 0),
  (yX10_keep, cX10_keep, 3, (some .int), 10, 1, 22),
  (yX10_back, cX10_back, 3, (some .int), 10, 1, 22),
  (yX10_count, cX10_count, 2, (some .int), 10, 0, 0),
  (yJ6_bitCount_0f7a4, cJ6_bitCount_0f7a4, 1, (some .int), 11, 0, 0),
  (yL_law, cL_law, 4, (some .boolean), 12, 9, 310)]
def zM (k : Nat) : Option zMe := zMT[k]?
def zMP : List (Nat × Nat × Nat × Nat × Nat) := [(346, 345, 9999, 9999, 75), (616, 614, 9999, 615, 75), (634, 632, 9999, 633, 75), (646, 644, 9999, 645, 75), (620, 619, 9999, 14, 75), (624, 623, 9999, 15, 75), (638, 637, 9999, 16, 75), (642, 641, 9999, 17, 75), (781, 779, 9999, 780, 75), (794, 792, 9999, 793, 75), (798, 797, 9999, 28, 75), (785, 784, 9999, 26, 75), (790, 789, 9999, 27, 75), (252, 251, 9999, 9999, 71), (547, 545, 9999, 546, 71), (543, 541, 9999, 542, 71), (766, 764, 9999, 765, 71), (770, 769, 9999, 25, 71), (658, 656, 9999, 657, 71), (292, 291, 9999, 9999, 73), (668, 666, 9999, 667, 73), (684, 682, 9999, 683, 73), (688, 687, 9999, 19, 73), (698, 696, 9999, 697, 73), (702, 701, 9999, 20, 73), (710, 708, 9999, 709, 73), (719, 717, 9999, 718, 73), (723, 722, 9999, 21, 73), (727, 726, 9999, 22, 73), (370, 369, 9999, 9999, 77), (871, 869, 9999, 870, 77), (884, 882, 9999, 883, 77), (123, 122, 9999, 9999, 69), (390, 388, 9999, 389, 69), (509, 507, 9999, 508, 69), (556, 554, 9999, 555, 69), (569, 567, 9999, 568, 69), (629, 627, 9999, 628, 69), (270, 269, 9999, 9999, 72), (560, 558, 9999, 559, 72), (607, 605, 9999, 606, 72), (876, 874, 9999, 875, 72), (321, 320, 9999, 9999, 74), (737, 735, 9999, 736, 74), (752, 750, 9999, 751, 74), (756, 754, 9999, 755, 74), (746, 745, 9999, 24, 74), (741, 740, 9999, 23, 74), (806, 804, 9999, 805, 74), (813, 811, 9999, 812, 74), (818, 817, 9999, 29, 74), (822, 821, 9999, 30, 74), (809, 9999, 808, 9999, 74), (826, 9999, 825, 9999, 74), (210, 209, 9999, 9999, 70), (398, 396, 9999, 397, 70), (564, 562, 9999, 563, 70), (573, 571, 9999, 572, 70), (93, 92, 9999, 9999, 68), (443, 441, 9999, 442, 68), (455, 453, 9999, 454, 68), (481, 480, 9999, 4, 68), (489, 488, 9999, 6, 68), (493, 492, 9999, 7, 68), (497, 496, 9999, 8, 68), (501, 500, 9999, 9, 68), (485, 484, 9999, 5, 68), (505, 504, 9999, 10, 68), (460, 459, 9999, 1, 68), (467, 466, 9999, 2, 68), (474, 473, 9999, 3, 68), (463, 9999, 462, 9999, 68), (470, 9999, 469, 9999, 68), (85, 84, 9999, 9999, 67), (439, 437, 9999, 438, 67), (447, 445, 9999, 446, 67), (451, 449, 9999, 450, 67), (514, 512, 9999, 513, 67), (522, 520, 9999, 521, 67), (531, 529, 9999, 530, 67), (539, 537, 9999, 538, 67), (552, 550, 9999, 551, 67), (578, 576, 9999, 577, 67), (591, 589, 9999, 590, 67), (595, 593, 9999, 594, 67), (599, 597, 9999, 598, 67), (603, 601, 9999, 602, 67), (612, 610, 9999, 611, 67), (650, 648, 9999, 649, 67), (654, 652, 9999, 653, 67), (664, 662, 9999, 663, 67), (672, 670, 9999, 671, 67), (676, 674, 9999, 675, 67), (694, 692, 9999, 693, 67), (706, 704, 9999, 705, 67), (715, 713, 9999, 714, 67), (733, 731, 9999, 732, 67), (762, 760, 9999, 761, 67), (777, 775, 9999, 776, 67), (802, 800, 9999, 801, 67), (831, 829, 9999, 830, 67), (864, 862, 9999, 863, 67), (880, 878, 9999, 879, 67), (888, 886, 9999, 887, 67), (892, 890, 9999, 891, 67), (394, 393, 9999, 0, 67), (680, 679, 9999, 18, 67), (518, 517, 9999, 11, 67), (526, 525, 9999, 12, 67), (535, 534, 9999, 13, 67), (867, 9999, 866, 9999, 67), (581, 9999, 580, 9999, 67), (835, 834, 9999, 31, 67), (839, 838, 9999, 32, 67), (844, 843, 9999, 33, 67), (849, 848, 9999, 34, 67), (854, 853, 9999, 35, 67), (859, 858, 9999, 36, 67), (897, 896, 9999, 9999, 79), (1004, 9999, 1003, 9999, 79), (1051, 9999, 1050, 9999, 79), (1001, 999, 9999, 1000, 79), (1008, 1006, 9999, 1007, 79), (1024, 1023, 9999, 39, 79), (1020, 1019, 9999, 38, 79), (1032, 1031, 9999, 41, 79), (1040, 1039, 9999, 43, 79), (1036, 1035, 9999, 42, 79), (1028, 1027, 9999, 40, 79), (1016, 1015, 9999, 37, 79), (1012, 1010, 9999, 1011, 79), (1174, 1173, 9999, 58, 79), (1048, 1047, 9999, 44, 79), (1059, 1058, 9999, 45, 79), (1068, 1067, 9999, 46, 79), (1076, 1075, 9999, 47, 79), (1084, 1083, 9999, 48, 79), (1092, 1091, 9999, 50, 79), (1138, 1137, 9999, 54, 79), (1103, 9999, 1102, 9999, 79), (1114, 9999, 1113, 9999, 79), (1044, 1042, 9999, 1043, 79), (1055, 1053, 9999, 1054, 79), (1064, 1062, 9999, 1063, 79), (1072, 1070, 9999, 1071, 79), (1088, 1087, 9999, 49, 79), (1096, 1095, 9999, 51, 79), (1080, 1078, 9999, 1079, 79), (1100, 1098, 9999, 1099, 79), (1107, 1105, 9999, 1106, 79), (1111, 1109, 9999, 1110, 79), (1118, 1116, 9999, 1117, 79), (1122, 1120, 9999, 1121, 79), (1134, 1133, 9999, 53, 79), (1130, 1129, 9999, 52, 79), (1146, 1145, 9999, 56, 79), (1150, 1149, 9999, 57, 79), (1142, 1141, 9999, 55, 79), (1126, 1124, 9999, 1125, 79), (1154, 1152, 9999, 1153, 79), (1158, 1156, 9999, 1157, 79), (1162, 1160, 9999, 1161, 79), (1166, 1164, 9999, 1165, 79), (1170, 1168, 9999, 1169, 79), (1183, 1182, 9999, 59, 79), (1179, 1177, 9999, 1178, 79), (1187, 1185, 9999, 1186, 79), (1195, 1194, 9999, 60, 79), (1191, 1189, 9999, 1190, 79), (1208, 1207, 9999, 62, 79), (1203, 1202, 9999, 61, 79), (1199, 1197, 9999, 1198, 79), (1216, 1215, 9999, 63, 79), (1212, 1210, 9999, 1211, 79), (1224, 1223, 9999, 64, 79), (1220, 1218, 9999, 1219, 79), (1232, 1231, 9999, 65, 79), (1228, 1226, 9999, 1227, 79), (1239, 9999, 1238, 9999, 79), (1236, 1234, 9999, 1235, 79), (1244, 1242, 9999, 1243, 79), (1248, 1246, 9999, 1247, 79), (1252, 1250, 9999, 1251, 79), (1256, 1254, 9999, 1255, 79), (584, 9999, 583, 9999, 80), (9999, 9999, 9999, 9999, 66)]
def zFL : List (Nat × Nat × Nat × Nat × Nat) := [(0, 15, 0, 2, 353), (0, 21, 0, 3, 354), (0, 24, 0, 4, 355), (0, 27, 0, 0, 351), (0, 31, 1, 0, 256), (0, 37, 0, 1, 352), (0, 41, 4, 1, 132), (0, 56, 4, 0, 127), (0, 63, 4, 2, 140), (0, 66, 4, 3, 146), (0, 73, 1, 1, 259), (0, 77, 7, 1, 218), (0, 101, 4, 8, 168), (0, 104, 4, 7, 164), (0, 107, 4, 9, 174), (1, 9, 1, 0, 254), (1, 15, 1, 1, 258), (1, 19, 7, 1, 216), (1, 25, 7, 4, 224), (1, 33, 7, 5, 228), (1, 36, 4, 6, 158), (1, 41, 7, 6, 231), (1, 50, 4, 1, 134), (1, 64, 4, 8, 167), (1, 67, 7, 0, 213), (1, 70, 4, 9, 171), (2, 9, 2, 2, 296), (2, 15, 2, 3, 297), (2, 18, 2, 4, 298), (2, 21, 2, 5, 299), (2, 24, 2, 0, 294), (2, 28, 1, 0, 257), (2, 34, 2, 1, 295), (2, 35, 2, 6, 300), (2, 39, 4, 0, 126), (2, 49, 4, 1, 135), (2, 56, 4, 2, 139), (2, 59, 4, 3, 145), (2, 66, 4, 5, 155), (3, 10, 3, 0, 376), (3, 19, 3, 1, 377), (3, 30, 3, 2, 378), (4, 9, 4, 2, 138), (4, 15, 4, 3, 144), (4, 18, 4, 4, 150), (4, 21, 4, 6, 157), (4, 24, 4, 7, 161), (4, 27, 4, 9, 170), (4, 30, 4, 10, 175), (4, 33, 4, 0, 125), (4, 37, 4, 1, 131), (4, 40, 4, 5, 153), (4, 43, 4, 8, 165), (4, 46, 4, 11, 178), (5, 11, 5, 0, 275), (5, 18, 5, 1, 276), (5, 26, 5, 2, 277), (6, 9, 6, 2, 325), (6, 15, 6, 3, 326), (6, 18, 6, 0, 323), (6, 22, 1, 0, 255), (6, 28, 6, 1, 324), (6, 34, 4, 1, 136), (6, 54, 4, 0, 129), (6, 57, 4, 2, 143), (6, 60, 4, 3, 149), (6, 68, 6, 5, 328), (6, 71, 6, 4, 327), (6, 74, 1, 1, 260), (6, 78, 7, 1, 219), (7, 9, 7, 0, 212), (7, 15, 7, 1, 215), (7, 18, 7, 2, 220), (7, 21, 4, 10, 176), (7, 30, 4, 4, 151), (7, 31, 7, 3, 222), (7, 35, 7, 4, 225), (7, 38, 7, 5, 227), (7, 41, 4, 11, 179), (7, 44, 7, 6, 230), (8, 9, 8, 0, 95), (8, 15, 8, 1, 96), (8, 24, 8, 2, 98), (8, 27, 8, 6, 102), (8, 34, 8, 3, 99), (8, 37, 8, 5, 101), (8, 44, 4, 1, 133), (8, 50, 4, 5, 154), (8, 56, 4, 8, 166), (8, 69, 8, 4, 100), (8, 76, 4, 0, 128), (8, 79, 4, 2, 141), (8, 82, 4, 3, 148), (8, 85, 4, 4, 152), (8, 88, 4, 6, 159), (8, 91, 4, 7, 162), (8, 94, 4, 9, 172), (8, 97, 4, 10, 177), (8, 100, 4, 11, 180), (9, 10, 9, 0, 402), (9, 19, 9, 1, 403), (9, 23, 9, 2, 404), (9, 29, 9, 3, 405), (9, 38, 9, 4, 406), (9, 45, 9, 5, 407), (9, 51, 9, 6, 408), (9, 60, 9, 7, 409), (9, 67, 9, 8, 410), (9, 74, 9, 9, 411), (9, 89, 8, 1, 97), (9, 104, 4, 2, 142), (9, 108, 4, 3, 147), (9, 111, 7, 1, 217), (9, 114, 7, 4, 226), (9, 117, 7, 5, 229), (9, 124, 4, 6, 160), (9, 127, 4, 7, 163), (9, 133, 4, 9, 173), (9, 136, 7, 0, 214), (9, 167, 4, 1, 137), (9, 170, 7, 6, 232), (9, 173, 5, 2, 278), (9, 179, 7, 3, 223), (9, 192, 7, 2, 221), (9, 199, 2, 6, 301), (9, 230, 4, 8, 169), (9, 233, 4, 0, 130), (9, 281, 3, 2, 379), (9, 288, 4, 5, 156), (9, 291, 9, 10, 412), (10, 7, 10, 0, 899), (10, 13, 10, 2, 901), (10, 17, 10, 3, 902), (10, 20, 10, 4, 903), (10, 23, 10, 5, 904), (10, 26, 10, 6, 905), (10, 29, 10, 7, 906), (10, 32, 10, 8, 907), (10, 35, 10, 9, 908), (10, 38, 10, 10, 909), (10, 41, 10, 11, 910), (10, 44, 10, 12, 911), (10, 47, 10, 13, 912), (10, 50, 10, 20, 919), (10, 53, 10, 21, 920), (10, 56, 10, 22, 921), (10, 59, 10, 23, 922), (10, 62, 10, 24, 923), (10, 66, 10, 25, 924), (10, 69, 10, 27, 926), (10, 72, 10, 28, 927), (10, 75, 10, 29, 928), (10, 78, 10, 30, 929), (10, 85, 10, 1, 900), (10, 89, 10, 14, 913), (10, 96, 10, 15, 914), (10, 99, 10, 17, 916), (10, 102, 10, 16, 915), (10, 105, 10, 18, 917), (10, 120, 10, 19, 918), (10, 134, 10, 26, 925), (10, 224, 10, 31, 930)]
def zML : List (Nat × Nat × Nat × Nat × Nat × Nat) := [(0, 3, 0, 4, 0, 347), (0, 9, 0, 5, 2, 348), (0, 38, 4, 0, 0, 617), (0, 47, 184, 1, 1, 630), (0, 53, 6, 0, 1, 635), (0, 59, 14, 0, 1, 625), (0, 69, 5, 0, 2, 621), (0, 82, 37, 0, 1, 626), (0, 85, 7, 0, 2, 639), (0, 88, 11, 0, 0, 782), (0, 91, 10, 0, 2, 795), (0, 94, 12, 0, 3, 787), (0, 98, 16, 0, 1, 786), (1, 3, 0, 4, 0, 253), (1, 29, 14, 0, 1, 544), (1, 44, 0, 5, 2, 548), (1, 53, 17, 0, 2, 767), (1, 57, 0, 7, 1, 771), (1, 61, 35, 0, 2, 659), (1, 73, 15, 0, 2, 660), (2, 3, 0, 4, 0, 293), (2, 44, 22, 0, 2, 685), (2, 52, 15, 0, 2, 689), (2, 62, 24, 0, 3, 699), (2, 69, 23, 0, 1, 711), (2, 73, 27, 0, 1, 720), (2, 76, 28, 0, 2, 724), (2, 80, 0, 5, 2, 729), (2, 85, 37, 0, 1, 728), (3, 1, 0, 4, 0, 371), (3, 9, 54, 3, 0, 373), (3, 18, 38, 2, 0, 375), (3, 23, 56, 0, 1, 872), (3, 27, 41, 0, 1, 873), (4, 3, 0, 4, 0, 124), (4, 49, 0, 8, 5, 510), (5, 3, 0, 4, 0, 271), (5, 17, 54, 3, 0, 274), (5, 22, 56, 0, 1, 561), (5, 29, 0, 6, 2, 565), (5, 35, 0, 5, 2, 608), (6, 3, 0, 4, 0, 322), (6, 29, 47, 0, 2, 738), (6, 40, 35, 0, 2, 757), (6, 44, 36, 0, 2, 758), (6, 48, 46, 0, 2, 743), (6, 51, 15, 0, 2, 747), (6, 63, 0, 6, 2, 748), (6, 83, 52, 1, 2, 807), (6, 86, 184, 1, 1, 814), (6, 92, 50, 0, 1, 815), (6, 95, 51, 0, 3, 819), (6, 99, 37, 0, 1, 823), (7, 3, 0, 4, 0, 211), (7, 24, 0, 8, 5, 399), (7, 45, 0, 6, 2, 574), (8, 3, 0, 4, 0, 94), (8, 19, 33, 0, 0, 456), (8, 31, 68, 0, 0, 457), (8, 40, 61, 0, 1, 478), (8, 47, 62, 0, 1, 486), (8, 53, 63, 0, 1, 490), (8, 59, 64, 0, 1, 494), (8, 62, 65, 0, 1, 498), (8, 65, 67, 0, 0, 502), (8, 72, 66, 0, 2, 482), (8, 103, 71, 1, 1, 461), (8, 107, 69, 0, 0, 464), (8, 110, 72, 1, 1, 468), (8, 113, 70, 0, 0, 471), (8, 116, 0, 6, 2, 475), (9, 1, 0, 4, 0, 86), (9, 9, 58, 3, 0, 91), (9, 18, 32, 3, 0, 121), (9, 28, 54, 3, 0, 208), (9, 35, 13, 2, 2, 250), (9, 44, 38, 2, 0, 268), (9, 57, 19, 2, 1, 290), (9, 66, 42, 2, 1, 319), (9, 73, 0, 2, 1, 344), (9, 78, 29, 3, 0, 368), (9, 79, 33, 0, 0, 387), (9, 82, 105, 0, 0, 391), (9, 85, 59, 0, 1, 440), (9, 93, 60, 0, 1, 452), (9, 97, 34, 0, 1, 506), (9, 101, 107, 0, 1, 515), (9, 120, 108, 0, 1, 523), (9, 130, 109, 0, 1, 532), (9, 139, 15, 0, 2, 540), (9, 143, 35, 0, 2, 553), (9, 147, 39, 0, 1, 557), (9, 151, 36, 0, 2, 566), (9, 154, 57, 0, 1, 570), (9, 158, 111, 1, 1, 579), (9, 161, 184, 1, 1, 582), (9, 176, 40, 0, 1, 604), (9, 182, 1, 0, 0, 613), (9, 186, 2, 0, 0, 631), (9, 189, 3, 0, 0, 643), (9, 195, 18, 0, 1, 655), (9, 198, 20, 0, 1, 665), (9, 202, 106, 0, 1, 677), (9, 205, 21, 0, 2, 681), (9, 208, 23, 0, 1, 695), (9, 211, 25, 0, 0, 707), (9, 214, 26, 0, 0, 716), (9, 217, 43, 0, 3, 734), (9, 221, 44, 0, 3, 749), (9, 224, 45, 0, 3, 753), (9, 227, 16, 0, 1, 763), (9, 236, 8, 0, 0, 778), (9, 239, 9, 0, 1, 791), (9, 242, 48, 0, 2, 803), (9, 245, 49, 0, 3, 810), (9, 248, 53, 1, 2, 824), (9, 251, 0, 5, 2, 827), (9, 256, 112, 0, 1, 832), (9, 259, 113, 0, 1, 836), (9, 262, 114, 0, 1, 841), (9, 265, 115, 0, 1, 846), (9, 268, 116, 0, 1, 851), (9, 271, 117, 0, 1, 856), (9, 274, 110, 1, 1, 865), (9, 277, 30, 0, 2, 868), (9, 285, 31, 0, 2, 881), (9, 295, 55, 0, 1, 395), (10, 1, 0, 4, 0, 898), (10, 81, 119, 1, 3, 1002), (10, 92, 123, 0, 0, 1021), (10, 109, 124, 0, 0, 1017), (10, 112, 125, 0, 1, 1029), (10, 116, 126, 0, 2, 1037), (10, 123, 128, 0, 2, 1025), (10, 127, 127, 0, 1, 1033), (10, 131, 129, 0, 0, 1013), (10, 137, 120, 1, 2, 1049), (10, 141, 132, 0, 1, 1045), (10, 145, 133, 0, 1, 1056), (10, 149, 134, 0, 1, 1065), (10, 152, 135, 0, 2, 1073), (10, 155, 136, 0, 2, 1081), (10, 158, 145, 0, 0, 1085), (10, 161, 137, 0, 2, 1089), (10, 164, 146, 0, 1, 1093), (10, 167, 139, 1, 1, 1101), (10, 171, 140, 1, 1, 1112), (10, 174, 138, 0, 1, 1135), (10, 177, 153, 0, 2, 1131), (10, 180, 155, 0, 1, 1143), (10, 183, 156, 0, 1, 1147), (10, 186, 154, 0, 0, 1127), (10, 189, 157, 0, 1, 1139), (10, 192, 131, 0, 1, 1171), (10, 196, 164, 0, 1, 1180), (10, 199, 167, 0, 2, 1192), (10, 203, 169, 0, 2, 1205), (10, 206, 170, 0, 2, 1200), (10, 210, 172, 0, 1, 1213), (10, 213, 174, 0, 3, 1221), (10, 217, 176, 0, 4, 1229), (10, 221, 178, 1, 1, 1237), (12, 9, 73, 2, 0, 83), (12, 12, 118, 2, 0, 895), (12, 13, 74, 0, 1, 436), (12, 17, 121, 0, 1, 998), (12, 18, 75, 0, 0, 444), (12, 22, 122, 0, 0, 1005), (12, 23, 76, 0, 0, 448), (12, 26, 130, 0, 0, 1009), (12, 27, 77, 0, 2, 511), (12, 31, 141, 0, 2, 1041), (12, 32, 78, 0, 2, 519), (12, 35, 142, 0, 2, 1052), (12, 36, 79, 0, 2, 528), (12, 39, 143, 0, 2, 1061), (12, 40, 80, 0, 2, 536), (12, 43, 144, 0, 2, 1069), (12, 44, 81, 0, 2, 549), (12, 47, 147, 0, 2, 1077), (12, 48, 82, 0, 2, 575), (12, 51, 148, 0, 2, 1097), (12, 52, 83, 0, 2, 588), (12, 55, 149, 0, 2, 1104), (12, 56, 84, 0, 1, 592), (12, 59, 150, 0, 1, 1108), (12, 60, 85, 0, 1, 596), (12, 63, 151, 0, 1, 1115), (12, 64, 86, 0, 0, 600), (12, 67, 152, 0, 0, 1119), (12, 68, 87, 0, 1, 609), (12, 71, 158, 0, 1, 1123), (12, 72, 88, 0, 1, 647), (12, 75, 159, 0, 1, 1151), (12, 76, 89, 0, 1, 651), (12, 79, 160, 0, 1, 1155), (12, 80, 90, 0, 1, 661), (12, 83, 161, 0, 1, 1159), (12, 84, 91, 0, 0, 669), (12, 87, 162, 0, 0, 1163), (12, 88, 92, 0, 2, 673), (12, 91, 163, 0, 2, 1167), (12, 92, 93, 0, 1, 691), (12, 95, 165, 0, 1, 1176), (12, 96, 94, 0, 0, 703), (12, 99, 166, 0, 0, 1184), (12, 100, 95, 0, 0, 712), (12, 103, 168, 0, 0, 1188), (12, 104, 96, 0, 4, 730), (12, 108, 171, 0, 4, 1196), (12, 109, 97, 0, 1, 759), (12, 112, 173, 0, 1, 1209), (12, 113, 98, 0, 1, 774), (12, 116, 175, 0, 1, 1217), (12, 117, 99, 0, 6, 799), (12, 121, 177, 0, 6, 1225), (12, 122, 100, 0, 2, 828), (12, 125, 179, 0, 2, 1233), (12, 126, 101, 0, 1, 861), (12, 129, 181, 0, 1, 1245), (12, 130, 102, 0, 1, 877), (12, 133, 182, 0, 1, 1249), (12, 134, 103, 0, 1, 885), (12, 137, 183, 0, 1, 1253), (12, 138, 104, 0, 0, 889), (12, 142, 180, 0, 0, 1241)]
def zCL : List (Nat × Nat × Nat × Nat) := [(3, 7, 7, 372), (3, 16, 5, 374), (5, 9, 7, 272), (9, 7, 8, 89), (9, 16, 4, 119), (9, 26, 7, 206), (9, 33, 1, 248), (9, 42, 5, 266), (9, 49, 3, 286), (9, 55, 2, 288), (9, 64, 6, 317), (9, 71, 0, 342), (12, 7, 9, 81), (12, 10, 10, 893)]
def zIL : List (Nat × Nat × Int32 × Nat) := [(2, 48, 1000003, 690), (6, 33, 1000000, 742), (9, 123, -1000000, 527), (10, 148, -1000000, 1060), (10, 195, 1000003, 1175), (10, 202, 1000000, 1204), (11, 265, 1431655765, 585), (11, 266, 858993459, 586), (11, 267, 252645135, 587)]
def zLL : List (Nat × Nat × Int64 × Nat) := [(9, 297, 10, 840), (9, 299, 100, 845), (9, 301, 1000, 850), (9, 303, 10000, 855), (9, 305, 100000, 860), (10, 228, 10, 1240)]
def zF (o i : Nat) : Option (Nat × Nat) := (zFL.find? (fun e => e.1 == o && e.2.1 == i)).map (fun e => (e.2.2.1, e.2.2.2.1))
/-- of a method reference: the method, the kind of call, how many arguments -/
def zMr (o i : Nat) : Option (Nat × Nat × Nat) := (zML.find? (fun e => e.1 == o && e.2.1 == i)).map (fun e => (e.2.2.1, e.2.2.2.1, e.2.2.2.2.1))
def zC (o i : Nat) : Option Nat := (zCL.find? (fun e => e.1 == o && e.2.1 == i)).map (fun e => e.2.2.1)
def zI (o i : Nat) : Option Int32 := (zIL.find? (fun e => e.1 == o && e.2.1 == i)).map (fun e => e.2.2.1)
def zL (o i : Nat) : Option Int64 := (zLL.find? (fun e => e.1 == o && e.2.1 == i)).map (fun e => e.2.2.1)
/-- the plan of the cells: kind and length -/
def zKL : List (Nat × Nat) := [(9, 11), (8, 7), (100, 150), (4, 12), (100, 8), (100, 8), (100, 8), (100, 4), (100, 4), (100, 6), (100, 6), (4, 12), (100, 8), (100, 8), (100, 8), (100, 4), (100, 4), (100, 6), (100, 6), (7, 7), (100, 6), (100, 8), (100, 12), (1, 2), (5, 3), (103, 10), (7, 7), (100, 6), (100, 8), (100, 12), (7, 7), (100, 6), (100, 8), (100, 12), (7, 7), (100, 6), (100, 8), (100, 12), (7, 7), (100, 6), (100, 8), (100, 12), (7, 7), (100, 6), (100, 8), (100, 12), (7, 7), (100, 6), (100, 8), (100, 12), (7, 7), (100, 6), (100, 8), (100, 12), (7, 7), (100, 6), (100, 8), (100, 12), (7, 7), (100, 6), (100, 8), (100, 12), (7, 7), (100, 6), (100, 8), (100, 12), (104, 2), (2, 7), (100, 6), (100, 4), (100, 8), (100, 8), (6, 6), (100, 8), (100, 8), (0, 5), (100, 8), (100, 8), (100, 256), (3, 3), (7, 7), (100, 6), (100, 8), (100, 12), (5, 3), (103, 10), (7, 7), (100, 6), (100, 8), (100, 12), (7, 7), (100, 6), (100, 8), (100, 12), (7, 7), (100, 6), (100, 8), (100, 12), (7, 7), (100, 6), (100, 8), (100, 12), (7, 7), (100, 6), (100, 8), (100, 12), (7, 7), (100, 6), (100, 8), (100, 12), (7, 7), (100, 6), (100, 8), (100, 12), (7, 7), (100, 6), (100, 8), (100, 12), (7, 7), (100, 6), (100, 8), (100, 12), (7, 7), (100, 6), (100, 8), (100, 12), (3, 3), (7, 7), (100, 6), (100, 8), (100, 12), (5, 3), (103, 10), (7, 7), (100, 6), (100, 8), (100, 12), (7, 7), (100, 6), (100, 8), (100, 12), (7, 7), (100, 6), (100, 8), (100, 12), (7, 7), (100, 6), (100, 8), (100, 12), (7, 7), (100, 6), (100, 8), (100, 12), (7, 7), (100, 6), (100, 8), (100, 12), (7, 7), (100, 6), (100, 8), (100, 12), (7, 7), (100, 6), (100, 8), (100, 12), (7, 7), (100, 6), (100, 8), (100, 12), (7, 7), (100, 6), (100, 8), (100, 12), (10, 32), (101, 150), (100, 2), (100, 2), (100, 16), (100, 16), (100, 16), (100, 2), (100, 8), (100, 8), (100, 2), (100, 12), (100, 12), (100, 2), (100, 30), (100, 3), (100, 900), (100, 60), (102, 2), (100, 6), (100, 8), (100, 8), (100, 8), (100, 1792)]
def zK (a : Nat) : Nat × Nat := zKL.getD a (999, 0)
abbrev zNN : Nat := 197
