/-! names, fields of the classes: as the program printed them -/
def RX0 : String := "StampRaids$Bodies"
def TX0 : u_T := fun k => match k with
  | _ => ("StampRaids$Bodies", "left", "I", false)
def tyX0 : Nat → FieldType := fun k => match k with
  | _ => .int
abbrev wsX00 : List Cond := u_ws RX0 TX0 1
theorem nmX0 : ∀ a, a < 1 → ∀ b, b < 1 → a ≠ b → (TX0 a).2.1 ≠ (TX0 b).2.1 := by decide +kernel
theorem tyX0_ok : ∀ k, k < 1 → parseFieldDescriptor (TX0 k).2.2.1 = some (tyX0 k) := by decide +kernel
abbrev cX0_init : ByteArray := prog_2_method_1_code
def yX0_init : MethodName := ⟨RX0, "<init>", "()V"⟩
def RX1 : String := "StampRaids$Night"
def TX1 : u_T := fun k => match k with
  | 0 => ("StampRaids$Night", "after", "LStampRaids$War;", true)
  | 1 => ("StampRaids$Night", "firstWrong", "I", false)
  | 2 => ("StampRaids$Night", "changes", "I", false)
  | _ => ("StampRaids$Night", "leads", "I", false)
def tyX1 : Nat → FieldType := fun k => match k with
  | 0 => .object "StampRaids$War"
  | 1 => .int
  | 2 => .int
  | _ => .int
abbrev wsX10 : List Cond := u_ws RX1 TX1 4
theorem nmX1 : ∀ a, a < 4 → ∀ b, b < 4 → a ≠ b → (TX1 a).2.1 ≠ (TX1 b).2.1 := by decide +kernel
theorem tyX1_ok : ∀ k, k < 4 → parseFieldDescriptor (TX1 k).2.2.1 = some (tyX1 k) := by decide +kernel
abbrev cX1_init : ByteArray := prog_3_method_1_code
def yX1_init : MethodName := ⟨RX1, "<init>", "()V"⟩
def RX2 : String := "StampRaids$Person"
def TX2 : u_T := fun k => match k with
  | 0 => ("StampRaids$Person", "kind", "I", false)
  | 1 => ("StampRaids$Person", "office", "I", false)
  | 2 => ("StampRaids$Person", "mark", "I", false)
  | _ => ("StampRaids$Person", "neck", "I", false)
def tyX2 : Nat → FieldType := fun k => match k with
  | 0 => .int
  | 1 => .int
  | 2 => .int
  | _ => .int
abbrev wsX20 : List Cond := u_ws RX2 TX2 4
theorem nmX2 : ∀ a, a < 4 → ∀ b, b < 4 → a ≠ b → (TX2 a).2.1 ≠ (TX2 b).2.1 := by decide +kernel
theorem tyX2_ok : ∀ k, k < 4 → parseFieldDescriptor (TX2 k).2.2.1 = some (tyX2 k) := by decide +kernel
abbrev cX2_init : ByteArray := prog_4_method_1_code
def yX2_init : MethodName := ⟨RX2, "<init>", "()V"⟩
abbrev cX2_becomes : ByteArray := prog_4_method_2_code
def yX2_becomes : MethodName := ⟨RX2, "becomes", "(LStampRaids$Person;)V"⟩
abbrev cX2_takes : ByteArray := prog_4_method_3_code
def yX2_takes : MethodName := ⟨RX2, "takes", "()I"⟩
abbrev cX2_isAtWork : ByteArray := prog_4_method_4_code
def yX2_isAtWork : MethodName := ⟨RX2, "isAtWork", "()Z"⟩
def RX3 : String := "StampRaids$Readings"
def TX3 : u_T := fun k => match k with
  | 0 => ("StampRaids$Readings", "people", "[I", true)
  | 1 => ("StampRaids$Readings", "takes", "[I", true)
  | 2 => ("StampRaids$Readings", "instead", "LStampRaids$Person;", true)
  | _ => ("StampRaids$Readings", "count", "I", false)
def tyX3 : Nat → FieldType := fun k => match k with
  | 0 => .array .int
  | 1 => .array .int
  | 2 => .object "StampRaids$Person"
  | _ => .int
abbrev wsX30 : List Cond := u_ws RX3 TX3 4
theorem nmX3 : ∀ a, a < 4 → ∀ b, b < 4 → a ≠ b → (TX3 a).2.1 ≠ (TX3 b).2.1 := by decide +kernel
theorem tyX3_ok : ∀ k, k < 4 → parseFieldDescriptor (TX3 k).2.2.1 = some (tyX3 k) := by decide +kernel
abbrev cX3_init : ByteArray := prog_5_method_1_code
def yX3_init : MethodName := ⟨RX3, "<init>", "()V"⟩
abbrev cX3_clear : ByteArray := prog_5_method_2_code
def yX3_clear : MethodName := ⟨RX3, "clear", "()V"⟩
abbrev cX3_add : ByteArray := prog_5_method_3_code
def yX3_add : MethodName := ⟨RX3, "add", "(II)I"⟩
abbrev cX3_necksOf : ByteArray := prog_5_method_4_code
def yX3_necksOf : MethodName := ⟨RX3, "necksOf", "(LStampRaids$War;ILStampRaids$Person;)I"⟩
abbrev cX3_kindsOf : ByteArray := prog_5_method_5_code
def yX3_kindsOf : MethodName := ⟨RX3, "kindsOf", "(LStampRaids$War;ILStampRaids$Person;)I"⟩
abbrev cX3_areSoWithout : ByteArray := prog_5_method_6_code
def yX3_areSoWithout : MethodName := ⟨RX3, "areSoWithout", "(LStampRaids$War;I)Z"⟩
def RX4 : String := "StampRaids$Rules"
def TX4 : u_T := fun k => match k with
  | 0 => ("StampRaids$Rules", "next", "[I", true)
  | 1 => ("StampRaids$Rules", "rows", "[I", true)
  | _ => ("StampRaids$Rules", "longerRows", "[I", true)
def tyX4 : Nat → FieldType := fun k => match k with
  | 0 => .array .int
  | 1 => .array .int
  | _ => .array .int
abbrev wsX40 : List Cond := u_ws RX4 TX4 3
theorem nmX4 : ∀ a, a < 3 → ∀ b, b < 3 → a ≠ b → (TX4 a).2.1 ≠ (TX4 b).2.1 := by decide +kernel
theorem tyX4_ok : ∀ k, k < 3 → parseFieldDescriptor (TX4 k).2.2.1 = some (tyX4 k) := by decide +kernel
abbrev cX4_init : ByteArray := prog_6_method_1_code
def yX4_init : MethodName := ⟨RX4, "<init>", "()V"⟩
abbrev cX4_after : ByteArray := prog_6_method_3_code
def yX4_after : MethodName := ⟨RX4, "after", "(II)I"⟩
abbrev cX4_become : ByteArray := prog_6_method_4_code
def yX4_become : MethodName := ⟨RX4, "become", "(III)V"⟩
abbrev cX4_fewest : ByteArray := prog_6_method_5_code
def yX4_fewest : MethodName := ⟨RX4, "fewest", "(II)I"⟩
abbrev cX4_allAfter : ByteArray := prog_6_method_6_code
def yX4_allAfter : MethodName := ⟨RX4, "allAfter", "(I)I"⟩
abbrev cX4_stampOnWay : ByteArray := prog_6_method_7_code
def yX4_stampOnWay : MethodName := ⟨RX4, "stampOnWay", "(III)I"⟩
abbrev cX4_nearestStamp : ByteArray := prog_6_method_8_code
def yX4_nearestStamp : MethodName := ⟨RX4, "nearestStamp", "(II)I"⟩
abbrev cX4_rowsTo : ByteArray := prog_6_method_9_code
def yX4_rowsTo : MethodName := ⟨RX4, "rowsTo", "(III)I"⟩
abbrev cX4_lengthenRows : ByteArray := prog_6_method_10_code
def yX4_lengthenRows : MethodName := ⟨RX4, "lengthenRows", "()V"⟩
abbrev cX4_struck : ByteArray := prog_6_method_11_code
def yX4_struck : MethodName := ⟨RX4, "struck", "(III)I"⟩
abbrev cX4_comesBackBy : ByteArray := prog_6_method_12_code
def yX4_comesBackBy : MethodName := ⟨RX4, "comesBackBy", "(II)I"⟩
abbrev cX4_strikesAhead : ByteArray := prog_6_method_13_code
def yX4_strikesAhead : MethodName := ⟨RX4, "strikesAhead", "(II)I"⟩
def RX5 : String := "StampRaids$Sheet"
def TX5 : u_T := fun k => match k with
  | 0 => ("StampRaids$Sheet", "cells", "[I", true)
  | 1 => ("StampRaids$Sheet", "lane", "I", false)
  | _ => ("StampRaids$Sheet", "size", "I", false)
def tyX5 : Nat → FieldType := fun k => match k with
  | 0 => .array .int
  | 1 => .int
  | _ => .int
abbrev wsX50 : List Cond := u_ws RX5 TX5 3
theorem nmX5 : ∀ a, a < 3 → ∀ b, b < 3 → a ≠ b → (TX5 a).2.1 ≠ (TX5 b).2.1 := by decide +kernel
theorem tyX5_ok : ∀ k, k < 3 → parseFieldDescriptor (TX5 k).2.2.1 = some (tyX5 k) := by decide +kernel
abbrev cX5_init : ByteArray := prog_7_method_1_code
def yX5_init : MethodName := ⟨RX5, "<init>", "()V"⟩
abbrev cX5_hasRow : ByteArray := prog_7_method_2_code
def yX5_hasRow : MethodName := ⟨RX5, "hasRow", "()Z"⟩
abbrev cX5_begins : ByteArray := prog_7_method_3_code
def yX5_begins : MethodName := ⟨RX5, "begins", "(II)V"⟩
abbrev cX5_spans : ByteArray := prog_7_method_5_code
def yX5_spans : MethodName := ⟨RX5, "spans", "(II)Z"⟩
abbrev cX5_faultOf : ByteArray := prog_7_method_6_code
def yX5_faultOf : MethodName := ⟨RX5, "faultOf", "(III)I"⟩
abbrev cX5_at : ByteArray := prog_7_method_7_code
def yX5_at : MethodName := ⟨RX5, "at", "(I)I"⟩
abbrev cX5_become : ByteArray := prog_7_method_8_code
def yX5_become : MethodName := ⟨RX5, "become", "(II)V"⟩
def RX6 : String := "StampRaids$Text"
def TX6 : u_T := fun k => match k with
  | _ => ("", "", "", false)
def tyX6 : Nat → FieldType := fun k => match k with
  | _ => .int
abbrev wsX60 : List Cond := u_ws RX6 TX6 0
theorem nmX6 : ∀ a, a < 0 → ∀ b, b < 0 → a ≠ b → (TX6 a).2.1 ≠ (TX6 b).2.1 := by decide +kernel
theorem tyX6_ok : ∀ k, k < 0 → parseFieldDescriptor (TX6 k).2.2.1 = some (tyX6 k) := by decide +kernel
abbrev cX6_firstFault : ByteArray := prog_8_method_2_code
def yX6_firstFault : MethodName := ⟨RX6, "firstFault", "(LStampRaids$Sheet;II)I"⟩
abbrev cX6_peopleIn : ByteArray := prog_8_method_3_code
def yX6_peopleIn : MethodName := ⟨RX6, "peopleIn", "(I)I"⟩
abbrev cX6_goesOn : ByteArray := prog_8_method_4_code
def yX6_goesOn : MethodName := ⟨RX6, "goesOn", "(II)Z"⟩
abbrev cX6_goesOnPerson : ByteArray := prog_8_method_5_code
def yX6_goesOnPerson : MethodName := ⟨RX6, "goesOnPerson", "(II)Z"⟩
abbrev cX6_isDigit : ByteArray := prog_8_method_6_code
def yX6_isDigit : MethodName := ⟨RX6, "isDigit", "(II)Z"⟩
abbrev cX6_kindOf : ByteArray := prog_8_method_7_code
def yX6_kindOf : MethodName := ⟨RX6, "kindOf", "(I)I"⟩
abbrev cX6_digit : ByteArray := prog_8_method_8_code
def yX6_digit : MethodName := ⟨RX6, "digit", "(LStampRaids$Sheet;I)I"⟩
abbrev cX6_inkOf : ByteArray := prog_8_method_9_code
def yX6_inkOf : MethodName := ⟨RX6, "inkOf", "(LStampRaids$Sheet;II)I"⟩
abbrev cX6_ruleOf : ByteArray := prog_8_method_10_code
def yX6_ruleOf : MethodName := ⟨RX6, "ruleOf", "(LStampRaids$Sheet;III)I"⟩
abbrev cX6_readPerson : ByteArray := prog_8_method_11_code
def yX6_readPerson : MethodName := ⟨RX6, "readPerson", "(LStampRaids$Sheet;IILStampRaids$Person;)V"⟩
def RX7 : String := "StampRaids$War"
def TX7 : u_T := fun k => match k with
  | 0 => ("StampRaids$War", "inks", "[I", true)
  | 1 => ("StampRaids$War", "rules", "LStampRaids$Rules;", true)
  | 2 => ("StampRaids$War", "people", "[LStampRaids$Person;", true)
  | _ => ("StampRaids$War", "count", "I", false)
def tyX7 : Nat → FieldType := fun k => match k with
  | 0 => .array .int
  | 1 => .object "StampRaids$Rules"
  | 2 => .array (.object "StampRaids$Person")
  | _ => .int
abbrev wsX70 : List Cond := u_ws RX7 TX7 4
theorem nmX7 : ∀ a, a < 4 → ∀ b, b < 4 → a ≠ b → (TX7 a).2.1 ≠ (TX7 b).2.1 := by decide +kernel
theorem tyX7_ok : ∀ k, k < 4 → parseFieldDescriptor (TX7 k).2.2.1 = some (tyX7 k) := by decide +kernel
abbrev cX7_init : ByteArray := prog_9_method_1_code
def yX7_init : MethodName := ⟨RX7, "<init>", "()V"⟩
abbrev cX7_isOn : ByteArray := prog_9_method_2_code
def yX7_isOn : MethodName := ⟨RX7, "isOn", "()Z"⟩
abbrev cX7_personOf : ByteArray := prog_9_method_3_code
def yX7_personOf : MethodName := ⟨RX7, "personOf", "(I)LStampRaids$Person;"⟩
abbrev cX7_begins : ByteArray := prog_9_method_4_code
def yX7_begins : MethodName := ⟨RX7, "begins", "(LStampRaids$Sheet;II)V"⟩
abbrev cX7_peopleOf : ByteArray := prog_9_method_6_code
def yX7_peopleOf : MethodName := ⟨RX7, "peopleOf", "(I)I"⟩
abbrev cX7_workersOf : ByteArray := prog_9_method_7_code
def yX7_workersOf : MethodName := ⟨RX7, "workersOf", "(I)I"⟩
abbrev cX7_strikes : ByteArray := prog_9_method_8_code
def yX7_strikes : MethodName := ⟨RX7, "strikes", "(LStampRaids$Person;I)Z"⟩
abbrev cX7_washes : ByteArray := prog_9_method_9_code
def yX7_washes : MethodName := ⟨RX7, "washes", "(LStampRaids$Person;)Z"⟩
abbrev cX7_cheapestRaid : ByteArray := prog_9_method_10_code
def yX7_cheapestRaid : MethodName := ⟨RX7, "cheapestRaid", "(II)I"⟩
abbrev cX7_removable : ByteArray := prog_9_method_11_code
def yX7_removable : MethodName := ⟨RX7, "removable", "(I)I"⟩
abbrev cX7_raidInk : ByteArray := prog_9_method_12_code
def yX7_raidInk : MethodName := ⟨RX7, "raidInk", "(I)I"⟩
abbrev cX7_mostTakes : ByteArray := prog_9_method_13_code
def yX7_mostTakes : MethodName := ⟨RX7, "mostTakes", "(II)I"⟩
abbrev cX7_takesOf : ByteArray := prog_9_method_14_code
def yX7_takesOf : MethodName := ⟨RX7, "takesOf", "(I)I"⟩
def RX8 : String := "StampRaids"
def TX8 : u_T := fun k => match k with
  | 0 => ("StampRaids", "sheets", "[LStampRaids$Sheet;", true)
  | 1 => ("StampRaids", "war", "LStampRaids$War;", true)
  | 2 => ("StampRaids", "nightTold", "LStampRaids$Night;", true)
  | 3 => ("StampRaids", "readings", "LStampRaids$Readings;", true)
  | 4 => ("StampRaids", "bodies", "LStampRaids$Bodies;", true)
  | 5 => ("StampRaids", "strikesDone", "I", false)
  | _ => ("StampRaids", "latestFault", "I", false)
def tyX8 : Nat → FieldType := fun k => match k with
  | 0 => .array (.object "StampRaids$Sheet")
  | 1 => .object "StampRaids$War"
  | 2 => .object "StampRaids$Night"
  | 3 => .object "StampRaids$Readings"
  | 4 => .object "StampRaids$Bodies"
  | 5 => .int
  | _ => .int
abbrev wsX80 : List Cond := u_ws RX8 TX8 7
theorem nmX8 : ∀ a, a < 7 → ∀ b, b < 7 → a ≠ b → (TX8 a).2.1 ≠ (TX8 b).2.1 := by decide +kernel
theorem tyX8_ok : ∀ k, k < 7 → parseFieldDescriptor (TX8 k).2.2.1 = some (tyX8 k) := by decide +kernel
abbrev cX8_init : ByteArray := prog_1_method_1_code
def yX8_init : MethodName := ⟨RX8, "<init>", "()V"⟩
abbrev cX8_war : ByteArray := prog_1_method_2_code
def yX8_war : MethodName := ⟨RX8, "war", "(IIII)I"⟩
abbrev cX8_ofPerson : ByteArray := prog_1_method_3_code
def yX8_ofPerson : MethodName := ⟨RX8, "ofPerson", "(II)I"⟩
abbrev cX8_decree : ByteArray := prog_1_method_5_code
def yX8_decree : MethodName := ⟨RX8, "decree", "(III)I"⟩
abbrev cX8_starch : ByteArray := prog_1_method_6_code
def yX8_starch : MethodName := ⟨RX8, "starch", "(II)I"⟩
abbrev cX8_strike : ByteArray := prog_1_method_8_code
def yX8_strike : MethodName := ⟨RX8, "strike", "(II)I"⟩
abbrev cX8_wash : ByteArray := prog_1_method_9_code
def yX8_wash : MethodName := ⟨RX8, "wash", "(I)I"⟩
abbrev cX8_fetches : ByteArray := prog_1_method_10_code
def yX8_fetches : MethodName := ⟨RX8, "fetches", "(II)I"⟩
abbrev cX8_undoing : ByteArray := prog_1_method_14_code
def yX8_undoing : MethodName := ⟨RX8, "undoing", "(III)I"⟩
abbrev cX8_ways : ByteArray := prog_1_method_15_code
def yX8_ways : MethodName := ⟨RX8, "ways", "(III)I"⟩
abbrev cX8_worn : ByteArray := prog_1_method_16_code
def yX8_worn : MethodName := ⟨RX8, "worn", "(III)I"⟩
abbrev cX8_raid : ByteArray := prog_1_method_17_code
def yX8_raid : MethodName := ⟨RX8, "raid", "(III)I"⟩
abbrev cX8_peace : ByteArray := prog_1_method_18_code
def yX8_peace : MethodName := ⟨RX8, "peace", "(I)I"⟩
abbrev cX8_reading : ByteArray := prog_1_method_19_code
def yX8_reading : MethodName := ⟨RX8, "reading", "(II)I"⟩
abbrev cX8_back : ByteArray := prog_1_method_20_code
def yX8_back : MethodName := ⟨RX8, "back", "(I)I"⟩
abbrev cX8_necks : ByteArray := prog_1_method_21_code
def yX8_necks : MethodName := ⟨RX8, "necks", "(I)I"⟩
abbrev cX8_kinds : ByteArray := prog_1_method_22_code
def yX8_kinds : MethodName := ⟨RX8, "kinds", "(I)I"⟩
abbrev cX8_odds : ByteArray := prog_1_method_25_code
def yX8_odds : MethodName := ⟨RX8, "odds", "(III)J"⟩
abbrev cX8_sheet : ByteArray := prog_1_method_26_code
def yX8_sheet : MethodName := ⟨RX8, "sheet", "(III)I"⟩
abbrev cX8_put : ByteArray := prog_1_method_28_code
def yX8_put : MethodName := ⟨RX8, "put", "(III)I"⟩
abbrev cX8_many : ByteArray := prog_1_method_36_code
def yX8_many : MethodName := ⟨RX8, "many", "(I)I"⟩
abbrev cX8_within : ByteArray := prog_1_method_37_code
def yX8_within : MethodName := ⟨RX8, "within", "(III)Z"⟩
abbrev cX8_below : ByteArray := prog_1_method_38_code
def yX8_below : MethodName := ⟨RX8, "below", "(II)Z"⟩
abbrev cX8_sheetOf : ByteArray := prog_1_method_39_code
def yX8_sheetOf : MethodName := ⟨RX8, "sheetOf", "(I)LStampRaids$Sheet;"⟩
abbrev cX8_stopped : ByteArray := prog_1_method_40_code
def yX8_stopped : MethodName := ⟨RX8, "stopped", "(I)I"⟩
def RX9 : String := "StampRaidsModel"
def TX9 : u_T := fun k => match k with
  | _ => ("", "", "", false)
def tyX9 : Nat → FieldType := fun k => match k with
  | _ => .int
abbrev wsX90 : List Cond := u_ws RX9 TX9 0
theorem nmX9 : ∀ a, a < 0 → ∀ b, b < 0 → a ≠ b → (TX9 a).2.1 ≠ (TX9 b).2.1 := by decide +kernel
theorem tyX9_ok : ∀ k, k < 0 → parseFieldDescriptor (TX9 k).2.2.1 = some (tyX9 k) := by decide +kernel
def RJ6 : String := "java/lang/Integer"
def TJ6 : u_T := fun k => match k with
  | _ => ("", "", "", false)
def tyJ6 : Nat → FieldType := fun k => match k with
  | _ => .int
abbrev wsJ60 : List Cond := u_ws RJ6 TJ6 0
theorem nmJ6 : ∀ a, a < 0 → ∀ b, b < 0 → a ≠ b → (TJ6 a).2.1 ≠ (TJ6 b).2.1 := by decide +kernel
theorem tyJ6_ok : ∀ k, k < 0 → parseFieldDescriptor (TJ6 k).2.2.1 = some (tyJ6 k) := by decide +kernel
abbrev cJ6_bitCount_0f7a4 : ByteArray := prog_12_method_49_code
def yJ6_bitCount_0f7a4 : MethodName := ⟨RJ6, "bitCount", "(I)I"⟩
def RJ9 : String := "java/lang/Math"
def TJ9 : u_T := fun k => match k with
  | _ => ("", "", "", false)
def tyJ9 : Nat → FieldType := fun k => match k with
  | _ => .int
abbrev wsJ90 : List Cond := u_ws RJ9 TJ9 0
theorem nmJ9 : ∀ a, a < 0 → ∀ b, b < 0 → a ≠ b → (TJ9 a).2.1 ≠ (TJ9 b).2.1 := by decide +kernel
theorem tyJ9_ok : ∀ k, k < 0 → parseFieldDescriptor (TJ9 k).2.2.1 = some (tyJ9 k) := by decide +kernel
abbrev cJ9_max_7cf53 : ByteArray := prog_13_method_65_code
def yJ9_max_7cf53 : MethodName := ⟨RJ9, "max", "(II)I"⟩
abbrev cJ9_min_7cf53 : ByteArray := prog_13_method_69_code
def yJ9_min_7cf53 : MethodName := ⟨RJ9, "min", "(II)I"⟩
def RJ10 : String := "java/lang/System"
def TJ10 : u_T := fun k => match k with
  | _ => ("", "", "", false)
def tyJ10 : Nat → FieldType := fun k => match k with
  | _ => .int
abbrev wsJ100 : List Cond := u_ws RJ10 TJ10 0
theorem nmJ10 : ∀ a, a < 0 → ∀ b, b < 0 → a ≠ b → (TJ10 a).2.1 ≠ (TJ10 b).2.1 := by decide +kernel
theorem tyJ10_ok : ∀ k, k < 0 → parseFieldDescriptor (TJ10 k).2.2.1 = some (tyJ10 k) := by decide +kernel
def RJ7 : String := "java/util/Arrays"
def TJ7 : u_T := fun k => match k with
  | _ => ("", "", "", false)
def tyJ7 : Nat → FieldType := fun k => match k with
  | _ => .int
abbrev wsJ70 : List Cond := u_ws RJ7 TJ7 0
theorem nmJ7 : ∀ a, a < 0 → ∀ b, b < 0 → a ≠ b → (TJ7 a).2.1 ≠ (TJ7 b).2.1 := by decide +kernel
theorem tyJ7_ok : ∀ k, k < 0 → parseFieldDescriptor (TJ7 k).2.2.1 = some (tyJ7 k) := by decide +kernel
abbrev cJ7_fill_53178 : ByteArray := prog_15_method_103_code
def yJ7_fill_53178 : MethodName := ⟨RJ7, "fill", "([II)V"⟩
def RL : String := "StampRaidsLaw"
abbrev cL_cell : ByteArray := method_2_code
def yL_cell : MethodName := ⟨RL, "cell", "([II)I"⟩
abbrev cL_low : ByteArray := method_3_code
def yL_low : MethodName := ⟨RL, "low", "(II)I"⟩
abbrev cL_lay : ByteArray := method_4_code
def yL_lay : MethodName := ⟨RL, "lay", "(LStampRaids;[I[III)I"⟩
abbrev cL_office : ByteArray := method_5_code
def yL_office : MethodName := ⟨RL, "office", "([II)I"⟩
abbrev cL_mark : ByteArray := method_6_code
def yL_mark : MethodName := ⟨RL, "mark", "([II)I"⟩
abbrev cL_neck : ByteArray := method_7_code
def yL_neck : MethodName := ⟨RL, "neck", "([II)I"⟩
abbrev cL_takes : ByteArray := method_8_code
def yL_takes : MethodName := ⟨RL, "takes", "([II)I"⟩
abbrev cL_rule : ByteArray := method_9_code
def yL_rule : MethodName := ⟨RL, "rule", "([III)I"⟩
abbrev cL_marks : ByteArray := method_10_code
def yL_marks : MethodName := ⟨RL, "marks", "([III)V"⟩
abbrev cL_work : ByteArray := method_11_code
def yL_work : MethodName := ⟨RL, "work", "([II)I"⟩
abbrev cL_bits : ByteArray := method_12_code
def yL_bits : MethodName := ⟨RL, "bits", "(I)I"⟩
abbrev cL_does : ByteArray := method_14_code
def yL_does : MethodName := ⟨RL, "does", "([III)Z"⟩
abbrev cL_goOn : ByteArray := method_15_code
def yL_goOn : MethodName := ⟨RL, "goOn", "(LStampRaids;[II)Z"⟩
abbrev cL_areSo : ByteArray := method_16_code
def yL_areSo : MethodName := ⟨RL, "areSo", "([I[II)Z"⟩
abbrev cL_becomes : ByteArray := method_17_code
def yL_becomes : MethodName := ⟨RL, "becomes", "([IIII)I"⟩
abbrev cL_power : ByteArray := method_18_code
def yL_power : MethodName := ⟨RL, "power", "(I)I"⟩
abbrev cL_fewest : ByteArray := method_19_code
def yL_fewest : MethodName := ⟨RL, "fewest", "([III)I"⟩
abbrev cL_law : ByteArray := code
def yL_law : MethodName := ⟨RL, "law", "([I)Z"⟩
abbrev vwCl : List vw_C := [(RX0, TX0, 1), (RX1, TX1, 4), (RX2, TX2, 4), (RX3, TX3, 4), (RX4, TX4, 3), (RX5, TX5, 3), (RX7, TX7, 4), (RX8, TX8, 7)]
