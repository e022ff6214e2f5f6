def RX0 : String := "PlaceOffice$Allocation"
def TX0 : u_T := fun k => match k with
  | _ => ("PlaceOffice$Allocation", "tried", "[I", true)
def tyX0 : Nat → FieldType := fun k => match k with
  | _ => .array .int
theorem nmX0 : ∀ a, a < 1 → ∀ b, b < 1 → a ≠ b → (TX0 a).2.1 ≠ (TX0 b).2.1 := by decide +kernel
theorem tyX0_ok : ∀ k, k < 1 → parseFieldDescriptor (TX0 k).2.2.1 = some (tyX0 k) := by decide +kernel
abbrev cX0_init : ByteArray := prog_2_method_1_code
def yX0_init : MethodName := ⟨RX0, "<init>", "()V"⟩
abbrev cX0_run : ByteArray := prog_2_method_2_code
def yX0_run : MethodName := ⟨RX0, "run", "(LPlaceOffice$Roll;)V"⟩
abbrev cX0_tryNext : ByteArray := prog_2_method_3_code
def yX0_tryNext : MethodName := ⟨RX0, "tryNext", "(LPlaceOffice$Roll;I)Z"⟩
abbrev cX0_keepFirst : ByteArray := prog_2_method_4_code
def yX0_keepFirst : MethodName := ⟨RX0, "keepFirst", "(LPlaceOffice$Roll;I)V"⟩
def RX1 : String := "PlaceOffice$Page"
def TX1 : u_T := fun k => match k with
  | 0 => ("PlaceOffice$Page", "bytes", "[B", true)
  | _ => ("PlaceOffice$Page", "length", "I", false)
def tyX1 : Nat → FieldType := fun k => match k with
  | 0 => .array .byte
  | _ => .int
theorem nmX1 : ∀ a, a < 2 → ∀ b, b < 2 → a ≠ b → (TX1 a).2.1 ≠ (TX1 b).2.1 := by decide +kernel
theorem tyX1_ok : ∀ k, k < 2 → parseFieldDescriptor (TX1 k).2.2.1 = some (tyX1 k) := by decide +kernel
abbrev cX1_init : ByteArray := prog_3_method_1_code
def yX1_init : MethodName := ⟨RX1, "<init>", "()V"⟩
def RX2 : String := "PlaceOffice$Roll"
def TX2 : u_T := fun k => match k with
  | 0 => ("PlaceOffice$Roll", "town", "LPlaceOffice$Town;", false)
  | 1 => ("PlaceOffice$Roll", "children", "I", false)
  | 2 => ("PlaceOffice$Roll", "lotState", "I", false)
  | 3 => ("PlaceOffice$Roll", "lateGoesBehind", "Z", false)
  | 4 => ("PlaceOffice$Roll", "allocated", "Z", false)
  | 5 => ("PlaceOffice$Roll", "rounds", "I", false)
  | 6 => ("PlaceOffice$Roll", "filled", "I", false)
  | 7 => ("PlaceOffice$Roll", "care", "J", false)
  | 8 => ("PlaceOffice$Roll", "late", "J", false)
  | 9 => ("PlaceOffice$Roll", "withdrawn", "J", false)
  | 10 => ("PlaceOffice$Roll", "byAppeal", "J", false)
  | 11 => ("PlaceOffice$Roll", "x", "[I", true)
  | 12 => ("PlaceOffice$Roll", "y", "[I", true)
  | 13 => ("PlaceOffice$Roll", "family", "[I", true)
  | 14 => ("PlaceOffice$Roll", "lot", "[I", true)
  | 15 => ("PlaceOffice$Roll", "wishes", "[I", true)
  | 16 => ("PlaceOffice$Roll", "place", "[I", true)
  | 17 => ("PlaceOffice$Roll", "round", "[I", true)
  | 18 => ("PlaceOffice$Roll", "capacity", "[I", true)
  | _ => ("PlaceOffice$Roll", "mercies", "[I", true)
def tyX2 : Nat → FieldType := fun k => match k with
  | 0 => .object "PlaceOffice$Town"
  | 1 => .int
  | 2 => .int
  | 3 => .boolean
  | 4 => .boolean
  | 5 => .int
  | 6 => .int
  | 7 => .long
  | 8 => .long
  | 9 => .long
  | 10 => .long
  | 11 => .array .int
  | 12 => .array .int
  | 13 => .array .int
  | 14 => .array .int
  | 15 => .array .int
  | 16 => .array .int
  | 17 => .array .int
  | 18 => .array .int
  | _ => .array .int
theorem nmX2 : ∀ a, a < 20 → ∀ b, b < 20 → a ≠ b → (TX2 a).2.1 ≠ (TX2 b).2.1 := by decide +kernel
theorem tyX2_ok : ∀ k, k < 20 → parseFieldDescriptor (TX2 k).2.2.1 = some (tyX2 k) := by decide +kernel
abbrev cX2_init : ByteArray := prog_4_method_1_code
def yX2_init : MethodName := ⟨RX2, "<init>", "(LPlaceOffice$Town;)V"⟩
abbrev cX2_clear : ByteArray := prog_4_method_2_code
def yX2_clear : MethodName := ⟨RX2, "clear", "()V"⟩
abbrev cX2_copyFrom : ByteArray := prog_4_method_3_code
def yX2_copyFrom : MethodName := ⟨RX2, "copyFrom", "(LPlaceOffice$Roll;)V"⟩
abbrev cX2_enrol : ByteArray := prog_4_method_4_code
def yX2_enrol : MethodName := ⟨RX2, "enrol", "(IIIZI)I"⟩
abbrev cX2_fits : ByteArray := prog_4_method_5_code
def yX2_fits : MethodName := ⟨RX2, "fits", "(III)Z"⟩
abbrev cX2_rankClass : ByteArray := prog_4_method_6_code
def yX2_rankClass : MethodName := ⟨RX2, "rankClass", "(II)I"⟩
abbrev cX2_squareWay : ByteArray := prog_4_method_7_code
def yX2_squareWay : MethodName := ⟨RX2, "squareWay", "(II)I"⟩
abbrev cX2_standing : ByteArray := prog_4_method_8_code
def yX2_standing : MethodName := ⟨RX2, "standing", "(II)J"⟩
abbrev cX2_firstOf : ByteArray := prog_4_method_9_code
def yX2_firstOf : MethodName := ⟨RX2, "firstOf", "(JI)I"⟩
abbrev cX2_lastOf : ByteArray := prog_4_method_10_code
def yX2_lastOf : MethodName := ⟨RX2, "lastOf", "(JI)I"⟩
abbrev cX2_aheadOf : ByteArray := prog_4_method_11_code
def yX2_aheadOf : MethodName := ⟨RX2, "aheadOf", "(IJI)I"⟩
abbrev cX2_orderedOf : ByteArray := prog_4_method_12_code
def yX2_orderedOf : MethodName := ⟨RX2, "orderedOf", "(JII)I"⟩
abbrev cX2_holdersOf : ByteArray := prog_4_method_13_code
def yX2_holdersOf : MethodName := ⟨RX2, "holdersOf", "(I)J"⟩
abbrev cX2_placedOnes : ByteArray := prog_4_method_14_code
def yX2_placedOnes : MethodName := ⟨RX2, "placedOnes", "()J"⟩
abbrev cX2_gotWish : ByteArray := prog_4_method_15_code
def yX2_gotWish : MethodName := ⟨RX2, "gotWish", "(I)I"⟩
abbrev cX2_prefers : ByteArray := prog_4_method_16_code
def yX2_prefers : MethodName := ⟨RX2, "prefers", "(II)Z"⟩
abbrev cX2_waits : ByteArray := prog_4_method_17_code
def yX2_waits : MethodName := ⟨RX2, "waits", "(II)Z"⟩
abbrev cX2_waitersOf : ByteArray := prog_4_method_18_code
def yX2_waitersOf : MethodName := ⟨RX2, "waitersOf", "(I)J"⟩
abbrev cX2_claimStands : ByteArray := prog_4_method_19_code
def yX2_claimStands : MethodName := ⟨RX2, "claimStands", "(II)Z"⟩
abbrev cX2_leave : ByteArray := prog_4_method_23_code
def yX2_leave : MethodName := ⟨RX2, "leave", "(I)V"⟩
abbrev cX2_takeOut : ByteArray := prog_4_method_24_code
def yX2_takeOut : MethodName := ⟨RX2, "takeOut", "(I)V"⟩
abbrev cX2_handBack : ByteArray := prog_4_method_25_code
def yX2_handBack : MethodName := ⟨RX2, "handBack", "(I)V"⟩
abbrev cX2_hearAppeal : ByteArray := prog_4_method_26_code
def yX2_hearAppeal : MethodName := ⟨RX2, "hearAppeal", "(II)I"⟩
abbrev cX2_fillPlaces : ByteArray := prog_4_method_27_code
def yX2_fillPlaces : MethodName := ⟨RX2, "fillPlaces", "()V"⟩
abbrev cX2_fillOne : ByteArray := prog_4_method_28_code
def yX2_fillOne : MethodName := ⟨RX2, "fillOne", "()Z"⟩
abbrev cX2_takeAllBack : ByteArray := prog_4_method_29_code
def yX2_takeAllBack : MethodName := ⟨RX2, "takeAllBack", "()V"⟩
def RX3 : String := "PlaceOffice$SetupReader"
def TX3 : u_T := fun k => match k with
  | 0 => ("PlaceOffice$SetupReader", "text", "[B", true)
  | 1 => ("PlaceOffice$SetupReader", "length", "I", false)
  | 2 => ("PlaceOffice$SetupReader", "error", "I", false)
  | 3 => ("PlaceOffice$SetupReader", "errorAt", "I", false)
  | 4 => ("PlaceOffice$SetupReader", "roll", "LPlaceOffice$Roll;", false)
  | 5 => ("PlaceOffice$SetupReader", "seedTold", "Z", false)
  | 6 => ("PlaceOffice$SetupReader", "appealsTold", "Z", false)
  | 7 => ("PlaceOffice$SetupReader", "lateTold", "Z", false)
  | 8 => ("PlaceOffice$SetupReader", "kind", "I", false)
  | 9 => ("PlaceOffice$SetupReader", "start", "I", false)
  | 10 => ("PlaceOffice$SetupReader", "end", "I", false)
  | _ => ("PlaceOffice$SetupReader", "word", "LPlaceOffice$Word;", false)
def tyX3 : Nat → FieldType := fun k => match k with
  | 0 => .array .byte
  | 1 => .int
  | 2 => .int
  | 3 => .int
  | 4 => .object "PlaceOffice$Roll"
  | 5 => .boolean
  | 6 => .boolean
  | 7 => .boolean
  | 8 => .int
  | 9 => .int
  | 10 => .int
  | _ => .object "PlaceOffice$Word"
theorem nmX3 : ∀ a, a < 12 → ∀ b, b < 12 → a ≠ b → (TX3 a).2.1 ≠ (TX3 b).2.1 := by decide +kernel
theorem tyX3_ok : ∀ k, k < 12 → parseFieldDescriptor (TX3 k).2.2.1 = some (tyX3 k) := by decide +kernel
abbrev cX3_init : ByteArray := prog_5_method_1_code
def yX3_init : MethodName := ⟨RX3, "<init>", "()V"⟩
abbrev cX3_append : ByteArray := prog_5_method_2_code
def yX3_append : MethodName := ⟨RX3, "append", "(I)V"⟩
abbrev cX3_readSetup : ByteArray := prog_5_method_3_code
def yX3_readSetup : MethodName := ⟨RX3, "readSetup", "()V"⟩
abbrev cX3_readSchool : ByteArray := prog_5_method_4_code
def yX3_readSchool : MethodName := ⟨RX3, "readSchool", "()V"⟩
abbrev cX3_readZone : ByteArray := prog_5_method_5_code
def yX3_readZone : MethodName := ⟨RX3, "readZone", "()V"⟩
abbrev cX3_readPupil : ByteArray := prog_5_method_6_code
def yX3_readPupil : MethodName := ⟨RX3, "readPupil", "()V"⟩
abbrev cX3_readChild : ByteArray := prog_5_method_7_code
def yX3_readChild : MethodName := ⟨RX3, "readChild", "()V"⟩
abbrev cX3_readSeed : ByteArray := prog_5_method_8_code
def yX3_readSeed : MethodName := ⟨RX3, "readSeed", "()V"⟩
abbrev cX3_readAppeals : ByteArray := prog_5_method_9_code
def yX3_readAppeals : MethodName := ⟨RX3, "readAppeals", "()V"⟩
abbrev cX3_readLate : ByteArray := prog_5_method_10_code
def yX3_readLate : MethodName := ⟨RX3, "readLate", "()V"⟩
abbrev cX3_readSetting : ByteArray := prog_5_method_11_code
def yX3_readSetting : MethodName := ⟨RX3, "readSetting", "(I)I"⟩
abbrev cX3_readNumber : ByteArray := prog_5_method_12_code
def yX3_readNumber : MethodName := ⟨RX3, "readNumber", "(II)I"⟩
abbrev cX3_readRules : ByteArray := prog_5_method_13_code
def yX3_readRules : MethodName := ⟨RX3, "readRules", "()I"⟩
abbrev cX3_ruleHere : ByteArray := prog_5_method_14_code
def yX3_ruleHere : MethodName := ⟨RX3, "ruleHere", "()I"⟩
abbrev cX3_readWishes : ByteArray := prog_5_method_15_code
def yX3_readWishes : MethodName := ⟨RX3, "readWishes", "()I"⟩
abbrev cX3_toldSchoolHere : ByteArray := prog_5_method_16_code
def yX3_toldSchoolHere : MethodName := ⟨RX3, "toldSchoolHere", "()I"⟩
abbrev cX3_nameHere : ByteArray := prog_5_method_17_code
def yX3_nameHere : MethodName := ⟨RX3, "nameHere", "()I"⟩
abbrev cX3_passWord : ByteArray := prog_5_method_18_code
def yX3_passWord : MethodName := ⟨RX3, "passWord", "(LPlaceOffice$Word;)Z"⟩
abbrev cX3_passSemicolon : ByteArray := prog_5_method_19_code
def yX3_passSemicolon : MethodName := ⟨RX3, "passSemicolon", "()Z"⟩
abbrev cX3_fail : ByteArray := prog_5_method_20_code
def yX3_fail : MethodName := ⟨RX3, "fail", "(I)V"⟩
abbrev cX3_advance : ByteArray := prog_5_method_21_code
def yX3_advance : MethodName := ⟨RX3, "advance", "()V"⟩
abbrev cX3_kindOf : ByteArray := prog_5_method_22_code
def yX3_kindOf : MethodName := ⟨RX3, "kindOf", "(B)I"⟩
abbrev cX3_wordHere : ByteArray := prog_5_method_23_code
def yX3_wordHere : MethodName := ⟨RX3, "wordHere", "()LPlaceOffice$Word;"⟩
def RX4 : String := "PlaceOffice$Town"
def TX4 : u_T := fun k => match k with
  | 0 => ("PlaceOffice$Town", "schools", "I", false)
  | 1 => ("PlaceOffice$Town", "pupils", "I", false)
  | 2 => ("PlaceOffice$Town", "appeals", "I", false)
  | 3 => ("PlaceOffice$Town", "name", "[I", true)
  | 4 => ("PlaceOffice$Town", "x", "[I", true)
  | 5 => ("PlaceOffice$Town", "y", "[I", true)
  | 6 => ("PlaceOffice$Town", "rules", "[I", true)
  | 7 => ("PlaceOffice$Town", "pupilsAt", "[I", true)
  | 8 => ("PlaceOffice$Town", "zoneLeastX", "[I", true)
  | 9 => ("PlaceOffice$Town", "zoneLeastY", "[I", true)
  | 10 => ("PlaceOffice$Town", "zoneMostX", "[I", true)
  | 11 => ("PlaceOffice$Town", "zoneMostY", "[I", true)
  | _ => ("PlaceOffice$Town", "pupilSchools", "[I", true)
def tyX4 : Nat → FieldType := fun k => match k with
  | 0 => .int
  | 1 => .int
  | 2 => .int
  | 3 => .array .int
  | 4 => .array .int
  | 5 => .array .int
  | 6 => .array .int
  | 7 => .array .int
  | 8 => .array .int
  | 9 => .array .int
  | 10 => .array .int
  | 11 => .array .int
  | _ => .array .int
theorem nmX4 : ∀ a, a < 13 → ∀ b, b < 13 → a ≠ b → (TX4 a).2.1 ≠ (TX4 b).2.1 := by decide +kernel
theorem tyX4_ok : ∀ k, k < 13 → parseFieldDescriptor (TX4 k).2.2.1 = some (tyX4 k) := by decide +kernel
abbrev cX4_init : ByteArray := prog_6_method_1_code
def yX4_init : MethodName := ⟨RX4, "<init>", "()V"⟩
abbrev cX4_clear : ByteArray := prog_6_method_2_code
def yX4_clear : MethodName := ⟨RX4, "clear", "()V"⟩
abbrev cX4_tellSchool : ByteArray := prog_6_method_3_code
def yX4_tellSchool : MethodName := ⟨RX4, "tellSchool", "(IIII)V"⟩
abbrev cX4_tellZone : ByteArray := prog_6_method_4_code
def yX4_tellZone : MethodName := ⟨RX4, "tellZone", "(IIIII)V"⟩
abbrev cX4_tellPupil : ByteArray := prog_6_method_5_code
def yX4_tellPupil : MethodName := ⟨RX4, "tellPupil", "(II)V"⟩
abbrev cX4_find : ByteArray := prog_6_method_6_code
def yX4_find : MethodName := ⟨RX4, "find", "(I)I"⟩
abbrev cX4_isZoned : ByteArray := prog_6_method_7_code
def yX4_isZoned : MethodName := ⟨RX4, "isZoned", "(I)Z"⟩
def RX5 : String := "PlaceOffice$Word"
def TX5 : u_T := fun k => match k with
  | _ => ("", "", "", false)
def tyX5 : Nat → FieldType := fun k => match k with
  | _ => .int
def RX6 : String := "PlaceOffice"
def TX6 : u_T := fun k => match k with
  | 0 => ("PlaceOffice", "reader", "LPlaceOffice$SetupReader;", true)
  | 1 => ("PlaceOffice", "allocation", "LPlaceOffice$Allocation;", true)
  | 2 => ("PlaceOffice", "page", "LPlaceOffice$Page;", true)
  | 3 => ("PlaceOffice", "now", "LPlaceOffice$Roll;", false)
  | 4 => ("PlaceOffice", "trial", "LPlaceOffice$Roll;", true)
  | 5 => ("PlaceOffice", "otherTrial", "LPlaceOffice$Roll;", true)
  | 6 => ("PlaceOffice", "saved", "LPlaceOffice$Roll;", true)
  | 7 => ("PlaceOffice", "isSaved", "Z", false)
  | 8 => ("PlaceOffice", "history", "[LPlaceOffice$Roll;", true)
  | 9 => ("PlaceOffice", "historyNext", "I", false)
  | _ => ("PlaceOffice", "historyLength", "I", false)
def tyX6 : Nat → FieldType := fun k => match k with
  | 0 => .object "PlaceOffice$SetupReader"
  | 1 => .object "PlaceOffice$Allocation"
  | 2 => .object "PlaceOffice$Page"
  | 3 => .object "PlaceOffice$Roll"
  | 4 => .object "PlaceOffice$Roll"
  | 5 => .object "PlaceOffice$Roll"
  | 6 => .object "PlaceOffice$Roll"
  | 7 => .boolean
  | 8 => .array (.object "PlaceOffice$Roll")
  | 9 => .int
  | _ => .int
theorem nmX6 : ∀ a, a < 11 → ∀ b, b < 11 → a ≠ b → (TX6 a).2.1 ≠ (TX6 b).2.1 := by decide +kernel
theorem tyX6_ok : ∀ k, k < 11 → parseFieldDescriptor (TX6 k).2.2.1 = some (tyX6 k) := by decide +kernel
abbrev cX6_init : ByteArray := prog_1_method_1_code
def yX6_init : MethodName := ⟨RX6, "<init>", "()V"⟩
abbrev cX6_appendInput : ByteArray := prog_1_method_2_code
def yX6_appendInput : MethodName := ⟨RX6, "appendInput", "(IIIII)I"⟩
abbrev cX6_truncateInput : ByteArray := prog_1_method_3_code
def yX6_truncateInput : MethodName := ⟨RX6, "truncateInput", "(I)Z"⟩
abbrev cX6_loadOffice : ByteArray := prog_1_method_4_code
def yX6_loadOffice : MethodName := ⟨RX6, "loadOffice", "()I"⟩
abbrev cX6_count : ByteArray := prog_1_method_7_code
def yX6_count : MethodName := ⟨RX6, "count", "(I)I"⟩
abbrev cX6_school : ByteArray := prog_1_method_8_code
def yX6_school : MethodName := ⟨RX6, "school", "(II)I"⟩
abbrev cX6_child : ByteArray := prog_1_method_10_code
def yX6_child : MethodName := ⟨RX6, "child", "(II)I"⟩
abbrev cX6_placeOf : ByteArray := prog_1_method_12_code
def yX6_placeOf : MethodName := ⟨RX6, "placeOf", "(I)I"⟩
abbrev cX6_gotPreference : ByteArray := prog_1_method_13_code
def yX6_gotPreference : MethodName := ⟨RX6, "gotPreference", "(I)I"⟩
abbrev cX6_holder : ByteArray := prog_1_method_18_code
def yX6_holder : MethodName := ⟨RX6, "holder", "(II)I"⟩
abbrev cX6_waitingPlace : ByteArray := prog_1_method_20_code
def yX6_waitingPlace : MethodName := ⟨RX6, "waitingPlace", "(II)I"⟩
abbrev cX6_hasClaim : ByteArray := prog_1_method_21_code
def yX6_hasClaim : MethodName := ⟨RX6, "hasClaim", "(II)Z"⟩
abbrev cX6_claims : ByteArray := prog_1_method_22_code
def yX6_claims : MethodName := ⟨RX6, "claims", "()I"⟩
abbrev cX6_allocate : ByteArray := prog_1_method_24_code
def yX6_allocate : MethodName := ⟨RX6, "allocate", "()I"⟩
abbrev cX6_addChild : ByteArray := prog_1_method_25_code
def yX6_addChild : MethodName := ⟨RX6, "addChild", "(IIIZI)I"⟩
abbrev cX6_withdraw : ByteArray := prog_1_method_26_code
def yX6_withdraw : MethodName := ⟨RX6, "withdraw", "(I)I"⟩
abbrev cX6_giveBack : ByteArray := prog_1_method_27_code
def yX6_giveBack : MethodName := ⟨RX6, "giveBack", "(I)I"⟩
abbrev cX6_moveHome : ByteArray := prog_1_method_28_code
def yX6_moveHome : MethodName := ⟨RX6, "moveHome", "(III)I"⟩
abbrev cX6_setCapacity : ByteArray := prog_1_method_29_code
def yX6_setCapacity : MethodName := ⟨RX6, "setCapacity", "(II)I"⟩
abbrev cX6_appeal : ByteArray := prog_1_method_30_code
def yX6_appeal : MethodName := ⟨RX6, "appeal", "(II)I"⟩
abbrev cX6_setLate : ByteArray := prog_1_method_31_code
def yX6_setLate : MethodName := ⟨RX6, "setLate", "(Z)Z"⟩
abbrev cX6_lastHolder : ByteArray := prog_1_method_32_code
def yX6_lastHolder : MethodName := ⟨RX6, "lastHolder", "(I)I"⟩
abbrev cX6_firstShare : ByteArray := prog_1_method_33_code
def yX6_firstShare : MethodName := ⟨RX6, "firstShare", "()F"⟩
abbrev cX6_needSchool : ByteArray := prog_1_method_60_code
def yX6_needSchool : MethodName := ⟨RX6, "needSchool", "(I)V"⟩
abbrev cX6_needChild : ByteArray := prog_1_method_61_code
def yX6_needChild : MethodName := ⟨RX6, "needChild", "(I)V"⟩
abbrev cX6_needHome : ByteArray := prog_1_method_62_code
def yX6_needHome : MethodName := ⟨RX6, "needHome", "(II)V"⟩
abbrev cX6_needCapacity : ByteArray := prog_1_method_63_code
def yX6_needCapacity : MethodName := ⟨RX6, "needCapacity", "(I)V"⟩
abbrev cX6_wishRow : ByteArray := prog_1_method_64_code
def yX6_wishRow : MethodName := ⟨RX6, "wishRow", "(I)I"⟩
abbrev cX6_remember : ByteArray := prog_1_method_65_code
def yX6_remember : MethodName := ⟨RX6, "remember", "()V"⟩
abbrev cX6_isIn : ByteArray := prog_1_method_67_code
def yX6_isIn : MethodName := ⟨RX6, "isIn", "(JI)Z"⟩
abbrev cX6_rowEntry : ByteArray := prog_1_method_68_code
def yX6_rowEntry : MethodName := ⟨RX6, "rowEntry", "(II)I"⟩
abbrev cX6_rowLength : ByteArray := prog_1_method_69_code
def yX6_rowLength : MethodName := ⟨RX6, "rowLength", "(I)I"⟩
abbrev cX6_rowIndex : ByteArray := prog_1_method_70_code
def yX6_rowIndex : MethodName := ⟨RX6, "rowIndex", "(II)I"⟩
def RX7 : String := "PlaceOfficeLaw$Child"
def TX7 : u_T := fun k => match k with
  | 0 => ("PlaceOfficeLaw$Child", "number", "I", false)
  | 1 => ("PlaceOfficeLaw$Child", "x", "I", false)
  | 2 => ("PlaceOfficeLaw$Child", "y", "I", false)
  | 3 => ("PlaceOfficeLaw$Child", "family", "I", false)
  | 4 => ("PlaceOfficeLaw$Child", "lot", "I", false)
  | 5 => ("PlaceOfficeLaw$Child", "place", "I", false)
  | 6 => ("PlaceOfficeLaw$Child", "care", "Z", false)
  | 7 => ("PlaceOfficeLaw$Child", "late", "Z", false)
  | 8 => ("PlaceOfficeLaw$Child", "gone", "Z", false)
  | 9 => ("PlaceOfficeLaw$Child", "byAppeal", "Z", false)
  | _ => ("PlaceOfficeLaw$Child", "wishes", "Ljava/util/List;", false)
def tyX7 : Nat → FieldType := fun k => match k with
  | 0 => .int
  | 1 => .int
  | 2 => .int
  | 3 => .int
  | 4 => .int
  | 5 => .int
  | 6 => .boolean
  | 7 => .boolean
  | 8 => .boolean
  | 9 => .boolean
  | _ => .object "java/util/List"
theorem nmX7 : ∀ a, a < 11 → ∀ b, b < 11 → a ≠ b → (TX7 a).2.1 ≠ (TX7 b).2.1 := by decide +kernel
theorem tyX7_ok : ∀ k, k < 11 → parseFieldDescriptor (TX7 k).2.2.1 = some (tyX7 k) := by decide +kernel
abbrev cX7_init : ByteArray := prog_9_method_1_code
def yX7_init : MethodName := ⟨RX7, "<init>", "()V"⟩
abbrev cX7_got : ByteArray := prog_9_method_2_code
def yX7_got : MethodName := ⟨RX7, "got", "()I"⟩
def RX8 : String := "PlaceOfficeLaw$School"
def TX8 : u_T := fun k => match k with
  | 0 => ("PlaceOfficeLaw$School", "number", "I", false)
  | 1 => ("PlaceOfficeLaw$School", "capacity", "I", false)
  | 2 => ("PlaceOfficeLaw$School", "x", "I", false)
  | 3 => ("PlaceOfficeLaw$School", "y", "I", false)
  | 4 => ("PlaceOfficeLaw$School", "granted", "I", false)
  | 5 => ("PlaceOfficeLaw$School", "zone", "[I", false)
  | 6 => ("PlaceOfficeLaw$School", "rules", "Ljava/util/List;", true)
  | _ => ("PlaceOfficeLaw$School", "families", "Ljava/util/List;", true)
def tyX8 : Nat → FieldType := fun k => match k with
  | 0 => .int
  | 1 => .int
  | 2 => .int
  | 3 => .int
  | 4 => .int
  | 5 => .array .int
  | 6 => .object "java/util/List"
  | _ => .object "java/util/List"
theorem nmX8 : ∀ a, a < 8 → ∀ b, b < 8 → a ≠ b → (TX8 a).2.1 ≠ (TX8 b).2.1 := by decide +kernel
theorem tyX8_ok : ∀ k, k < 8 → parseFieldDescriptor (TX8 k).2.2.1 = some (tyX8 k) := by decide +kernel
abbrev cX8_init : ByteArray := prog_10_method_1_code
def yX8_init : MethodName := ⟨RX8, "<init>", "()V"⟩
def RX9 : String := "PlaceOfficeModel"
def TX9 : u_T := fun k => match k with
  | _ => ("", "", "", false)
def tyX9 : Nat → FieldType := fun k => match k with
  | _ => .int
def RJx145de : String := "java/io/Serializable"
def TJx145de : u_T := fun k => match k with
  | _ => ("", "", "", false)
def tyJx145de : Nat → FieldType := fun k => match k with
  | _ => .int
def RJ5 : String := "java/lang/AbstractStringBuilder"
def TJ5 : u_T := fun k => match k with
  | _ => ("", "", "", false)
def tyJ5 : Nat → FieldType := fun k => match k with
  | _ => .int
abbrev cJ5_init_d00df : ByteArray := prog_13_method_2_code
def yJ5_init_d00df : MethodName := ⟨RJ5, "<init>", "(I)V"⟩
abbrev cJ5_init_a7421 : ByteArray := prog_13_method_3_code
def yJ5_init_a7421 : MethodName := ⟨RJ5, "<init>", "(Ljava/lang/String;)V"⟩
abbrev cJ5_length_8abf5 : ByteArray := prog_13_method_6_code
def yJ5_length_8abf5 : MethodName := ⟨RJ5, "length", "()I"⟩
abbrev cJ5_ensureCapacityInternal_d00df : ByteArray := prog_13_method_9_code
def yJ5_ensureCapacityInternal_d00df : MethodName := ⟨RJ5, "ensureCapacityInternal", "(I)V"⟩
abbrev cJ5_newCapacity_0f7a4 : ByteArray := prog_13_method_10_code
def yJ5_newCapacity_0f7a4 : MethodName := ⟨RJ5, "newCapacity", "(I)I"⟩
abbrev cJ5_inflate_da8c8 : ByteArray := prog_13_method_11_code
def yJ5_inflate_da8c8 : MethodName := ⟨RJ5, "inflate", "()V"⟩
abbrev cJ5_append_cf1ce : ByteArray := prog_13_method_22_code
def yJ5_append_cf1ce : MethodName := ⟨RJ5, "append", "(Ljava/lang/String;)Ljava/lang/AbstractStringBuilder;"⟩
abbrev cJ5_appendNull_278bc : ByteArray := prog_13_method_26_code
def yJ5_appendNull_278bc : MethodName := ⟨RJ5, "appendNull", "()Ljava/lang/AbstractStringBuilder;"⟩
abbrev cJ5_append_3fe6f : ByteArray := prog_13_method_31_code
def yJ5_append_3fe6f : MethodName := ⟨RJ5, "append", "(C)Ljava/lang/AbstractStringBuilder;"⟩
abbrev cJ5_append_c97b9 : ByteArray := prog_13_method_32_code
def yJ5_append_c97b9 : MethodName := ⟨RJ5, "append", "(I)Ljava/lang/AbstractStringBuilder;"⟩
abbrev cJ5_getValue_6d5f1 : ByteArray := prog_13_method_64_code
def yJ5_getValue_6d5f1 : MethodName := ⟨RJ5, "getValue", "()[B"⟩
abbrev cJ5_isLatin1_aae02 : ByteArray := prog_13_method_68_code
def yJ5_isLatin1_aae02 : MethodName := ⟨RJ5, "isLatin1", "()Z"⟩
abbrev cJ5_inflateIfNeededFor_a7421 : ByteArray := prog_13_method_71_code
def yJ5_inflateIfNeededFor_a7421 : MethodName := ⟨RJ5, "inflateIfNeededFor", "(Ljava/lang/String;)V"⟩
abbrev cJ5_putStringAt_47b60 : ByteArray := prog_13_method_73_code
def yJ5_putStringAt_47b60 : MethodName := ⟨RJ5, "putStringAt", "(ILjava/lang/String;)V"⟩
def RJx2cfe8 : String := "java/lang/Appendable"
def TJx2cfe8 : u_T := fun k => match k with
  | _ => ("", "", "", false)
def tyJx2cfe8 : Nat → FieldType := fun k => match k with
  | _ => .int
def RJx9f9b0 : String := "java/lang/CharSequence"
def TJx9f9b0 : u_T := fun k => match k with
  | _ => ("", "", "", false)
def tyJx9f9b0 : Nat → FieldType := fun k => match k with
  | _ => .int
def RJx8e188 : String := "java/lang/Cloneable"
def TJx8e188 : u_T := fun k => match k with
  | _ => ("", "", "", false)
def tyJx8e188 : Nat → FieldType := fun k => match k with
  | _ => .int
def RJxb160c : String := "java/lang/Comparable"
def TJxb160c : u_T := fun k => match k with
  | _ => ("", "", "", false)
def tyJxb160c : Nat → FieldType := fun k => match k with
  | _ => .int
def RJx29ce0 : String := "java/lang/Enum"
def TJx29ce0 : u_T := fun k => match k with
  | _ => ("", "", "", false)
def tyJx29ce0 : Nat → FieldType := fun k => match k with
  | _ => .int
abbrev cJx29ce0_equals_9ea2d : ByteArray := prog_18_method_5_code
def yJx29ce0_equals_9ea2d : MethodName := ⟨RJx29ce0, "equals", "(Ljava/lang/Object;)Z"⟩
def RJxabbfe : String := "java/lang/Integer$IntegerCache"
def TJxabbfe : u_T := fun k => match k with
  | _ => ("", "", "", false)
def tyJxabbfe : Nat → FieldType := fun k => match k with
  | _ => .int
def RJ6 : String := "java/lang/Integer"
def TJ6 : u_T := fun k => match k with
  | _ => ("java/lang/Integer", "value", "I", true)
def tyJ6 : Nat → FieldType := fun k => match k with
  | _ => .int
theorem nmJ6 : ∀ a, a < 1 → ∀ b, b < 1 → a ≠ b → (TJ6 a).2.1 ≠ (TJ6 b).2.1 := by decide +kernel
theorem tyJ6_ok : ∀ k, k < 1 → parseFieldDescriptor (TJ6 k).2.2.1 = some (tyJ6 k) := by decide +kernel
abbrev cJ6_getChars_ba4f3 : ByteArray := prog_23_method_12_code
def yJ6_getChars_ba4f3 : MethodName := ⟨RJ6, "getChars", "(II[B)I"⟩
abbrev cJ6_stringSize_0f7a4 : ByteArray := prog_23_method_13_code
def yJ6_stringSize_0f7a4 : MethodName := ⟨RJ6, "stringSize", "(I)I"⟩
abbrev cJ6_valueOf_2dffe : ByteArray := prog_23_method_22_code
def yJ6_valueOf_2dffe : MethodName := ⟨RJ6, "valueOf", "(I)Ljava/lang/Integer;"⟩
abbrev cJ6_init_d00df : ByteArray := prog_23_method_23_code
def yJ6_init_d00df : MethodName := ⟨RJ6, "<init>", "(I)V"⟩
abbrev cJ6_intValue_8abf5 : ByteArray := prog_23_method_27_code
def yJ6_intValue_8abf5 : MethodName := ⟨RJ6, "intValue", "()I"⟩
abbrev cJ6_equals_9ea2d : ByteArray := prog_23_method_34_code
def yJ6_equals_9ea2d : MethodName := ⟨RJ6, "equals", "(Ljava/lang/Object;)Z"⟩
def RJxab1ab : String := "java/lang/Iterable"
def TJxab1ab : u_T := fun k => match k with
  | _ => ("", "", "", false)
def tyJxab1ab : Nat → FieldType := fun k => match k with
  | _ => .int
def RJ13 : String := "java/lang/Long"
def TJ13 : u_T := fun k => match k with
  | _ => ("", "", "", false)
def tyJ13 : Nat → FieldType := fun k => match k with
  | _ => .int
abbrev cJ13_bitCount_95d88 : ByteArray := prog_26_method_50_code
def yJ13_bitCount_95d88 : MethodName := ⟨RJ13, "bitCount", "(J)I"⟩
def RJ9 : String := "java/lang/Math"
def TJ9 : u_T := fun k => match k with
  | _ => ("", "", "", false)
def tyJ9 : Nat → FieldType := fun k => match k with
  | _ => .int
abbrev cJ9_max_7cf53 : ByteArray := prog_27_method_65_code
def yJ9_max_7cf53 : MethodName := ⟨RJ9, "max", "(II)I"⟩
abbrev cJ9_min_7cf53 : ByteArray := prog_27_method_69_code
def yJ9_min_7cf53 : MethodName := ⟨RJ9, "min", "(II)I"⟩
def RJxd2413 : String := "java/lang/Number"
def TJxd2413 : u_T := fun k => match k with
  | _ => ("", "", "", false)
def tyJxd2413 : Nat → FieldType := fun k => match k with
  | _ => .int
abbrev cJxd2413_init_da8c8 : ByteArray := prog_28_method_1_code
def yJxd2413_init_da8c8 : MethodName := ⟨RJxd2413, "<init>", "()V"⟩
def RJ0 : String := "java/lang/String"
def TJ0 : u_T := fun k => match k with
  | 0 => ("java/lang/String", "value", "[B", true)
  | 1 => ("java/lang/String", "coder", "B", true)
  | 2 => ("java/lang/String", "hash", "I", false)
  | _ => ("java/lang/String", "hashIsZero", "Z", false)
def tyJ0 : Nat → FieldType := fun k => match k with
  | 0 => .array .byte
  | 1 => .byte
  | 2 => .int
  | _ => .boolean
theorem nmJ0 : ∀ a, a < 4 → ∀ b, b < 4 → a ≠ b → (TJ0 a).2.1 ≠ (TJ0 b).2.1 := by decide +kernel
theorem tyJ0_ok : ∀ k, k < 4 → parseFieldDescriptor (TJ0 k).2.2.1 = some (tyJ0 k) := by decide +kernel
abbrev cJ0_init_81219 : ByteArray := prog_30_method_53_code
def yJ0_init_81219 : MethodName := ⟨RJ0, "<init>", "(Ljava/lang/StringBuilder;)V"⟩
abbrev cJ0_length_8abf5 : ByteArray := prog_30_method_54_code
def yJ0_length_8abf5 : MethodName := ⟨RJ0, "length", "()I"⟩
abbrev cJ0_charAt_5068e : ByteArray := prog_30_method_56_code
def yJ0_charAt_5068e : MethodName := ⟨RJ0, "charAt", "(I)C"⟩
abbrev cJ0_equals_9ea2d : ByteArray := prog_30_method_66_code
def yJ0_equals_9ea2d : MethodName := ⟨RJ0, "equals", "(Ljava/lang/Object;)Z"⟩
abbrev cJ0_getBytes_840e7 : ByteArray := prog_30_method_147_code
def yJ0_getBytes_840e7 : MethodName := ⟨RJ0, "getBytes", "([BIB)V"⟩
abbrev cJ0_init_db425 : ByteArray := prog_30_method_150_code
def yJ0_init_db425 : MethodName := ⟨RJ0, "<init>", "(Ljava/lang/AbstractStringBuilder;Ljava/lang/Void;)V"⟩
abbrev cJ0_coder_7d493 : ByteArray := prog_30_method_152_code
def yJ0_coder_7d493 : MethodName := ⟨RJ0, "coder", "()B"⟩
abbrev cJ0_isLatin1_aae02 : ByteArray := prog_30_method_154_code
def yJ0_isLatin1_aae02 : MethodName := ⟨RJ0, "isLatin1", "()Z"⟩
abbrev cJ0_checkIndex_df160 : ByteArray := prog_30_method_155_code
def yJ0_checkIndex_df160 : MethodName := ⟨RJ0, "checkIndex", "(II)V"⟩
abbrev cJ0_checkBoundsOffCount_cabcc : ByteArray := prog_30_method_157_code
def yJ0_checkBoundsOffCount_cabcc : MethodName := ⟨RJ0, "checkBoundsOffCount", "(III)I"⟩
abbrev cJ0_checkBoundsBeginEnd_23922 : ByteArray := prog_30_method_158_code
def yJ0_checkBoundsBeginEnd_23922 : MethodName := ⟨RJ0, "checkBoundsBeginEnd", "(III)V"⟩
def RJ4 : String := "java/lang/StringBuilder"
def TJ4 : u_T := fun k => match k with
  | 0 => ("java/lang/AbstractStringBuilder", "value", "[B", false)
  | 1 => ("java/lang/AbstractStringBuilder", "coder", "B", false)
  | 2 => ("java/lang/AbstractStringBuilder", "maybeLatin1", "Z", false)
  | _ => ("java/lang/AbstractStringBuilder", "count", "I", false)
def tyJ4 : Nat → FieldType := fun k => match k with
  | 0 => .array .byte
  | 1 => .byte
  | 2 => .boolean
  | _ => .int
theorem nmJ4 : ∀ a, a < 4 → ∀ b, b < 4 → a ≠ b → (TJ4 a).2.1 ≠ (TJ4 b).2.1 := by decide +kernel
theorem tyJ4_ok : ∀ k, k < 4 → parseFieldDescriptor (TJ4 k).2.2.1 = some (tyJ4 k) := by decide +kernel
abbrev cJ4_init_da8c8 : ByteArray := prog_31_method_1_code
def yJ4_init_da8c8 : MethodName := ⟨RJ4, "<init>", "()V"⟩
abbrev cJ4_init_a7421 : ByteArray := prog_31_method_3_code
def yJ4_init_a7421 : MethodName := ⟨RJ4, "<init>", "(Ljava/lang/String;)V"⟩
abbrev cJ4_append_15ec4 : ByteArray := prog_31_method_7_code
def yJ4_append_15ec4 : MethodName := ⟨RJ4, "append", "(Ljava/lang/String;)Ljava/lang/StringBuilder;"⟩
abbrev cJ4_append_cf468 : ByteArray := prog_31_method_14_code
def yJ4_append_cf468 : MethodName := ⟨RJ4, "append", "(C)Ljava/lang/StringBuilder;"⟩
abbrev cJ4_append_bf812 : ByteArray := prog_31_method_15_code
def yJ4_append_bf812 : MethodName := ⟨RJ4, "append", "(I)Ljava/lang/StringBuilder;"⟩
abbrev cJ4_toString_0e30d : ByteArray := prog_31_method_42_code
def yJ4_toString_0e30d : MethodName := ⟨RJ4, "toString", "()Ljava/lang/String;"⟩
abbrev cJ4_append_cf1ce : ByteArray := prog_31_method_80_code
def yJ4_append_cf1ce : MethodName := ⟨RJ4, "append", "(Ljava/lang/String;)Ljava/lang/AbstractStringBuilder;"⟩
abbrev cJ4_length_8abf5 : ByteArray := prog_31_method_93_code
def yJ4_length_8abf5 : MethodName := ⟨RJ4, "length", "()I"⟩
def RJ1 : String := "java/lang/StringLatin1"
def TJ1 : u_T := fun k => match k with
  | _ => ("", "", "", false)
def tyJ1 : Nat → FieldType := fun k => match k with
  | _ => .int
abbrev cJ1_charAt_3b067 : ByteArray := prog_32_method_2_code
def yJ1_charAt_3b067 : MethodName := ⟨RJ1, "charAt", "([BI)C"⟩
abbrev cJ1_canEncode_fc78d : ByteArray := prog_32_method_3_code
def yJ1_canEncode_fc78d : MethodName := ⟨RJ1, "canEncode", "(C)Z"⟩
abbrev cJ1_equals_b5fdf : ByteArray := prog_32_method_13_code
def yJ1_equals_b5fdf : MethodName := ⟨RJ1, "equals", "([B[B)Z"⟩
abbrev cJ1_inflate_0e8fd : ByteArray := prog_32_method_50_code
def yJ1_inflate_0e8fd : MethodName := ⟨RJ1, "inflate", "([BI[BII)V"⟩
def RJ2 : String := "java/lang/StringUTF16"
def TJ2 : u_T := fun k => match k with
  | _ => ("", "", "", false)
def tyJ2 : Nat → FieldType := fun k => match k with
  | _ => .int
abbrev cJ2_newBytesFor_77867 : ByteArray := prog_33_method_2_code
def yJ2_newBytesFor_77867 : MethodName := ⟨RJ2, "newBytesFor", "(I)[B"⟩
abbrev cJ2_newBytesLength_0f7a4 : ByteArray := prog_33_method_3_code
def yJ2_newBytesLength_0f7a4 : MethodName := ⟨RJ2, "newBytesLength", "(I)I"⟩
abbrev cJ2_putChar_b72d1 : ByteArray := prog_33_method_4_code
def yJ2_putChar_b72d1 : MethodName := ⟨RJ2, "putChar", "([BII)V"⟩
abbrev cJ2_getChar_3b067 : ByteArray := prog_33_method_5_code
def yJ2_getChar_3b067 : MethodName := ⟨RJ2, "getChar", "([BI)C"⟩
abbrev cJ2_length_9d52b : ByteArray := prog_33_method_6_code
def yJ2_length_9d52b : MethodName := ⟨RJ2, "length", "([B)I"⟩
abbrev cJ2_coderFromArrayLen_85cad : ByteArray := prog_33_method_15_code
def yJ2_coderFromArrayLen_85cad : MethodName := ⟨RJ2, "coderFromArrayLen", "([BI)B"⟩
abbrev cJ2_compress_39247 : ByteArray := prog_33_method_17_code
def yJ2_compress_39247 : MethodName := ⟨RJ2, "compress", "([BII)[B"⟩
abbrev cJ2_compress_5af95 : ByteArray := prog_33_method_22_code
def yJ2_compress_5af95 : MethodName := ⟨RJ2, "compress", "([BI[BII)I"⟩
abbrev cJ2_putCharSB_b72d1 : ByteArray := prog_33_method_71_code
def yJ2_putCharSB_b72d1 : MethodName := ⟨RJ2, "putCharSB", "([BII)V"⟩
abbrev cJ2_getChars_46870 : ByteArray := prog_33_method_77_code
def yJ2_getChars_46870 : MethodName := ⟨RJ2, "getChars", "(III[B)I"⟩
abbrev cJ2_putCharsAt_cd4e5 : ByteArray := prog_33_method_81_code
def yJ2_putCharsAt_cd4e5 : MethodName := ⟨RJ2, "putCharsAt", "([BICCCC)I"⟩
abbrev cJ2_charAt_3b067 : ByteArray := prog_33_method_83_code
def yJ2_charAt_3b067 : MethodName := ⟨RJ2, "charAt", "([BI)C"⟩
abbrev cJ2_inflate_0e8fd : ByteArray := prog_33_method_86_code
def yJ2_inflate_0e8fd : MethodName := ⟨RJ2, "inflate", "([BI[BII)V"⟩
abbrev cJ2_getChars_ba4f3 : ByteArray := prog_33_method_89_code
def yJ2_getChars_ba4f3 : MethodName := ⟨RJ2, "getChars", "(II[B)I"⟩
abbrev cJ2_checkIndex_2214a : ByteArray := prog_33_method_91_code
def yJ2_checkIndex_2214a : MethodName := ⟨RJ2, "checkIndex", "(I[B)V"⟩
abbrev cJ2_checkBoundsBeginEnd_d044e : ByteArray := prog_33_method_93_code
def yJ2_checkBoundsBeginEnd_d044e : MethodName := ⟨RJ2, "checkBoundsBeginEnd", "(II[B)V"⟩
abbrev cJ2_checkBoundsOffCount_d044e : ByteArray := prog_33_method_94_code
def yJ2_checkBoundsOffCount_d044e : MethodName := ⟨RJ2, "checkBoundsOffCount", "(II[B)V"⟩
def RJ10 : String := "java/lang/System"
def TJ10 : u_T := fun k => match k with
  | _ => ("", "", "", false)
def tyJ10 : Nat → FieldType := fun k => match k with
  | _ => .int
def RJxfd54e : String := "java/lang/constant/Constable"
def TJxfd54e : u_T := fun k => match k with
  | _ => ("", "", "", false)
def tyJxfd54e : Nat → FieldType := fun k => match k with
  | _ => .int
def RJx3cf43 : String := "java/lang/constant/ConstantDesc"
def TJx3cf43 : u_T := fun k => match k with
  | _ => ("", "", "", false)
def tyJx3cf43 : Nat → FieldType := fun k => match k with
  | _ => .int
def RJxa1e45 : String := "java/util/AbstractCollection"
def TJxa1e45 : u_T := fun k => match k with
  | _ => ("", "", "", false)
def tyJxa1e45 : Nat → FieldType := fun k => match k with
  | _ => .int
abbrev cJxa1e45_init_da8c8 : ByteArray := prog_38_method_1_code
def yJxa1e45_init_da8c8 : MethodName := ⟨RJxa1e45, "<init>", "()V"⟩
abbrev cJxa1e45_isEmpty_aae02 : ByteArray := prog_38_method_4_code
def yJxa1e45_isEmpty_aae02 : MethodName := ⟨RJxa1e45, "isEmpty", "()Z"⟩
def RJx8005f : String := "java/util/AbstractList$Itr"
def TJx8005f : u_T := fun k => match k with
  | _ => ("", "", "", false)
def tyJx8005f : Nat → FieldType := fun k => match k with
  | _ => .int
abbrev cJx8005f_hasNext_aae02 : ByteArray := prog_40_method_2_code
def yJx8005f_hasNext_aae02 : MethodName := ⟨RJx8005f, "hasNext", "()Z"⟩
abbrev cJx8005f_next_0502b : ByteArray := prog_40_method_3_code
def yJx8005f_next_0502b : MethodName := ⟨RJx8005f, "next", "()Ljava/lang/Object;"⟩
abbrev cJx8005f_checkForComodification_da8c8 : ByteArray := prog_40_method_5_code
def yJx8005f_checkForComodification_da8c8 : MethodName := ⟨RJx8005f, "checkForComodification", "()V"⟩
def RJxd8c48 : String := "java/util/AbstractList$ListItr"
def TJxd8c48 : u_T := fun k => match k with
  | _ => ("", "", "", false)
def tyJxd8c48 : Nat → FieldType := fun k => match k with
  | _ => .int
def RJxc12de : String := "java/util/AbstractList"
def TJxc12de : u_T := fun k => match k with
  | _ => ("", "", "", false)
def tyJxc12de : Nat → FieldType := fun k => match k with
  | _ => .int
abbrev cJxc12de_init_da8c8 : ByteArray := prog_39_method_1_code
def yJxc12de_init_da8c8 : MethodName := ⟨RJxc12de, "<init>", "()V"⟩
abbrev cJxc12de_add_9ea2d : ByteArray := prog_39_method_2_code
def yJxc12de_add_9ea2d : MethodName := ⟨RJxc12de, "add", "(Ljava/lang/Object;)Z"⟩
abbrev cJxc12de_listIterator_b82c4 : ByteArray := prog_39_method_12_code
def yJxc12de_listIterator_b82c4 : MethodName := ⟨RJxc12de, "listIterator", "()Ljava/util/ListIterator;"⟩
abbrev cJxc12de_subListRangeCheck_23922 : ByteArray := prog_39_method_15_code
def yJxc12de_subListRangeCheck_23922 : MethodName := ⟨RJxc12de, "subListRangeCheck", "(III)V"⟩
def RJx35411 : String := "java/util/ArrayList$Itr"
def TJx35411 : u_T := fun k => match k with
  | 0 => ("java/util/ArrayList$Itr", "cursor", "I", false)
  | 1 => ("java/util/ArrayList$Itr", "lastRet", "I", false)
  | 2 => ("java/util/ArrayList$Itr", "expectedModCount", "I", false)
  | _ => ("java/util/ArrayList$Itr", "this$0", "Ljava/util/ArrayList;", true)
def tyJx35411 : Nat → FieldType := fun k => match k with
  | 0 => .int
  | 1 => .int
  | 2 => .int
  | _ => .object "java/util/ArrayList"
theorem nmJx35411 : ∀ a, a < 4 → ∀ b, b < 4 → a ≠ b → (TJx35411 a).2.1 ≠ (TJx35411 b).2.1 := by decide +kernel
theorem tyJx35411_ok : ∀ k, k < 4 → parseFieldDescriptor (TJx35411 k).2.2.1 = some (tyJx35411 k) := by decide +kernel
abbrev cJx35411_init_45d68 : ByteArray := prog_43_method_1_code
def yJx35411_init_45d68 : MethodName := ⟨RJx35411, "<init>", "(Ljava/util/ArrayList;)V"⟩
abbrev cJx35411_hasNext_aae02 : ByteArray := prog_43_method_2_code
def yJx35411_hasNext_aae02 : MethodName := ⟨RJx35411, "hasNext", "()Z"⟩
abbrev cJx35411_next_0502b : ByteArray := prog_43_method_3_code
def yJx35411_next_0502b : MethodName := ⟨RJx35411, "next", "()Ljava/lang/Object;"⟩
abbrev cJx35411_checkForComodification_da8c8 : ByteArray := prog_43_method_6_code
def yJx35411_checkForComodification_da8c8 : MethodName := ⟨RJx35411, "checkForComodification", "()V"⟩
def RJx8ef59 : String := "java/util/ArrayList$ListItr"
def TJx8ef59 : u_T := fun k => match k with
  | 0 => ("java/util/ArrayList$Itr", "cursor", "I", false)
  | 1 => ("java/util/ArrayList$Itr", "lastRet", "I", false)
  | 2 => ("java/util/ArrayList$Itr", "expectedModCount", "I", false)
  | 3 => ("java/util/ArrayList$Itr", "this$0", "Ljava/util/ArrayList;", true)
  | _ => ("java/util/ArrayList$ListItr", "this$0", "Ljava/util/ArrayList;", true)
def tyJx8ef59 : Nat → FieldType := fun k => match k with
  | 0 => .int
  | 1 => .int
  | 2 => .int
  | 3 => .object "java/util/ArrayList"
  | _ => .object "java/util/ArrayList"
abbrev cJx8ef59_init_b38b6 : ByteArray := prog_44_method_1_code
def yJx8ef59_init_b38b6 : MethodName := ⟨RJx8ef59, "<init>", "(Ljava/util/ArrayList;I)V"⟩
def RJx36abd : String := "java/util/ArrayList$SubList$1"
def TJx36abd : u_T := fun k => match k with
  | 0 => ("java/util/ArrayList$SubList$1", "cursor", "I", false)
  | 1 => ("java/util/ArrayList$SubList$1", "lastRet", "I", false)
  | 2 => ("java/util/ArrayList$SubList$1", "expectedModCount", "I", false)
  | 3 => ("java/util/ArrayList$SubList$1", "val$index", "I", true)
  | _ => ("java/util/ArrayList$SubList$1", "this$0", "Ljava/util/ArrayList$SubList;", true)
def tyJx36abd : Nat → FieldType := fun k => match k with
  | 0 => .int
  | 1 => .int
  | 2 => .int
  | 3 => .int
  | _ => .object "java/util/ArrayList$SubList"
abbrev cJx36abd_init_f1156 : ByteArray := prog_46_method_1_code
def yJx36abd_init_f1156 : MethodName := ⟨RJx36abd, "<init>", "(Ljava/util/ArrayList$SubList;I)V"⟩
abbrev cJx36abd_hasNext_aae02 : ByteArray := prog_46_method_2_code
def yJx36abd_hasNext_aae02 : MethodName := ⟨RJx36abd, "hasNext", "()Z"⟩
abbrev cJx36abd_next_0502b : ByteArray := prog_46_method_3_code
def yJx36abd_next_0502b : MethodName := ⟨RJx36abd, "next", "()Ljava/lang/Object;"⟩
abbrev cJx36abd_checkForComodification_da8c8 : ByteArray := prog_46_method_12_code
def yJx36abd_checkForComodification_da8c8 : MethodName := ⟨RJx36abd, "checkForComodification", "()V"⟩
def RJxc9f04 : String := "java/util/ArrayList$SubList"
def TJxc9f04 : u_T := fun k => match k with
  | 0 => ("java/util/AbstractList", "modCount", "I", false)
  | 1 => ("java/util/ArrayList$SubList", "root", "Ljava/util/ArrayList;", true)
  | 2 => ("java/util/ArrayList$SubList", "parent", "Ljava/util/ArrayList$SubList;", true)
  | 3 => ("java/util/ArrayList$SubList", "offset", "I", true)
  | _ => ("java/util/ArrayList$SubList", "size", "I", false)
def tyJxc9f04 : Nat → FieldType := fun k => match k with
  | 0 => .int
  | 1 => .object "java/util/ArrayList"
  | 2 => .object "java/util/ArrayList$SubList"
  | 3 => .int
  | _ => .int
theorem nmJxc9f04 : ∀ a, a < 5 → ∀ b, b < 5 → a ≠ b → (TJxc9f04 a).2.1 ≠ (TJxc9f04 b).2.1 := by decide +kernel
theorem tyJxc9f04_ok : ∀ k, k < 5 → parseFieldDescriptor (TJxc9f04 k).2.2.1 = some (tyJxc9f04 k) := by decide +kernel
abbrev cJxc9f04_init_1a8f5 : ByteArray := prog_45_method_1_code
def yJxc9f04_init_1a8f5 : MethodName := ⟨RJxc9f04, "<init>", "(Ljava/util/ArrayList;II)V"⟩
abbrev cJxc9f04_init_541cf : ByteArray := prog_45_method_2_code
def yJxc9f04_init_541cf : MethodName := ⟨RJxc9f04, "<init>", "(Ljava/util/ArrayList$SubList;II)V"⟩
abbrev cJxc9f04_get_915e3 : ByteArray := prog_45_method_4_code
def yJxc9f04_get_915e3 : MethodName := ⟨RJxc9f04, "get", "(I)Ljava/lang/Object;"⟩
abbrev cJxc9f04_size_8abf5 : ByteArray := prog_45_method_5_code
def yJxc9f04_size_8abf5 : MethodName := ⟨RJxc9f04, "size", "()I"⟩
abbrev cJxc9f04_add_7a177 : ByteArray := prog_45_method_6_code
def yJxc9f04_add_7a177 : MethodName := ⟨RJxc9f04, "add", "(ILjava/lang/Object;)V"⟩
abbrev cJxc9f04_remove_915e3 : ByteArray := prog_45_method_7_code
def yJxc9f04_remove_915e3 : MethodName := ⟨RJxc9f04, "remove", "(I)Ljava/lang/Object;"⟩
abbrev cJxc9f04_toArray_d5877 : ByteArray := prog_45_method_16_code
def yJxc9f04_toArray_d5877 : MethodName := ⟨RJxc9f04, "toArray", "()[Ljava/lang/Object;"⟩
abbrev cJxc9f04_indexOf_e47da : ByteArray := prog_45_method_20_code
def yJxc9f04_indexOf_e47da : MethodName := ⟨RJxc9f04, "indexOf", "(Ljava/lang/Object;)I"⟩
abbrev cJxc9f04_contains_9ea2d : ByteArray := prog_45_method_22_code
def yJxc9f04_contains_9ea2d : MethodName := ⟨RJxc9f04, "contains", "(Ljava/lang/Object;)Z"⟩
abbrev cJxc9f04_iterator_32c93 : ByteArray := prog_45_method_23_code
def yJxc9f04_iterator_32c93 : MethodName := ⟨RJxc9f04, "iterator", "()Ljava/util/Iterator;"⟩
abbrev cJxc9f04_listIterator_a2236 : ByteArray := prog_45_method_24_code
def yJxc9f04_listIterator_a2236 : MethodName := ⟨RJxc9f04, "listIterator", "(I)Ljava/util/ListIterator;"⟩
abbrev cJxc9f04_subList_8a2a7 : ByteArray := prog_45_method_25_code
def yJxc9f04_subList_8a2a7 : MethodName := ⟨RJxc9f04, "subList", "(II)Ljava/util/List;"⟩
abbrev cJxc9f04_rangeCheckForAdd_d00df : ByteArray := prog_45_method_26_code
def yJxc9f04_rangeCheckForAdd_d00df : MethodName := ⟨RJxc9f04, "rangeCheckForAdd", "(I)V"⟩
abbrev cJxc9f04_checkForComodification_da8c8 : ByteArray := prog_45_method_28_code
def yJxc9f04_checkForComodification_da8c8 : MethodName := ⟨RJxc9f04, "checkForComodification", "()V"⟩
abbrev cJxc9f04_updateSizeAndModCount_d00df : ByteArray := prog_45_method_29_code
def yJxc9f04_updateSizeAndModCount_d00df : MethodName := ⟨RJxc9f04, "updateSizeAndModCount", "(I)V"⟩
def RJx4a65c : String := "java/util/ArrayList"
def TJx4a65c : u_T := fun k => match k with
  | 0 => ("java/util/AbstractList", "modCount", "I", false)
  | 1 => ("java/util/ArrayList", "elementData", "[Ljava/lang/Object;", false)
  | _ => ("java/util/ArrayList", "size", "I", false)
def tyJx4a65c : Nat → FieldType := fun k => match k with
  | 0 => .int
  | 1 => .array (.object "java/lang/Object")
  | _ => .int
theorem nmJx4a65c : ∀ a, a < 3 → ∀ b, b < 3 → a ≠ b → (TJx4a65c a).2.1 ≠ (TJx4a65c b).2.1 := by decide +kernel
theorem tyJx4a65c_ok : ∀ k, k < 3 → parseFieldDescriptor (TJx4a65c k).2.2.1 = some (tyJx4a65c k) := by decide +kernel
abbrev cJx4a65c_init_da8c8 : ByteArray := prog_42_method_2_code
def yJx4a65c_init_da8c8 : MethodName := ⟨RJx4a65c, "<init>", "()V"⟩
abbrev cJx4a65c_init_4bcb3 : ByteArray := prog_42_method_3_code
def yJx4a65c_init_4bcb3 : MethodName := ⟨RJx4a65c, "<init>", "(Ljava/util/Collection;)V"⟩
abbrev cJx4a65c_grow_92f84 : ByteArray := prog_42_method_6_code
def yJx4a65c_grow_92f84 : MethodName := ⟨RJx4a65c, "grow", "(I)[Ljava/lang/Object;"⟩
abbrev cJx4a65c_grow_d5877 : ByteArray := prog_42_method_7_code
def yJx4a65c_grow_d5877 : MethodName := ⟨RJx4a65c, "grow", "()[Ljava/lang/Object;"⟩
abbrev cJx4a65c_size_8abf5 : ByteArray := prog_42_method_8_code
def yJx4a65c_size_8abf5 : MethodName := ⟨RJx4a65c, "size", "()I"⟩
abbrev cJx4a65c_isEmpty_aae02 : ByteArray := prog_42_method_9_code
def yJx4a65c_isEmpty_aae02 : MethodName := ⟨RJx4a65c, "isEmpty", "()Z"⟩
abbrev cJx4a65c_contains_9ea2d : ByteArray := prog_42_method_10_code
def yJx4a65c_contains_9ea2d : MethodName := ⟨RJx4a65c, "contains", "(Ljava/lang/Object;)Z"⟩
abbrev cJx4a65c_indexOf_e47da : ByteArray := prog_42_method_11_code
def yJx4a65c_indexOf_e47da : MethodName := ⟨RJx4a65c, "indexOf", "(Ljava/lang/Object;)I"⟩
abbrev cJx4a65c_indexOfRange_bf822 : ByteArray := prog_42_method_12_code
def yJx4a65c_indexOfRange_bf822 : MethodName := ⟨RJx4a65c, "indexOfRange", "(Ljava/lang/Object;II)I"⟩
abbrev cJx4a65c_toArray_d5877 : ByteArray := prog_42_method_16_code
def yJx4a65c_toArray_d5877 : MethodName := ⟨RJx4a65c, "toArray", "()[Ljava/lang/Object;"⟩
abbrev cJx4a65c_elementData_915e3 : ByteArray := prog_42_method_18_code
def yJx4a65c_elementData_915e3 : MethodName := ⟨RJx4a65c, "elementData", "(I)Ljava/lang/Object;"⟩
abbrev cJx4a65c_get_915e3 : ByteArray := prog_42_method_20_code
def yJx4a65c_get_915e3 : MethodName := ⟨RJx4a65c, "get", "(I)Ljava/lang/Object;"⟩
abbrev cJx4a65c_add_72be8 : ByteArray := prog_42_method_24_code
def yJx4a65c_add_72be8 : MethodName := ⟨RJx4a65c, "add", "(Ljava/lang/Object;[Ljava/lang/Object;I)V"⟩
abbrev cJx4a65c_add_9ea2d : ByteArray := prog_42_method_25_code
def yJx4a65c_add_9ea2d : MethodName := ⟨RJx4a65c, "add", "(Ljava/lang/Object;)Z"⟩
abbrev cJx4a65c_add_7a177 : ByteArray := prog_42_method_26_code
def yJx4a65c_add_7a177 : MethodName := ⟨RJx4a65c, "add", "(ILjava/lang/Object;)V"⟩
abbrev cJx4a65c_remove_915e3 : ByteArray := prog_42_method_29_code
def yJx4a65c_remove_915e3 : MethodName := ⟨RJx4a65c, "remove", "(I)Ljava/lang/Object;"⟩
abbrev cJx4a65c_fastRemove_b59b0 : ByteArray := prog_42_method_39_code
def yJx4a65c_fastRemove_b59b0 : MethodName := ⟨RJx4a65c, "fastRemove", "([Ljava/lang/Object;I)V"⟩
abbrev cJx4a65c_rangeCheckForAdd_d00df : ByteArray := prog_42_method_45_code
def yJx4a65c_rangeCheckForAdd_d00df : MethodName := ⟨RJx4a65c, "rangeCheckForAdd", "(I)V"⟩
abbrev cJx4a65c_listIterator_a2236 : ByteArray := prog_42_method_53_code
def yJx4a65c_listIterator_a2236 : MethodName := ⟨RJx4a65c, "listIterator", "(I)Ljava/util/ListIterator;"⟩
abbrev cJx4a65c_iterator_32c93 : ByteArray := prog_42_method_55_code
def yJx4a65c_iterator_32c93 : MethodName := ⟨RJx4a65c, "iterator", "()Ljava/util/Iterator;"⟩
abbrev cJx4a65c_subList_8a2a7 : ByteArray := prog_42_method_56_code
def yJx4a65c_subList_8a2a7 : MethodName := ⟨RJx4a65c, "subList", "(II)Ljava/util/List;"⟩
def RJ7 : String := "java/util/Arrays"
def TJ7 : u_T := fun k => match k with
  | _ => ("", "", "", false)
def tyJ7 : Nat → FieldType := fun k => match k with
  | _ => .int
abbrev cJ7_fill_53178 : ByteArray := prog_47_method_103_code
def yJ7_fill_53178 : MethodName := ⟨RJ7, "fill", "([II)V"⟩
abbrev cJ7_copyOf_1904c : ByteArray := prog_47_method_119_code
def yJ7_copyOf_1904c : MethodName := ⟨RJ7, "copyOf", "([Ljava/lang/Object;I)[Ljava/lang/Object;"⟩
abbrev cJ7_copyOf_6403c : ByteArray := prog_47_method_120_code
def yJ7_copyOf_6403c : MethodName := ⟨RJ7, "copyOf", "([Ljava/lang/Object;ILjava/lang/Class;)[Ljava/lang/Object;"⟩
abbrev cJ7_copyOf_9075b : ByteArray := prog_47_method_121_code
def yJ7_copyOf_9075b : MethodName := ⟨RJ7, "copyOf", "([BI)[B"⟩
abbrev cJ7_copyOfRange_5a381 : ByteArray := prog_47_method_129_code
def yJ7_copyOfRange_5a381 : MethodName := ⟨RJ7, "copyOfRange", "([Ljava/lang/Object;II)[Ljava/lang/Object;"⟩
abbrev cJ7_copyOfRange_31eb6 : ByteArray := prog_47_method_130_code
def yJ7_copyOfRange_31eb6 : MethodName := ⟨RJ7, "copyOfRange", "([Ljava/lang/Object;IILjava/lang/Class;)[Ljava/lang/Object;"⟩
abbrev cJ7_checkLength_df160 : ByteArray := prog_47_method_131_code
def yJ7_checkLength_df160 : MethodName := ⟨RJ7, "checkLength", "(II)V"⟩
abbrev cJ7_copyOfRange_39247 : ByteArray := prog_47_method_132_code
def yJ7_copyOfRange_39247 : MethodName := ⟨RJ7, "copyOfRange", "([BII)[B"⟩
abbrev cJ7_copyOfRangeByte_39247 : ByteArray := prog_47_method_133_code
def yJ7_copyOfRangeByte_39247 : MethodName := ⟨RJ7, "copyOfRangeByte", "([BII)[B"⟩
def RJx5ef63 : String := "java/util/Collection"
def TJx5ef63 : u_T := fun k => match k with
  | _ => ("", "", "", false)
def tyJx5ef63 : Nat → FieldType := fun k => match k with
  | _ => .int
def RJx4d0d8 : String := "java/util/Iterator"
def TJx4d0d8 : u_T := fun k => match k with
  | _ => ("", "", "", false)
def tyJx4d0d8 : Nat → FieldType := fun k => match k with
  | _ => .int
def RJxbd725 : String := "java/util/List"
def TJxbd725 : u_T := fun k => match k with
  | _ => ("", "", "", false)
def tyJxbd725 : Nat → FieldType := fun k => match k with
  | _ => .int
def RJxdb728 : String := "java/util/ListIterator"
def TJxdb728 : u_T := fun k => match k with
  | _ => ("", "", "", false)
def tyJxdb728 : Nat → FieldType := fun k => match k with
  | _ => .int
def RJ15 : String := "java/util/Objects"
def TJ15 : u_T := fun k => match k with
  | _ => ("", "", "", false)
def tyJ15 : Nat → FieldType := fun k => match k with
  | _ => .int
abbrev cJ15_checkIndex_7cf53 : ByteArray := prog_53_method_17_code
def yJ15_checkIndex_7cf53 : MethodName := ⟨RJ15, "checkIndex", "(II)I"⟩
def RJxf0a74 : String := "java/util/RandomAccess"
def TJxf0a74 : u_T := fun k => match k with
  | _ => ("", "", "", false)
def tyJxf0a74 : Nat → FieldType := fun k => match k with
  | _ => .int
def RJxa66e6 : String := "java/util/SequencedCollection"
def TJxa66e6 : u_T := fun k => match k with
  | _ => ("", "", "", false)
def tyJxa66e6 : Nat → FieldType := fun k => match k with
  | _ => .int
def RJ8 : String := "jdk/internal/util/ArraysSupport"
def TJ8 : u_T := fun k => match k with
  | _ => ("", "", "", false)
def tyJ8 : Nat → FieldType := fun k => match k with
  | _ => .int
abbrev cJ8_newLength_cabcc : ByteArray := prog_56_method_27_code
def yJ8_newLength_cabcc : MethodName := ⟨RJ8, "newLength", "(III)I"⟩
abbrev cJ8_hugeLength_7cf53 : ByteArray := prog_56_method_28_code
def yJ8_hugeLength_7cf53 : MethodName := ⟨RJ8, "hugeLength", "(II)I"⟩
def RJ3 : String := "jdk/internal/util/Preconditions"
def TJ3 : u_T := fun k => match k with
  | _ => ("", "", "", false)
def tyJ3 : Nat → FieldType := fun k => match k with
  | _ => .int
abbrev cJ3_checkIndex_8e157 : ByteArray := prog_57_method_11_code
def yJ3_checkIndex_8e157 : MethodName := ⟨RJ3, "checkIndex", "(IILjava/util/function/BiFunction;)I"⟩
abbrev cJ3_checkFromToIndex_8c36e : ByteArray := prog_57_method_12_code
def yJ3_checkFromToIndex_8c36e : MethodName := ⟨RJ3, "checkFromToIndex", "(IIILjava/util/function/BiFunction;)I"⟩
abbrev cJ3_checkFromIndexSize_8c36e : ByteArray := prog_57_method_13_code
def yJ3_checkFromIndexSize_8c36e : MethodName := ⟨RJ3, "checkFromIndexSize", "(IIILjava/util/function/BiFunction;)I"⟩
def RL : String := "PlaceOfficeLaw"
def TL : u_T := fun k => match k with
  | 0 => ("PlaceOfficeLaw", "schools", "Ljava/util/List;", true)
  | 1 => ("PlaceOfficeLaw", "children", "Ljava/util/List;", true)
  | 2 => ("PlaceOfficeLaw", "appeals", "I", true)
  | 3 => ("PlaceOfficeLaw", "seed", "I", true)
  | 4 => ("PlaceOfficeLaw", "state", "I", false)
  | 5 => ("PlaceOfficeLaw", "late", "I", false)
  | 6 => ("PlaceOfficeLaw", "filled", "I", false)
  | _ => ("PlaceOfficeLaw", "isAllocated", "Z", false)
def tyL : Nat → FieldType := fun k => match k with
  | 0 => .object "java/util/List"
  | 1 => .object "java/util/List"
  | 2 => .int
  | 3 => .int
  | 4 => .int
  | 5 => .int
  | 6 => .int
  | _ => .boolean
theorem nmL : ∀ a, a < 8 → ∀ b, b < 8 → a ≠ b → (TL a).2.1 ≠ (TL b).2.1 := by decide +kernel
theorem tyL_ok : ∀ k, k < 8 → parseFieldDescriptor (TL k).2.2.1 = some (tyL k) := by decide +kernel
abbrev cL_cell : ByteArray := method_1_code
def yL_cell : MethodName := ⟨RL, "cell", "([II)I"⟩
abbrev cL_bits : ByteArray := method_2_code
def yL_bits : MethodName := ⟨RL, "bits", "(III)I"⟩
abbrev cL_told : ByteArray := method_3_code
def yL_told : MethodName := ⟨RL, "told", "(LPlaceOffice;Ljava/lang/String;)V"⟩
abbrev cL_init : ByteArray := method_4_code
def yL_init : MethodName := ⟨RL, "<init>", "([I)V"⟩
abbrev cL_add : ByteArray := method_5_code
def yL_add : MethodName := ⟨RL, "add", "(I)LPlaceOfficeLaw$Child;"⟩
abbrev cL_text : ByteArray := method_6_code
def yL_text : MethodName := ⟨RL, "text", "()Ljava/lang/String;"⟩
abbrev cL_meets : ByteArray := method_7_code
def yL_meets : MethodName := ⟨RL, "meets", "(LPlaceOfficeLaw$Child;LPlaceOfficeLaw$School;I)Z"⟩
abbrev cL_rank : ByteArray := method_8_code
def yL_rank : MethodName := ⟨RL, "rank", "(LPlaceOfficeLaw$Child;LPlaceOfficeLaw$School;)J"⟩
abbrev cL_sorted : ByteArray := method_9_code
def yL_sorted : MethodName := ⟨RL, "sorted", "(Ljava/util/List;LPlaceOfficeLaw$School;)Ljava/util/List;"⟩
abbrev cL_holders : ByteArray := method_10_code
def yL_holders : MethodName := ⟨RL, "holders", "(LPlaceOfficeLaw$School;)Ljava/util/List;"⟩
abbrev cL_waiting : ByteArray := method_11_code
def yL_waiting : MethodName := ⟨RL, "waiting", "(LPlaceOfficeLaw$School;)Ljava/util/List;"⟩
abbrev cL_waits : ByteArray := method_12_code
def yL_waits : MethodName := ⟨RL, "waits", "(LPlaceOfficeLaw$Child;LPlaceOfficeLaw$School;)Z"⟩
abbrev cL_allocate : ByteArray := method_13_code
def yL_allocate : MethodName := ⟨RL, "allocate", "()V"⟩
abbrev cL_fill : ByteArray := method_14_code
def yL_fill : MethodName := ⟨RL, "fill", "()V"⟩
abbrev cL_hasClaim : ByteArray := method_15_code
def yL_hasClaim : MethodName := ⟨RL, "hasClaim", "(LPlaceOfficeLaw$Child;LPlaceOfficeLaw$School;)Z"⟩
abbrev cL_isSame : ByteArray := method_16_code
def yL_isSame : MethodName := ⟨RL, "isSame", "(LPlaceOffice;)Z"⟩
abbrev cL_act : ByteArray := method_17_code
def yL_act : MethodName := ⟨RL, "act", "(LPlaceOffice;I)Z"⟩
abbrev cL_law : ByteArray := code
def yL_law : MethodName := ⟨RL, "law", "([I)Z"⟩
/-- our classes: the class's six as in whole, then the law's and the JDK's -/
abbrev vwCl : List vw_C := [(RX0, TX0, 1), (RX1, TX1, 2), (RX2, TX2, 20), (RX3, TX3, 12), (RX4, TX4, 13), (RX6, TX6, 11), (RX7, TX7, 11), (RX8, TX8, 8), (RL, TL, 8), (RJx4a65c, TJx4a65c, 3), (RJx35411, TJx35411, 4), (RJxc9f04, TJxc9f04, 5), (RJ0, TJ0, 4), (RJ4, TJ4, 4), (RJ6, TJ6, 1)]
