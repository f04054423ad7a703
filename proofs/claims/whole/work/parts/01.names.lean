/-! ===== BEGIN words of one list among another's, by their places ===== -/
/-! ===== END ===== -/

/-! ===== BEGIN printed: names, fields, word lists, decode rows ===== -/
def RX0 : String := "BlotLand$Page"
def TX0 : u_T := fun k => match k with
  | 0 => ("BlotLand$Page", "codes", "[I", true)
  | _ => ("BlotLand$Page", "size", "I", false)
def tyX0 : Nat → FieldType := fun k => match k with
  | 0 => .array .int
  | _ => .int
abbrev wsX00 : List Cond := u_ws RX0 TX0 2
theorem nmX0 : ∀ a, a < 2 → ∀ b, b < 2 → a ≠ b → (TX0 a).2.1 ≠ (TX0 b).2.1 := by decide +kernel
theorem tyX0_ok : ∀ k, k < 2 → parseFieldDescriptor (TX0 k).2.2.1 = some (tyX0 k) := by decide +kernel
abbrev cX0_init : ByteArray := prog_2_method_1_code
def yX0_init : MethodName := ⟨RX0, "<init>", "()V"⟩
abbrev cX0_append : ByteArray := prog_2_method_2_code
def yX0_append : MethodName := ⟨RX0, "append", "(I)Z"⟩
abbrev cX0_codeAt : ByteArray := prog_2_method_3_code
def yX0_codeAt : MethodName := ⟨RX0, "codeAt", "(I)I"⟩
abbrev cX0_digitAt : ByteArray := prog_2_method_4_code
def yX0_digitAt : MethodName := ⟨RX0, "digitAt", "(I)I"⟩
abbrev cX0_kindAt : ByteArray := prog_2_method_5_code
def yX0_kindAt : MethodName := ⟨RX0, "kindAt", "(I)I"⟩
abbrev cX0_isLeaf : ByteArray := prog_2_method_6_code
def yX0_isLeaf : MethodName := ⟨RX0, "isLeaf", "()Z"⟩
abbrev cX0_firstFault : ByteArray := prog_2_method_7_code
def yX0_firstFault : MethodName := ⟨RX0, "firstFault", "()I"⟩
abbrev cX0_canStandAt : ByteArray := prog_2_method_8_code
def yX0_canStandAt : MethodName := ⟨RX0, "canStandAt", "(I)Z"⟩
def RX1 : String := "BlotLand$State"
def TX1 : u_T := fun k => match k with
  | 0 => ("BlotLand$State", "strokes", "I", false)
  | 1 => ("BlotLand$State", "sanded", "I", false)
  | 2 => ("BlotLand$State", "evenings", "I", false)
  | 3 => ("BlotLand$State", "found", "I", false)
  | 4 => ("BlotLand$State", "inkRow", "[I", true)
  | 5 => ("BlotLand$State", "foundCell", "[I", true)
  | 6 => ("BlotLand$State", "foundMinute", "[I", true)
  | _ => ("BlotLand$State", "foundMuch", "[I", true)
def tyX1 : Nat → FieldType := fun k => match k with
  | 0 => .int
  | 1 => .int
  | 2 => .int
  | 3 => .int
  | 4 => .array .int
  | 5 => .array .int
  | 6 => .array .int
  | _ => .array .int
abbrev wsX10 : List Cond := u_ws RX1 TX1 8
theorem nmX1 : ∀ a, a < 8 → ∀ b, b < 8 → a ≠ b → (TX1 a).2.1 ≠ (TX1 b).2.1 := by decide +kernel
theorem tyX1_ok : ∀ k, k < 8 → parseFieldDescriptor (TX1 k).2.2.1 = some (tyX1 k) := by decide +kernel
abbrev cX1_init : ByteArray := prog_3_method_1_code
def yX1_init : MethodName := ⟨RX1, "<init>", "()V"⟩
abbrev cX1_begin : ByteArray := prog_3_method_2_code
def yX1_begin : MethodName := ⟨RX1, "begin", "(I)V"⟩
abbrev cX1_isSanded : ByteArray := prog_3_method_3_code
def yX1_isSanded : MethodName := ⟨RX1, "isSanded", "(I)Z"⟩
abbrev cX1_putSanded : ByteArray := prog_3_method_4_code
def yX1_putSanded : MethodName := ⟨RX1, "putSanded", "(IZ)V"⟩
abbrev cX1_addFound : ByteArray := prog_3_method_5_code
def yX1_addFound : MethodName := ⟨RX1, "addFound", "(III)Z"⟩
abbrev cX1_copyFrom : ByteArray := prog_3_method_6_code
def yX1_copyFrom : MethodName := ⟨RX1, "copyFrom", "(LBlotLand$State;)V"⟩
def RX2 : String := "BlotLand$Stroke"
def TX2 : u_T := fun k => match k with
  | 0 => ("BlotLand$Stroke", "written", "I", true)
  | 1 => ("BlotLand$Stroke", "kind", "I", false)
  | 2 => ("BlotLand$Stroke", "first", "I", false)
  | 3 => ("BlotLand$Stroke", "cells", "I", false)
  | _ => ("BlotLand$Stroke", "press", "I", false)
def tyX2 : Nat → FieldType := fun k => match k with
  | 0 => .int
  | 1 => .int
  | 2 => .int
  | 3 => .int
  | _ => .int
abbrev wsX20 : List Cond := u_ws RX2 TX2 5
theorem nmX2 : ∀ a, a < 5 → ∀ b, b < 5 → a ≠ b → (TX2 a).2.1 ≠ (TX2 b).2.1 := by decide +kernel
theorem tyX2_ok : ∀ k, k < 5 → parseFieldDescriptor (TX2 k).2.2.1 = some (tyX2 k) := by decide +kernel
abbrev cX2_init : ByteArray := prog_4_method_1_code
def yX2_init : MethodName := ⟨RX2, "<init>", "(I)V"⟩
abbrev cX2_become : ByteArray := prog_4_method_2_code
def yX2_become : MethodName := ⟨RX2, "become", "(IIII)V"⟩
abbrev cX2_isA : ByteArray := prog_4_method_3_code
def yX2_isA : MethodName := ⟨RX2, "isA", "(I)Z"⟩
abbrev cX2_wetAt : ByteArray := prog_4_method_4_code
def yX2_wetAt : MethodName := ⟨RX2, "wetAt", "(II)I"⟩
abbrev cX2_givesTo : ByteArray := prog_4_method_5_code
def yX2_givesTo : MethodName := ⟨RX2, "givesTo", "(II)I"⟩
def RX3 : String := "BlotLand"
def TX3 : u_T := fun k => match k with
  | 0 => ("BlotLand", "page", "LBlotLand$Page;", true)
  | 1 => ("BlotLand", "strokes", "[LBlotLand$Stroke;", true)
  | 2 => ("BlotLand", "now", "LBlotLand$State;", true)
  | 3 => ("BlotLand", "kept", "LBlotLand$State;", true)
  | 4 => ("BlotLand", "isKept", "Z", false)
  | 5 => ("BlotLand", "leavesRead", "I", false)
  | 6 => ("BlotLand", "inkOfYears", "[I", true)
  | _ => ("BlotLand", "comesByPress", "[I", true)
def tyX3 : Nat → FieldType := fun k => match k with
  | 0 => .object "BlotLand$Page"
  | 1 => .array (.object "BlotLand$Stroke")
  | 2 => .object "BlotLand$State"
  | 3 => .object "BlotLand$State"
  | 4 => .boolean
  | 5 => .int
  | 6 => .array .int
  | _ => .array .int
abbrev wsX30 : List Cond := u_ws RX3 TX3 8
theorem nmX3 : ∀ a, a < 8 → ∀ b, b < 8 → a ≠ b → (TX3 a).2.1 ≠ (TX3 b).2.1 := by decide +kernel
theorem tyX3_ok : ∀ k, k < 8 → parseFieldDescriptor (TX3 k).2.2.1 = some (tyX3 k) := by decide +kernel
abbrev cX3_init : ByteArray := prog_1_method_1_code
def yX3_init : MethodName := ⟨RX3, "<init>", "()V"⟩
abbrev cX3_letter : ByteArray := prog_1_method_2_code
def yX3_letter : MethodName := ⟨RX3, "letter", "(I)I"⟩
abbrev cX3_blank : ByteArray := prog_1_method_3_code
def yX3_blank : MethodName := ⟨RX3, "blank", "()I"⟩
abbrev cX3_fault : ByteArray := prog_1_method_4_code
def yX3_fault : MethodName := ⟨RX3, "fault", "()I"⟩
abbrev cX3_leaf : ByteArray := prog_1_method_5_code
def yX3_leaf : MethodName := ⟨RX3, "leaf", "()I"⟩
abbrev cX3_about : ByteArray := prog_1_method_6_code
def yX3_about : MethodName := ⟨RX3, "about", "(II)I"⟩
abbrev cX3_as : ByteArray := prog_1_method_7_code
def yX3_as : MethodName := ⟨RX3, "as", "(II)I"⟩
abbrev cX3_write : ByteArray := prog_1_method_8_code
def yX3_write : MethodName := ⟨RX3, "write", "(IIII)I"⟩
abbrev cX3_sand : ByteArray := prog_1_method_9_code
def yX3_sand : MethodName := ⟨RX3, "sand", "(IZ)I"⟩
abbrev cX3_wet : ByteArray := prog_1_method_10_code
def yX3_wet : MethodName := ⟨RX3, "wet", "(II)I"⟩
abbrev cX3_ink : ByteArray := prog_1_method_11_code
def yX3_ink : MethodName := ⟨RX3, "ink", "(I)I"⟩
abbrev cX3_comes : ByteArray := prog_1_method_12_code
def yX3_comes : MethodName := ⟨RX3, "comes", "(II)I"⟩
abbrev cX3_evening : ByteArray := prog_1_method_13_code
def yX3_evening : MethodName := ⟨RX3, "evening", "(I)I"⟩
abbrev cX3_hills : ByteArray := prog_1_method_14_code
def yX3_hills : MethodName := ⟨RX3, "hills", "(I)I"⟩
abbrev cX3_close : ByteArray := prog_1_method_15_code
def yX3_close : MethodName := ⟨RX3, "close", "(II)I"⟩
abbrev cX3_toSand : ByteArray := prog_1_method_16_code
def yX3_toSand : MethodName := ⟨RX3, "toSand", "(III)I"⟩
abbrev cX3_found : ByteArray := prog_1_method_17_code
def yX3_found : MethodName := ⟨RX3, "found", "(III)I"⟩
abbrev cX3_forget : ByteArray := prog_1_method_18_code
def yX3_forget : MethodName := ⟨RX3, "forget", "()I"⟩
abbrev cX3_look : ByteArray := prog_1_method_19_code
def yX3_look : MethodName := ⟨RX3, "look", "(II)I"⟩
abbrev cX3_years : ByteArray := prog_1_method_20_code
def yX3_years : MethodName := ⟨RX3, "years", "(III)I"⟩
abbrev cX3_image : ByteArray := prog_1_method_21_code
def yX3_image : MethodName := ⟨RX3, "image", "()I"⟩
abbrev cX3_restore : ByteArray := prog_1_method_22_code
def yX3_restore : MethodName := ⟨RX3, "restore", "()I"⟩
abbrev cX3_count : ByteArray := prog_1_method_23_code
def yX3_count : MethodName := ⟨RX3, "count", "(I)I"⟩
abbrev cX3_digest : ByteArray := prog_1_method_24_code
def yX3_digest : MethodName := ⟨RX3, "digest", "()J"⟩
abbrev cX3_withLand : ByteArray := prog_1_method_25_code
def yX3_withLand : MethodName := ⟨RX3, "withLand", "(J)J"⟩
abbrev cX3_mixed : ByteArray := prog_1_method_26_code
def yX3_mixed : MethodName := ⟨RX3, "mixed", "(JJ)J"⟩
abbrev cX3_hasLeaf : ByteArray := prog_1_method_27_code
def yX3_hasLeaf : MethodName := ⟨RX3, "hasLeaf", "()Z"⟩
abbrev cX3_isStroke : ByteArray := prog_1_method_28_code
def yX3_isStroke : MethodName := ⟨RX3, "isStroke", "(I)Z"⟩
abbrev cX3_isLand : ByteArray := prog_1_method_29_code
def yX3_isLand : MethodName := ⟨RX3, "isLand", "(I)Z"⟩
abbrev cX3_isCell : ByteArray := prog_1_method_30_code
def yX3_isCell : MethodName := ⟨RX3, "isCell", "(I)Z"⟩
abbrev cX3_isKind : ByteArray := prog_1_method_31_code
def yX3_isKind : MethodName := ⟨RX3, "isKind", "(I)Z"⟩
abbrev cX3_isMinute : ByteArray := prog_1_method_32_code
def yX3_isMinute : MethodName := ⟨RX3, "isMinute", "(I)Z"⟩
abbrev cX3_isMuch : ByteArray := prog_1_method_33_code
def yX3_isMuch : MethodName := ⟨RX3, "isMuch", "(I)Z"⟩
abbrev cX3_comesNow : ByteArray := prog_1_method_34_code
def yX3_comesNow : MethodName := ⟨RX3, "comesNow", "(II)I"⟩
abbrev cX3_comesIf : ByteArray := prog_1_method_35_code
def yX3_comesIf : MethodName := ⟨RX3, "comesIf", "(IIII)I"⟩
abbrev cX3_pressOff : ByteArray := prog_1_method_36_code
def yX3_pressOff : MethodName := ⟨RX3, "pressOff", "([II)I"⟩
abbrev cX3_reachesAny : ByteArray := prog_1_method_37_code
def yX3_reachesAny : MethodName := ⟨RX3, "reachesAny", "(III)Z"⟩
abbrev cX3_heavy : ByteArray := prog_1_method_38_code
def yX3_heavy : MethodName := ⟨RX3, "heavy", "(I)I"⟩
abbrev cX3_isAllFoundWith : ByteArray := prog_1_method_39_code
def yX3_isAllFoundWith : MethodName := ⟨RX3, "isAllFoundWith", "(II)Z"⟩
abbrev cX3_leftAtWorst : ByteArray := prog_1_method_40_code
def yX3_leftAtWorst : MethodName := ⟨RX3, "leftAtWorst", "(IIII)I"⟩
abbrev cX3_countLike : ByteArray := prog_1_method_41_code
def yX3_countLike : MethodName := ⟨RX3, "countLike", "(II)I"⟩
abbrev cX3_seedAfter : ByteArray := prog_1_method_42_code
def yX3_seedAfter : MethodName := ⟨RX3, "seedAfter", "(I)I"⟩
abbrev cX3_inkIn : ByteArray := prog_1_method_43_code
def yX3_inkIn : MethodName := ⟨RX3, "inkIn", "([I)I"⟩
abbrev cX3_dryIn : ByteArray := prog_1_method_44_code
def yX3_dryIn : MethodName := ⟨RX3, "dryIn", "([I)I"⟩
abbrev cX3_copyRow : ByteArray := prog_1_method_45_code
def yX3_copyRow : MethodName := ⟨RX3, "copyRow", "([I[I)V"⟩
def RX4 : String := "BlotLandModel"
def TX4 : u_T := fun k => match k with
  | 0 => ("BlotLandModel", "leaves", "I", false)
  | 1 => ("BlotLandModel", "strokes", "I", false)
  | 2 => ("BlotLandModel", "kindOf", "[I", true)
  | 3 => ("BlotLandModel", "beginsOf", "[I", true)
  | 4 => ("BlotLandModel", "longOf", "[I", true)
  | 5 => ("BlotLandModel", "pressOf", "[I", true)
  | 6 => ("BlotLandModel", "sanded", "I", false)
  | 7 => ("BlotLandModel", "inkOf", "[I", true)
  | 8 => ("BlotLandModel", "evenings", "I", false)
  | 9 => ("BlotLandModel", "found", "I", false)
  | 10 => ("BlotLandModel", "foundCell", "[I", true)
  | 11 => ("BlotLandModel", "foundMinute", "[I", true)
  | 12 => ("BlotLandModel", "foundMuch", "[I", true)
  | 13 => ("BlotLandModel", "pageLength", "I", false)
  | 14 => ("BlotLandModel", "page", "[B", true)
  | 15 => ("BlotLandModel", "comesBy", "[I", true)
  | 16 => ("BlotLandModel", "seedNow", "J", false)
  | 17 => ("BlotLandModel", "savedInk", "[I", true)
  | 18 => ("BlotLandModel", "isKept", "Z", false)
  | 19 => ("BlotLandModel", "keptLeaf", "I", false)
  | 20 => ("BlotLandModel", "keptStrokes", "I", false)
  | 21 => ("BlotLandModel", "keptSanded", "I", false)
  | 22 => ("BlotLandModel", "keptEvenings", "I", false)
  | 23 => ("BlotLandModel", "keptFound", "I", false)
  | 24 => ("BlotLandModel", "keptInk", "[I", true)
  | 25 => ("BlotLandModel", "keptCell", "[I", true)
  | 26 => ("BlotLandModel", "keptMinute", "[I", true)
  | 27 => ("BlotLandModel", "keptMuch", "[I", true)
  | _ => ("BlotLandModel", "h", "J", false)
def tyX4 : Nat → FieldType := fun k => match k with
  | 0 => .int
  | 1 => .int
  | 2 => .array .int
  | 3 => .array .int
  | 4 => .array .int
  | 5 => .array .int
  | 6 => .int
  | 7 => .array .int
  | 8 => .int
  | 9 => .int
  | 10 => .array .int
  | 11 => .array .int
  | 12 => .array .int
  | 13 => .int
  | 14 => .array .byte
  | 15 => .array .int
  | 16 => .long
  | 17 => .array .int
  | 18 => .boolean
  | 19 => .int
  | 20 => .int
  | 21 => .int
  | 22 => .int
  | 23 => .int
  | 24 => .array .int
  | 25 => .array .int
  | 26 => .array .int
  | 27 => .array .int
  | _ => .long
abbrev wsX40 : List Cond := u_ws RX4 TX4 29
theorem nmX4 : ∀ a, a < 29 → ∀ b, b < 29 → a ≠ b → (TX4 a).2.1 ≠ (TX4 b).2.1 := by decide +kernel
theorem tyX4_ok : ∀ k, k < 29 → parseFieldDescriptor (TX4 k).2.2.1 = some (tyX4 k) := by decide +kernel
abbrev cX4_init : ByteArray := prog_6_method_1_code
def yX4_init : MethodName := ⟨RX4, "<init>", "()V"⟩
abbrev cX4_within : ByteArray := prog_6_method_3_code
def yX4_within : MethodName := ⟨RX4, "within", "(III)Z"⟩
abbrev cX4_isIn : ByteArray := prog_6_method_4_code
def yX4_isIn : MethodName := ⟨RX4, "isIn", "(II)Z"⟩
abbrev cX4_size : ByteArray := prog_6_method_5_code
def yX4_size : MethodName := ⟨RX4, "size", "(I)I"⟩
abbrev cX4_letter : ByteArray := prog_6_method_6_code
def yX4_letter : MethodName := ⟨RX4, "letter", "(I)I"⟩
abbrev cX4_blank : ByteArray := prog_6_method_7_code
def yX4_blank : MethodName := ⟨RX4, "blank", "()I"⟩
abbrev cX4_kindBy : ByteArray := prog_6_method_8_code
def yX4_kindBy : MethodName := ⟨RX4, "kindBy", "(I)I"⟩
abbrev cX4_isGood : ByteArray := prog_6_method_9_code
def yX4_isGood : MethodName := ⟨RX4, "isGood", "(I)Z"⟩
abbrev cX4_faultNow : ByteArray := prog_6_method_10_code
def yX4_faultNow : MethodName := ⟨RX4, "faultNow", "()I"⟩
abbrev cX4_fault : ByteArray := prog_6_method_11_code
def yX4_fault : MethodName := ⟨RX4, "fault", "()I"⟩
abbrev cX4_longAt : ByteArray := prog_6_method_12_code
def yX4_longAt : MethodName := ⟨RX4, "longAt", "(II)I"⟩
abbrev cX4_leaf : ByteArray := prog_6_method_13_code
def yX4_leaf : MethodName := ⟨RX4, "leaf", "()I"⟩
abbrev cX4_isStroke : ByteArray := prog_6_method_14_code
def yX4_isStroke : MethodName := ⟨RX4, "isStroke", "(I)Z"⟩
abbrev cX4_isCell : ByteArray := prog_6_method_15_code
def yX4_isCell : MethodName := ⟨RX4, "isCell", "(I)Z"⟩
abbrev cX4_isMinute : ByteArray := prog_6_method_16_code
def yX4_isMinute : MethodName := ⟨RX4, "isMinute", "(I)Z"⟩
abbrev cX4_wetAt : ByteArray := prog_6_method_17_code
def yX4_wetAt : MethodName := ⟨RX4, "wetAt", "(II)I"⟩
abbrev cX4_comesOf : ByteArray := prog_6_method_18_code
def yX4_comesOf : MethodName := ⟨RX4, "comesOf", "(III)I"⟩
abbrev cX4_comesTo : ByteArray := prog_6_method_19_code
def yX4_comesTo : MethodName := ⟨RX4, "comesTo", "(II)I"⟩
abbrev cX4_strokeNow : ByteArray := prog_6_method_20_code
def yX4_strokeNow : MethodName := ⟨RX4, "strokeNow", "(II)I"⟩
abbrev cX4_about : ByteArray := prog_6_method_21_code
def yX4_about : MethodName := ⟨RX4, "about", "(II)I"⟩
abbrev cX4_as : ByteArray := prog_6_method_22_code
def yX4_as : MethodName := ⟨RX4, "as", "(II)I"⟩
abbrev cX4_write : ByteArray := prog_6_method_23_code
def yX4_write : MethodName := ⟨RX4, "write", "(IIII)I"⟩
abbrev cX4_sand : ByteArray := prog_6_method_24_code
def yX4_sand : MethodName := ⟨RX4, "sand", "(IZ)I"⟩
abbrev cX4_wet : ByteArray := prog_6_method_25_code
def yX4_wet : MethodName := ⟨RX4, "wet", "(II)I"⟩
abbrev cX4_ink : ByteArray := prog_6_method_26_code
def yX4_ink : MethodName := ⟨RX4, "ink", "(I)I"⟩
abbrev cX4_comes : ByteArray := prog_6_method_27_code
def yX4_comes : MethodName := ⟨RX4, "comes", "(II)I"⟩
abbrev cX4_press : ByteArray := prog_6_method_28_code
def yX4_press : MethodName := ⟨RX4, "press", "(I)I"⟩
abbrev cX4_evening : ByteArray := prog_6_method_29_code
def yX4_evening : MethodName := ⟨RX4, "evening", "(I)I"⟩
abbrev cX4_hillsNow : ByteArray := prog_6_method_30_code
def yX4_hillsNow : MethodName := ⟨RX4, "hillsNow", "(I)I"⟩
abbrev cX4_hills : ByteArray := prog_6_method_31_code
def yX4_hills : MethodName := ⟨RX4, "hills", "(I)I"⟩
abbrev cX4_closeNow : ByteArray := prog_6_method_32_code
def yX4_closeNow : MethodName := ⟨RX4, "closeNow", "(II)I"⟩
abbrev cX4_close : ByteArray := prog_6_method_33_code
def yX4_close : MethodName := ⟨RX4, "close", "(II)I"⟩
abbrev cX4_isDryAt : ByteArray := prog_6_method_34_code
def yX4_isDryAt : MethodName := ⟨RX4, "isDryAt", "(II)Z"⟩
abbrev cX4_sandNow : ByteArray := prog_6_method_35_code
def yX4_sandNow : MethodName := ⟨RX4, "sandNow", "(III)I"⟩
abbrev cX4_toSand : ByteArray := prog_6_method_36_code
def yX4_toSand : MethodName := ⟨RX4, "toSand", "(III)I"⟩
abbrev cX4_found : ByteArray := prog_6_method_37_code
def yX4_found : MethodName := ⟨RX4, "found", "(III)I"⟩
abbrev cX4_forget : ByteArray := prog_6_method_38_code
def yX4_forget : MethodName := ⟨RX4, "forget", "()I"⟩
abbrev cX4_isFound : ByteArray := prog_6_method_39_code
def yX4_isFound : MethodName := ⟨RX4, "isFound", "()Z"⟩
abbrev cX4_heavyOf : ByteArray := prog_6_method_40_code
def yX4_heavyOf : MethodName := ⟨RX4, "heavyOf", "(I)I"⟩
abbrev cX4_layComes : ByteArray := prog_6_method_41_code
def yX4_layComes : MethodName := ⟨RX4, "layComes", "(II)V"⟩
abbrev cX4_worstAt : ByteArray := prog_6_method_42_code
def yX4_worstAt : MethodName := ⟨RX4, "worstAt", "(II)I"⟩
abbrev cX4_lookNow : ByteArray := prog_6_method_43_code
def yX4_lookNow : MethodName := ⟨RX4, "lookNow", "(II)I"⟩
abbrev cX4_look : ByteArray := prog_6_method_44_code
def yX4_look : MethodName := ⟨RX4, "look", "(II)I"⟩
abbrev cX4_draw : ByteArray := prog_6_method_45_code
def yX4_draw : MethodName := ⟨RX4, "draw", "(I)I"⟩
abbrev cX4_inkAll : ByteArray := prog_6_method_46_code
def yX4_inkAll : MethodName := ⟨RX4, "inkAll", "()I"⟩
abbrev cX4_dry : ByteArray := prog_6_method_47_code
def yX4_dry : MethodName := ⟨RX4, "dry", "()I"⟩
abbrev cX4_yearsNow : ByteArray := prog_6_method_48_code
def yX4_yearsNow : MethodName := ⟨RX4, "yearsNow", "(III)I"⟩
abbrev cX4_years : ByteArray := prog_6_method_49_code
def yX4_years : MethodName := ⟨RX4, "years", "(III)I"⟩
abbrev cX4_image : ByteArray := prog_6_method_50_code
def yX4_image : MethodName := ⟨RX4, "image", "()I"⟩
abbrev cX4_restore : ByteArray := prog_6_method_51_code
def yX4_restore : MethodName := ⟨RX4, "restore", "()I"⟩
abbrev cX4_howMany : ByteArray := prog_6_method_52_code
def yX4_howMany : MethodName := ⟨RX4, "howMany", "(I)I"⟩
abbrev cX4_count : ByteArray := prog_6_method_53_code
def yX4_count : MethodName := ⟨RX4, "count", "(I)I"⟩
abbrev cX4_mix : ByteArray := prog_6_method_54_code
def yX4_mix : MethodName := ⟨RX4, "mix", "(J)V"⟩
abbrev cX4_digest : ByteArray := prog_6_method_55_code
def yX4_digest : MethodName := ⟨RX4, "digest", "()J"⟩
def RJ11 : String := "java/lang/Character"
def TJ11 : u_T := fun k => match k with
  | _ => ("", "", "", false)
def tyJ11 : Nat → FieldType := fun k => match k with
  | _ => .int
abbrev cJ11_isValidCodePoint_9a6ad : ByteArray := prog_7_method_11_code
def yJ11_isValidCodePoint_9a6ad : MethodName := ⟨RJ11, "isValidCodePoint", "(I)Z"⟩
abbrev cJ11_highSurrogate_5068e : ByteArray := prog_7_method_28_code
def yJ11_highSurrogate_5068e : MethodName := ⟨RJ11, "highSurrogate", "(I)C"⟩
abbrev cJ11_lowSurrogate_5068e : ByteArray := prog_7_method_29_code
def yJ11_lowSurrogate_5068e : MethodName := ⟨RJ11, "lowSurrogate", "(I)C"⟩
def RJ6 : String := "java/lang/Integer"
def TJ6 : u_T := fun k => match k with
  | _ => ("", "", "", false)
def tyJ6 : Nat → FieldType := fun k => match k with
  | _ => .int
abbrev cJ6_bitCount_0f7a4 : ByteArray := prog_8_method_49_code
def yJ6_bitCount_0f7a4 : MethodName := ⟨RJ6, "bitCount", "(I)I"⟩
def RJ9 : String := "java/lang/Math"
def TJ9 : u_T := fun k => match k with
  | _ => ("", "", "", false)
def tyJ9 : Nat → FieldType := fun k => match k with
  | _ => .int
abbrev cJ9_max_7cf53 : ByteArray := prog_9_method_65_code
def yJ9_max_7cf53 : MethodName := ⟨RJ9, "max", "(II)I"⟩
abbrev cJ9_min_7cf53 : ByteArray := prog_9_method_69_code
def yJ9_min_7cf53 : MethodName := ⟨RJ9, "min", "(II)I"⟩
def RJ0 : String := "java/lang/String"
def TJ0 : u_T := fun k => match k with
  | _ => ("", "", "", false)
def tyJ0 : Nat → FieldType := fun k => match k with
  | _ => .int
abbrev cJ0_length_8abf5 : ByteArray := prog_10_method_54_code
def yJ0_length_8abf5 : MethodName := ⟨RJ0, "length", "()I"⟩
abbrev cJ0_indexOf_0f7a4 : ByteArray := prog_10_method_79_code
def yJ0_indexOf_0f7a4 : MethodName := ⟨RJ0, "indexOf", "(I)I"⟩
abbrev cJ0_indexOf_7cf53 : ByteArray := prog_10_method_80_code
def yJ0_indexOf_7cf53 : MethodName := ⟨RJ0, "indexOf", "(II)I"⟩
abbrev cJ0_coder_7d493 : ByteArray := prog_10_method_152_code
def yJ0_coder_7d493 : MethodName := ⟨RJ0, "coder", "()B"⟩
abbrev cJ0_isLatin1_aae02 : ByteArray := prog_10_method_154_code
def yJ0_isLatin1_aae02 : MethodName := ⟨RJ0, "isLatin1", "()Z"⟩
abbrev cJ0_checkBoundsBeginEnd_23922 : ByteArray := prog_10_method_158_code
def yJ0_checkBoundsBeginEnd_23922 : MethodName := ⟨RJ0, "checkBoundsBeginEnd", "(III)V"⟩
def RJ1 : String := "java/lang/StringLatin1"
def TJ1 : u_T := fun k => match k with
  | _ => ("", "", "", false)
def tyJ1 : Nat → FieldType := fun k => match k with
  | _ => .int
abbrev cJ1_canEncode_9a6ad : ByteArray := prog_11_method_4_code
def yJ1_canEncode_9a6ad : MethodName := ⟨RJ1, "canEncode", "(I)Z"⟩
abbrev cJ1_indexOf_4cfef : ByteArray := prog_11_method_22_code
def yJ1_indexOf_4cfef : MethodName := ⟨RJ1, "indexOf", "([BIII)I"⟩
abbrev cJ1_indexOfChar_4cfef : ByteArray := prog_11_method_23_code
def yJ1_indexOfChar_4cfef : MethodName := ⟨RJ1, "indexOfChar", "([BIII)I"⟩
def RJ2 : String := "java/lang/StringUTF16"
def TJ2 : u_T := fun k => match k with
  | _ => ("", "", "", false)
def tyJ2 : Nat → FieldType := fun k => match k with
  | _ => .int
abbrev cJ2_getChar_3b067 : ByteArray := prog_12_method_5_code
def yJ2_getChar_3b067 : MethodName := ⟨RJ2, "getChar", "([BI)C"⟩
abbrev cJ2_length_9d52b : ByteArray := prog_12_method_6_code
def yJ2_length_9d52b : MethodName := ⟨RJ2, "length", "([B)I"⟩
abbrev cJ2_indexOf_4cfef : ByteArray := prog_12_method_40_code
def yJ2_indexOf_4cfef : MethodName := ⟨RJ2, "indexOf", "([BIII)I"⟩
abbrev cJ2_indexOfChar_4cfef : ByteArray := prog_12_method_47_code
def yJ2_indexOfChar_4cfef : MethodName := ⟨RJ2, "indexOfChar", "([BIII)I"⟩
abbrev cJ2_indexOfCharUnsafe_4cfef : ByteArray := prog_12_method_48_code
def yJ2_indexOfCharUnsafe_4cfef : MethodName := ⟨RJ2, "indexOfCharUnsafe", "([BIII)I"⟩
abbrev cJ2_indexOfSupplementary_4cfef : ByteArray := prog_12_method_49_code
def yJ2_indexOfSupplementary_4cfef : MethodName := ⟨RJ2, "indexOfSupplementary", "([BIII)I"⟩
abbrev cJ2_checkBoundsBeginEnd_d044e : ByteArray := prog_12_method_93_code
def yJ2_checkBoundsBeginEnd_d044e : MethodName := ⟨RJ2, "checkBoundsBeginEnd", "(II[B)V"⟩
def RJ3 : String := "jdk/internal/util/Preconditions"
def TJ3 : u_T := fun k => match k with
  | _ => ("", "", "", false)
def tyJ3 : Nat → FieldType := fun k => match k with
  | _ => .int
abbrev cJ3_checkFromToIndex_8c36e : ByteArray := prog_13_method_12_code
def yJ3_checkFromToIndex_8c36e : MethodName := ⟨RJ3, "checkFromToIndex", "(IIILjava/util/function/BiFunction;)I"⟩
def RL : String := "BlotLandLaw"
abbrev cL_law : ByteArray := code
def yL_law : MethodName := ⟨RL, "law", "([I)Z"⟩
abbrev vwCl : List vw_C := [(RX0, TX0, 2), (RX1, TX1, 8), (RX2, TX2, 5), (RX3, TX3, 8), (RX4, TX4, 29)]

/-- every word of the tables that is kept -/
def wsG : List Cond := lw_tbl.filter goodWord
theorem wsG_tbl : ∀ w ∈ wsG, w ∈ lw_tbl := fun _ h => (List.mem_filter.mp h).1
theorem wsG_good : ∀ w ∈ wsG, goodWord w = true := fun _ h => (List.mem_filter.mp h).2
theorem kT_1 {w : Cond} (h : w ∈ tables_1_1) (g : goodWord w = true) : w ∈ wsG := List.mem_filter.mpr ⟨List.mem_append_right _ (List.mem_append_left _ h), g⟩
theorem kT_2 {w : Cond} (h : w ∈ tables_1_2) (g : goodWord w = true) : w ∈ wsG := List.mem_filter.mpr ⟨List.mem_append_right _ (List.mem_append_right _ (List.mem_append_left _ h)), g⟩
theorem kT_3 {w : Cond} (h : w ∈ tables_1_3) (g : goodWord w = true) : w ∈ wsG := List.mem_filter.mpr ⟨List.mem_append_right _ (List.mem_append_right _ (List.mem_append_right _ (List.mem_append_left _ h))), g⟩
theorem kT_4 {w : Cond} (h : w ∈ tables_1_4) (g : goodWord w = true) : w ∈ wsG := List.mem_filter.mpr ⟨List.mem_append_right _ (List.mem_append_right _ (List.mem_append_right _ (List.mem_append_right _ h))), g⟩
theorem kP_1 {q : MethodName × Nat} (h : q ∈ lw_privs_1) (g : goodWord (Cond.selects q.1.cls q.1 q.1) = true) : Cond.selects q.1.cls q.1 q.1 ∈ wsG := List.mem_filter.mpr ⟨List.mem_append_left _ (List.mem_map.mpr ⟨q, (List.mem_append_left _ h), rfl⟩), g⟩
theorem kP_2 {q : MethodName × Nat} (h : q ∈ lw_privs_2) (g : goodWord (Cond.selects q.1.cls q.1 q.1) = true) : Cond.selects q.1.cls q.1 q.1 ∈ wsG := List.mem_filter.mpr ⟨List.mem_append_left _ (List.mem_map.mpr ⟨q, (List.mem_append_right _ (List.mem_append_left _ h)), rfl⟩), g⟩
theorem kP_3 {q : MethodName × Nat} (h : q ∈ lw_privs_3) (g : goodWord (Cond.selects q.1.cls q.1 q.1) = true) : Cond.selects q.1.cls q.1 q.1 ∈ wsG := List.mem_filter.mpr ⟨List.mem_append_left _ (List.mem_map.mpr ⟨q, (List.mem_append_right _ (List.mem_append_right _ h)), rfl⟩), g⟩
theorem kw_1 : Cond.classLink RL 7 RX3 ∈ wsG := kT_1 (List.mem_of_getElem? (i := 13) rfl) rfl
theorem kw_2 : Cond.instantiable RX3 8 ∈ wsG := kT_1 (List.mem_of_getElem? (i := 14) rfl) rfl
theorem kw_3 : Cond.initialized RX3 ∈ wsG := kT_1 (List.mem_of_getElem? (i := 1) rfl) rfl
theorem kw_4 : Cond.classLink RL 10 RX4 ∈ wsG := kT_2 (List.mem_of_getElem? (i := 236) rfl) rfl
theorem kw_5 : Cond.instantiable RX4 29 ∈ wsG := kT_2 (List.mem_of_getElem? (i := 237) rfl) rfl
theorem kw_6 : Cond.initialized RX4 ∈ wsG := kT_1 (List.mem_of_getElem? (i := 5) rfl) rfl
theorem kw_7 : Cond.methodLink RL 9 yX3_init ∈ wsG := kT_1 (List.mem_of_getElem? (i := 15) rfl) rfl
theorem kw_8 : Cond.instanceMethod yX3_init ∈ wsG := kT_1 (List.mem_of_getElem? (i := 16) rfl) rfl
theorem kw_9 : Cond.code yX3_init cX3_init 2 none ∈ wsG := kT_1 (List.mem_of_getElem? (i := 17) rfl) rfl
theorem kw_10 : Cond.methodLink RX3 1 objectInit ∈ wsG := kT_1 (List.mem_of_getElem? (i := 18) rfl) rfl
theorem kw_11 : Cond.instanceMethod objectInit ∈ wsG := kT_1 (List.mem_of_getElem? (i := 19) rfl) rfl
theorem kw_12 : Cond.classLink RX3 7 RX0 ∈ wsG := kT_1 (List.mem_of_getElem? (i := 21) rfl) rfl
theorem kw_13 : Cond.instantiable RX0 2 ∈ wsG := kT_1 (List.mem_of_getElem? (i := 22) rfl) rfl
theorem kw_14 : Cond.initialized RX0 ∈ wsG := kT_1 (List.mem_of_getElem? (i := 2) rfl) rfl
theorem kw_15 : Cond.fieldLink RX3 10 "BlotLand" "page" "LBlotLand$Page;" ∈ wsG := kT_1 (List.mem_of_getElem? (i := 102) rfl) rfl
theorem kw_16 : Cond.classLink RX3 16 RX2 ∈ wsG := kT_1 (List.mem_of_getElem? (i := 36) rfl) rfl
theorem kw_17 : Cond.fieldLink RX3 18 "BlotLand" "strokes" "[LBlotLand$Stroke;" ∈ wsG := kT_1 (List.mem_of_getElem? (i := 103) rfl) rfl
theorem kw_18 : Cond.classLink RX3 22 RX1 ∈ wsG := kT_1 (List.mem_of_getElem? (i := 38) rfl) rfl
theorem kw_19 : Cond.instantiable RX1 8 ∈ wsG := kT_1 (List.mem_of_getElem? (i := 39) rfl) rfl
theorem kw_20 : Cond.initialized RX1 ∈ wsG := kT_1 (List.mem_of_getElem? (i := 3) rfl) rfl
theorem kw_21 : Cond.fieldLink RX3 25 "BlotLand" "now" "LBlotLand$State;" ∈ wsG := kT_1 (List.mem_of_getElem? (i := 104) rfl) rfl
theorem kw_22 : Cond.fieldLink RX3 29 "BlotLand" "kept" "LBlotLand$State;" ∈ wsG := kT_1 (List.mem_of_getElem? (i := 105) rfl) rfl
theorem kw_23 : Cond.fieldLink RX3 32 "BlotLand" "isKept" "Z" ∈ wsG := kT_1 (List.mem_of_getElem? (i := 106) rfl) rfl
theorem kw_24 : Cond.fieldLink RX3 36 "BlotLand" "leavesRead" "I" ∈ wsG := kT_1 (List.mem_of_getElem? (i := 107) rfl) rfl
theorem kw_25 : Cond.arrayClass .int ∈ wsG := kT_1 (List.mem_of_getElem? (i := 35) rfl) rfl
theorem kw_26 : Cond.fieldLink RX3 40 "BlotLand" "inkOfYears" "[I" ∈ wsG := kT_1 (List.mem_of_getElem? (i := 108) rfl) rfl
theorem kw_27 : Cond.fieldLink RX3 44 "BlotLand" "comesByPress" "[I" ∈ wsG := kT_1 (List.mem_of_getElem? (i := 109) rfl) rfl
theorem kw_28 : Cond.instantiable RX2 5 ∈ wsG := kT_1 (List.mem_of_getElem? (i := 77) rfl) rfl
theorem kw_29 : Cond.initialized RX2 ∈ wsG := kT_1 (List.mem_of_getElem? (i := 4) rfl) rfl
theorem kw_30 : Cond.instanceMethod yX0_init ∈ wsG := kT_1 (List.mem_of_getElem? (i := 24) rfl) rfl
theorem kw_31 : Cond.code yX0_init cX0_init 1 none ∈ wsG := kT_1 (List.mem_of_getElem? (i := 25) rfl) rfl
theorem kw_32 : Cond.methodLink RX0 3 objectInit ∈ wsG := kT_1 (List.mem_of_getElem? (i := 26) rfl) rfl
theorem kw_33 : Cond.fieldLink RX0 9 "BlotLand$Page" "codes" "[I" ∈ wsG := kT_1 (List.mem_of_getElem? (i := 27) rfl) rfl
theorem kw_34 : Cond.fieldLink RX0 15 "BlotLand$Page" "size" "I" ∈ wsG := kT_1 (List.mem_of_getElem? (i := 28) rfl) rfl
theorem kw_35 : Cond.instanceMethod yX1_init ∈ wsG := kT_1 (List.mem_of_getElem? (i := 41) rfl) rfl
theorem kw_36 : Cond.code yX1_init cX1_init 1 none ∈ wsG := kT_1 (List.mem_of_getElem? (i := 42) rfl) rfl
theorem kw_37 : Cond.methodLink RX1 3 objectInit ∈ wsG := kT_1 (List.mem_of_getElem? (i := 43) rfl) rfl
theorem kw_38 : Cond.fieldLink RX1 9 "BlotLand$State" "strokes" "I" ∈ wsG := kT_1 (List.mem_of_getElem? (i := 44) rfl) rfl
theorem kw_39 : Cond.fieldLink RX1 15 "BlotLand$State" "sanded" "I" ∈ wsG := kT_1 (List.mem_of_getElem? (i := 46) rfl) rfl
theorem kw_40 : Cond.fieldLink RX1 18 "BlotLand$State" "evenings" "I" ∈ wsG := kT_1 (List.mem_of_getElem? (i := 48) rfl) rfl
theorem kw_41 : Cond.fieldLink RX1 21 "BlotLand$State" "found" "I" ∈ wsG := kT_1 (List.mem_of_getElem? (i := 50) rfl) rfl
theorem kw_42 : Cond.fieldLink RX1 24 "BlotLand$State" "inkRow" "[I" ∈ wsG := kT_1 (List.mem_of_getElem? (i := 52) rfl) rfl
theorem kw_43 : Cond.fieldLink RX1 28 "BlotLand$State" "foundCell" "[I" ∈ wsG := kT_1 (List.mem_of_getElem? (i := 54) rfl) rfl
theorem kw_44 : Cond.fieldLink RX1 31 "BlotLand$State" "foundMinute" "[I" ∈ wsG := kT_1 (List.mem_of_getElem? (i := 56) rfl) rfl
theorem kw_45 : Cond.fieldLink RX1 34 "BlotLand$State" "foundMuch" "[I" ∈ wsG := kT_1 (List.mem_of_getElem? (i := 58) rfl) rfl
theorem kw_46 : Cond.methodLink RX3 47 yX2_init ∈ wsG := kT_1 (List.mem_of_getElem? (i := 78) rfl) rfl
theorem kw_47 : Cond.instanceMethod yX2_init ∈ wsG := kT_1 (List.mem_of_getElem? (i := 79) rfl) rfl
theorem kw_48 : Cond.code yX2_init cX2_init 2 none ∈ wsG := kT_1 (List.mem_of_getElem? (i := 80) rfl) rfl
theorem kw_49 : Cond.methodLink RX2 3 objectInit ∈ wsG := kT_1 (List.mem_of_getElem? (i := 81) rfl) rfl
theorem kw_50 : Cond.fieldLink RX2 9 "BlotLand$Stroke" "kind" "I" ∈ wsG := kT_1 (List.mem_of_getElem? (i := 83) rfl) rfl
theorem kw_51 : Cond.fieldLink RX2 15 "BlotLand$Stroke" "first" "I" ∈ wsG := kT_1 (List.mem_of_getElem? (i := 85) rfl) rfl
theorem kw_52 : Cond.fieldLink RX2 18 "BlotLand$Stroke" "cells" "I" ∈ wsG := kT_1 (List.mem_of_getElem? (i := 87) rfl) rfl
theorem kw_53 : Cond.fieldLink RX2 21 "BlotLand$Stroke" "press" "I" ∈ wsG := kT_1 (List.mem_of_getElem? (i := 89) rfl) rfl
theorem kw_54 : Cond.fieldLink RX2 24 "BlotLand$Stroke" "written" "I" ∈ wsG := kT_1 (List.mem_of_getElem? (i := 82) rfl) rfl
theorem kw_55 : Cond.methodLink RL 12 yX4_init ∈ wsG := kT_2 (List.mem_of_getElem? (i := 238) rfl) rfl
theorem kw_56 : Cond.instanceMethod yX4_init ∈ wsG := kT_2 (List.mem_of_getElem? (i := 239) rfl) rfl
theorem kw_57 : Cond.code yX4_init cX4_init 1 none ∈ wsG := kT_3 (List.mem_of_getElem? (i := 0) rfl) rfl
theorem kw_58 : Cond.methodLink RX4 1 objectInit ∈ wsG := kT_3 (List.mem_of_getElem? (i := 1) rfl) rfl
theorem kw_59 : Cond.fieldLink RX4 7 "BlotLandModel" "kindOf" "[I" ∈ wsG := kT_3 (List.mem_of_getElem? (i := 4) rfl) rfl
theorem kw_60 : Cond.fieldLink RX4 13 "BlotLandModel" "beginsOf" "[I" ∈ wsG := kT_3 (List.mem_of_getElem? (i := 5) rfl) rfl
theorem kw_61 : Cond.fieldLink RX4 16 "BlotLandModel" "longOf" "[I" ∈ wsG := kT_3 (List.mem_of_getElem? (i := 6) rfl) rfl
theorem kw_62 : Cond.fieldLink RX4 19 "BlotLandModel" "pressOf" "[I" ∈ wsG := kT_3 (List.mem_of_getElem? (i := 7) rfl) rfl
theorem kw_63 : Cond.fieldLink RX4 22 "BlotLandModel" "inkOf" "[I" ∈ wsG := kT_3 (List.mem_of_getElem? (i := 9) rfl) rfl
theorem kw_64 : Cond.fieldLink RX4 25 "BlotLandModel" "foundCell" "[I" ∈ wsG := kT_3 (List.mem_of_getElem? (i := 12) rfl) rfl
theorem kw_65 : Cond.fieldLink RX4 28 "BlotLandModel" "foundMinute" "[I" ∈ wsG := kT_3 (List.mem_of_getElem? (i := 13) rfl) rfl
theorem kw_66 : Cond.fieldLink RX4 31 "BlotLandModel" "foundMuch" "[I" ∈ wsG := kT_3 (List.mem_of_getElem? (i := 14) rfl) rfl
theorem kw_67 : Cond.arrayClass .byte ∈ wsG := kT_2 (List.mem_of_getElem? (i := 10) rfl) rfl
theorem kw_68 : Cond.fieldLink RX4 34 "BlotLandModel" "page" "[B" ∈ wsG := kT_3 (List.mem_of_getElem? (i := 16) rfl) rfl
theorem kw_69 : Cond.fieldLink RX4 38 "BlotLandModel" "comesBy" "[I" ∈ wsG := kT_3 (List.mem_of_getElem? (i := 17) rfl) rfl
theorem kw_70 : Cond.fieldLink RX4 41 "BlotLandModel" "savedInk" "[I" ∈ wsG := kT_3 (List.mem_of_getElem? (i := 19) rfl) rfl
theorem kw_71 : Cond.fieldLink RX4 44 "BlotLandModel" "keptInk" "[I" ∈ wsG := kT_3 (List.mem_of_getElem? (i := 26) rfl) rfl
theorem kw_72 : Cond.fieldLink RX4 47 "BlotLandModel" "keptCell" "[I" ∈ wsG := kT_3 (List.mem_of_getElem? (i := 27) rfl) rfl
theorem kw_73 : Cond.fieldLink RX4 50 "BlotLandModel" "keptMinute" "[I" ∈ wsG := kT_3 (List.mem_of_getElem? (i := 28) rfl) rfl
theorem kw_74 : Cond.fieldLink RX4 53 "BlotLandModel" "keptMuch" "[I" ∈ wsG := kT_3 (List.mem_of_getElem? (i := 29) rfl) rfl
theorem kw_75 : Cond.methodLink RL 13 yX3_letter ∈ wsG := kT_1 (List.mem_of_getElem? (i := 127) rfl) rfl
theorem kw_76 : Cond.instanceMethod yX3_letter ∈ wsG := kT_1 (List.mem_of_getElem? (i := 128) rfl) rfl
theorem kw_77 : Cond.selects RX3 yX3_letter yX3_letter ∈ wsG := kT_1 (List.mem_of_getElem? (i := 129) rfl) rfl
theorem kw_78 : Cond.code yX3_letter cX3_letter 2 (some .int) ∈ wsG := kT_1 (List.mem_of_getElem? (i := 130) rfl) rfl
theorem kw_79 : Cond.methodLink RX3 50 yX0_append ∈ wsG := kT_1 (List.mem_of_getElem? (i := 131) rfl) rfl
theorem kw_80 : Cond.instanceMethod yX0_append ∈ wsG := kT_1 (List.mem_of_getElem? (i := 132) rfl) rfl
theorem kw_81 : Cond.selects RX0 yX0_append yX0_append ∈ wsG := kT_1 (List.mem_of_getElem? (i := 133) rfl) rfl
theorem kw_82 : Cond.code yX0_append cX0_append 2 (some .boolean) ∈ wsG := kT_1 (List.mem_of_getElem? (i := 134) rfl) rfl
theorem kw_83 : Cond.methodLink RL 17 yX4_letter ∈ wsG := kT_3 (List.mem_of_getElem? (i := 90) rfl) rfl
theorem kw_84 : Cond.instanceMethod yX4_letter ∈ wsG := kT_3 (List.mem_of_getElem? (i := 91) rfl) rfl
theorem kw_85 : Cond.selects RX4 yX4_letter yX4_letter ∈ wsG := kT_3 (List.mem_of_getElem? (i := 92) rfl) rfl
theorem kw_86 : Cond.code yX4_letter cX4_letter 2 (some .int) ∈ wsG := kT_3 (List.mem_of_getElem? (i := 93) rfl) rfl
theorem kw_87 : Cond.fieldLink RX4 60 "BlotLandModel" "pageLength" "I" ∈ wsG := kT_3 (List.mem_of_getElem? (i := 15) rfl) rfl
theorem kw_88 : Cond.methodLink RX4 56 yX4_within ∈ wsG := kT_3 (List.mem_of_getElem? (i := 94) rfl) rfl
theorem kw_89 : Cond.static yX4_within ∈ wsG := kT_3 (List.mem_of_getElem? (i := 95) rfl) rfl
theorem kw_90 : Cond.code yX4_within cX4_within 3 (some .boolean) ∈ wsG := kT_3 (List.mem_of_getElem? (i := 96) rfl) rfl
theorem kw_91 : Cond.methodLink RL 18 yX3_blank ∈ wsG := kT_1 (List.mem_of_getElem? (i := 135) rfl) rfl
theorem kw_92 : Cond.instanceMethod yX3_blank ∈ wsG := kT_1 (List.mem_of_getElem? (i := 136) rfl) rfl
theorem kw_93 : Cond.selects RX3 yX3_blank yX3_blank ∈ wsG := kT_1 (List.mem_of_getElem? (i := 137) rfl) rfl
theorem kw_94 : Cond.code yX3_blank cX3_blank 2 (some .int) ∈ wsG := kT_1 (List.mem_of_getElem? (i := 138) rfl) rfl
theorem kw_95 : Cond.methodLink RL 22 yX4_blank ∈ wsG := kT_3 (List.mem_of_getElem? (i := 97) rfl) rfl
theorem kw_96 : Cond.instanceMethod yX4_blank ∈ wsG := kT_3 (List.mem_of_getElem? (i := 98) rfl) rfl
theorem kw_97 : Cond.selects RX4 yX4_blank yX4_blank ∈ wsG := kT_3 (List.mem_of_getElem? (i := 99) rfl) rfl
theorem kw_98 : Cond.code yX4_blank cX4_blank 2 (some .int) ∈ wsG := kT_3 (List.mem_of_getElem? (i := 100) rfl) rfl
theorem kw_99 : Cond.methodLink RL 23 yX3_fault ∈ wsG := kT_1 (List.mem_of_getElem? (i := 139) rfl) rfl
theorem kw_100 : Cond.instanceMethod yX3_fault ∈ wsG := kT_1 (List.mem_of_getElem? (i := 140) rfl) rfl
theorem kw_101 : Cond.selects RX3 yX3_fault yX3_fault ∈ wsG := kT_1 (List.mem_of_getElem? (i := 141) rfl) rfl
theorem kw_102 : Cond.code yX3_fault cX3_fault 1 (some .int) ∈ wsG := kT_1 (List.mem_of_getElem? (i := 142) rfl) rfl
theorem kw_103 : Cond.methodLink RX3 57 yX0_firstFault ∈ wsG := kT_1 (List.mem_of_getElem? (i := 143) rfl) rfl
theorem kw_104 : Cond.instanceMethod yX0_firstFault ∈ wsG := kT_1 (List.mem_of_getElem? (i := 144) rfl) rfl
theorem kw_105 : Cond.selects RX0 yX0_firstFault yX0_firstFault ∈ wsG := kT_1 (List.mem_of_getElem? (i := 145) rfl) rfl
theorem kw_106 : Cond.code yX0_firstFault cX0_firstFault 2 (some .int) ∈ wsG := kT_1 (List.mem_of_getElem? (i := 146) rfl) rfl
theorem kw_107 : Cond.methodLink RX0 34 yX0_canStandAt ∈ wsG := kT_1 (List.mem_of_getElem? (i := 147) rfl) rfl
theorem kw_108 : Cond.instanceMethod yX0_canStandAt ∈ wsG := kT_1 (List.mem_of_getElem? (i := 149) rfl) rfl
theorem kw_109 : Cond.selects RX0 yX0_canStandAt yX0_canStandAt ∈ wsG := kP_1 (List.mem_of_getElem? (i := 0) rfl) rfl
theorem kw_110 : Cond.code yX0_canStandAt cX0_canStandAt 3 (some .boolean) ∈ wsG := kT_1 (List.mem_of_getElem? (i := 150) rfl) rfl
theorem kw_111 : Cond.methodLink RX0 38 yX0_digitAt ∈ wsG := kT_1 (List.mem_of_getElem? (i := 151) rfl) rfl
theorem kw_112 : Cond.instanceMethod yX0_digitAt ∈ wsG := kT_1 (List.mem_of_getElem? (i := 152) rfl) rfl
theorem kw_113 : Cond.selects RX0 yX0_digitAt yX0_digitAt ∈ wsG := kT_1 (List.mem_of_getElem? (i := 153) rfl) rfl
theorem kw_114 : Cond.code yX0_digitAt cX0_digitAt 2 (some .int) ∈ wsG := kT_1 (List.mem_of_getElem? (i := 154) rfl) rfl
theorem kw_115 : Cond.methodLink RX0 19 yX0_codeAt ∈ wsG := kT_1 (List.mem_of_getElem? (i := 155) rfl) rfl
theorem kw_116 : Cond.instanceMethod yX0_codeAt ∈ wsG := kT_1 (List.mem_of_getElem? (i := 156) rfl) rfl
theorem kw_117 : Cond.selects RX0 yX0_codeAt yX0_codeAt ∈ wsG := kT_1 (List.mem_of_getElem? (i := 157) rfl) rfl
theorem kw_118 : Cond.code yX0_codeAt cX0_codeAt 2 (some .int) ∈ wsG := kT_1 (List.mem_of_getElem? (i := 158) rfl) rfl
theorem kw_119 : Cond.methodLink RX0 41 yX0_kindAt ∈ wsG := kT_1 (List.mem_of_getElem? (i := 159) rfl) rfl
theorem kw_120 : Cond.instanceMethod yX0_kindAt ∈ wsG := kT_1 (List.mem_of_getElem? (i := 160) rfl) rfl
theorem kw_121 : Cond.selects RX0 yX0_kindAt yX0_kindAt ∈ wsG := kT_1 (List.mem_of_getElem? (i := 161) rfl) rfl
theorem kw_122 : Cond.code yX0_kindAt cX0_kindAt 2 (some .int) ∈ wsG := kT_1 (List.mem_of_getElem? (i := 162) rfl) rfl
theorem kw_123 : Cond.methodLink RX0 25 yJ0_indexOf_0f7a4 ∈ wsG := kT_1 (List.mem_of_getElem? (i := 164) rfl) rfl
theorem kw_124 : Cond.instanceMethod yJ0_indexOf_0f7a4 ∈ wsG := kT_1 (List.mem_of_getElem? (i := 165) rfl) rfl
theorem kw_125 : Cond.selects RJ0 yJ0_indexOf_0f7a4 yJ0_indexOf_0f7a4 ∈ wsG := kT_1 (List.mem_of_getElem? (i := 166) rfl) rfl
theorem kw_126 : Cond.initialized RJ0 ∈ wsG := kT_1 (List.mem_of_getElem? (i := 6) rfl) rfl
theorem kw_127 : Cond.code yJ0_indexOf_0f7a4 cJ0_indexOf_0f7a4 2 (some .int) ∈ wsG := kT_1 (List.mem_of_getElem? (i := 167) rfl) rfl
theorem kw_128 : Cond.methodLink RJ0 633 yJ0_indexOf_7cf53 ∈ wsG := kT_1 (List.mem_of_getElem? (i := 168) rfl) rfl
theorem kw_129 : Cond.instanceMethod yJ0_indexOf_7cf53 ∈ wsG := kT_1 (List.mem_of_getElem? (i := 169) rfl) rfl
theorem kw_130 : Cond.selects RJ0 yJ0_indexOf_7cf53 yJ0_indexOf_7cf53 ∈ wsG := kT_1 (List.mem_of_getElem? (i := 170) rfl) rfl
theorem kw_131 : Cond.code yJ0_indexOf_7cf53 cJ0_indexOf_7cf53 3 (some .int) ∈ wsG := kT_1 (List.mem_of_getElem? (i := 171) rfl) rfl
theorem kw_132 : Cond.fieldLink RJ0 9 "java/lang/String" "value" "[B" ∈ wsG := kT_4 (List.mem_of_getElem? (i := 64) rfl) rfl
theorem kw_133 : Cond.methodLink RJ0 492 yJ0_isLatin1_aae02 ∈ wsG := kT_1 (List.mem_of_getElem? (i := 172) rfl) rfl
theorem kw_134 : Cond.instanceMethod yJ0_isLatin1_aae02 ∈ wsG := kT_1 (List.mem_of_getElem? (i := 173) rfl) rfl
theorem kw_135 : Cond.selects RJ0 yJ0_isLatin1_aae02 yJ0_isLatin1_aae02 ∈ wsG := kT_1 (List.mem_of_getElem? (i := 174) rfl) rfl
theorem kw_136 : Cond.code yJ0_isLatin1_aae02 cJ0_isLatin1_aae02 1 (some .boolean) ∈ wsG := kT_1 (List.mem_of_getElem? (i := 175) rfl) rfl
theorem kw_137 : Cond.fieldLink RJ0 38 "java/lang/String" "COMPACT_STRINGS" "Z" ∈ wsG := kT_1 (List.mem_of_getElem? (i := 176) rfl) rfl
theorem kw_138 : Cond.fieldLink RJ0 15 "java/lang/String" "coder" "B" ∈ wsG := kT_4 (List.mem_of_getElem? (i := 63) rfl) rfl
theorem kw_139 : Cond.methodLink RJ0 505 yJ0_length_8abf5 ∈ wsG := kT_1 (List.mem_of_getElem? (i := 178) rfl) rfl
theorem kw_140 : Cond.instanceMethod yJ0_length_8abf5 ∈ wsG := kT_1 (List.mem_of_getElem? (i := 179) rfl) rfl
theorem kw_141 : Cond.selects RJ0 yJ0_length_8abf5 yJ0_length_8abf5 ∈ wsG := kT_1 (List.mem_of_getElem? (i := 180) rfl) rfl
theorem kw_142 : Cond.code yJ0_length_8abf5 cJ0_length_8abf5 1 (some .int) ∈ wsG := kT_1 (List.mem_of_getElem? (i := 181) rfl) rfl
theorem kw_143 : Cond.methodLink RJ0 335 yJ0_coder_7d493 ∈ wsG := kT_1 (List.mem_of_getElem? (i := 182) rfl) rfl
theorem kw_144 : Cond.instanceMethod yJ0_coder_7d493 ∈ wsG := kT_1 (List.mem_of_getElem? (i := 183) rfl) rfl
theorem kw_145 : Cond.selects RJ0 yJ0_coder_7d493 yJ0_coder_7d493 ∈ wsG := kT_1 (List.mem_of_getElem? (i := 184) rfl) rfl
theorem kw_146 : Cond.code yJ0_coder_7d493 cJ0_coder_7d493 1 (some .byte) ∈ wsG := kT_1 (List.mem_of_getElem? (i := 185) rfl) rfl
theorem kw_147 : Cond.methodLink RJ0 637 yJ1_indexOf_4cfef ∈ wsG := kT_1 (List.mem_of_getElem? (i := 186) rfl) rfl
theorem kw_148 : Cond.static yJ1_indexOf_4cfef ∈ wsG := kT_1 (List.mem_of_getElem? (i := 187) rfl) rfl
theorem kw_149 : Cond.initialized RJ1 ∈ wsG := kT_1 (List.mem_of_getElem? (i := 7) rfl) rfl
theorem kw_150 : Cond.code yJ1_indexOf_4cfef cJ1_indexOf_4cfef 4 (some .int) ∈ wsG := kT_1 (List.mem_of_getElem? (i := 188) rfl) rfl
theorem kw_151 : Cond.methodLink RJ1 92 Lib.Math.max.name ∈ wsG := kT_1 (List.mem_of_getElem? (i := 192) rfl) rfl
theorem kw_152 : Cond.static Lib.Math.max.name ∈ wsG := kT_1 (List.mem_of_getElem? (i := 193) rfl) rfl
theorem kw_153 : Cond.initialized "java/lang/Math" ∈ wsG := kT_1 (List.mem_of_getElem? (i := 8) rfl) rfl
theorem kw_154 : Cond.code Lib.Math.max.name Lib.Math.max.code 2 (some .int) ∈ wsG := kT_1 (List.mem_of_getElem? (i := 194) rfl) rfl
theorem kw_155 : Cond.methodLink RJ1 38 Lib.Math.min.name ∈ wsG := kT_1 (List.mem_of_getElem? (i := 195) rfl) rfl
theorem kw_156 : Cond.static Lib.Math.min.name ∈ wsG := kT_1 (List.mem_of_getElem? (i := 196) rfl) rfl
theorem kw_157 : Cond.code Lib.Math.min.name Lib.Math.min.code 2 (some .int) ∈ wsG := kT_1 (List.mem_of_getElem? (i := 197) rfl) rfl
theorem kw_158 : Cond.methodLink RJ1 88 yJ1_canEncode_9a6ad ∈ wsG := kT_1 (List.mem_of_getElem? (i := 189) rfl) rfl
theorem kw_159 : Cond.static yJ1_canEncode_9a6ad ∈ wsG := kT_1 (List.mem_of_getElem? (i := 190) rfl) rfl
theorem kw_160 : Cond.code yJ1_canEncode_9a6ad cJ1_canEncode_9a6ad 1 (some .boolean) ∈ wsG := kT_1 (List.mem_of_getElem? (i := 191) rfl) rfl
theorem kw_161 : Cond.methodLink RJ1 95 yJ1_indexOfChar_4cfef ∈ wsG := kT_1 (List.mem_of_getElem? (i := 198) rfl) rfl
theorem kw_162 : Cond.static yJ1_indexOfChar_4cfef ∈ wsG := kT_1 (List.mem_of_getElem? (i := 199) rfl) rfl
theorem kw_163 : Cond.code yJ1_indexOfChar_4cfef cJ1_indexOfChar_4cfef 6 (some .int) ∈ wsG := kT_1 (List.mem_of_getElem? (i := 200) rfl) rfl
theorem kw_164 : Cond.methodLink RJ0 640 yJ2_indexOf_4cfef ∈ wsG := kT_1 (List.mem_of_getElem? (i := 201) rfl) rfl
theorem kw_165 : Cond.static yJ2_indexOf_4cfef ∈ wsG := kT_1 (List.mem_of_getElem? (i := 202) rfl) rfl
theorem kw_166 : Cond.initialized RJ2 ∈ wsG := kT_1 (List.mem_of_getElem? (i := 9) rfl) rfl
theorem kw_167 : Cond.code yJ2_indexOf_4cfef cJ2_indexOf_4cfef 4 (some .int) ∈ wsG := kT_1 (List.mem_of_getElem? (i := 203) rfl) rfl
theorem kw_168 : Cond.methodLink RJ2 224 Lib.Math.max.name ∈ wsG := kT_1 (List.mem_of_getElem? (i := 204) rfl) rfl
theorem kw_169 : Cond.methodLink RJ2 183 Lib.Math.min.name ∈ wsG := kT_1 (List.mem_of_getElem? (i := 205) rfl) rfl
theorem kw_170 : Cond.constant RJ2 227 (65536) ∈ wsG := kT_1 (List.mem_of_getElem? (i := 206) rfl) rfl
theorem kw_171 : Cond.methodLink RJ2 228 yJ2_indexOfChar_4cfef ∈ wsG := kT_1 (List.mem_of_getElem? (i := 207) rfl) rfl
theorem kw_172 : Cond.static yJ2_indexOfChar_4cfef ∈ wsG := kT_1 (List.mem_of_getElem? (i := 208) rfl) rfl
theorem kw_173 : Cond.code yJ2_indexOfChar_4cfef cJ2_indexOfChar_4cfef 4 (some .int) ∈ wsG := kT_1 (List.mem_of_getElem? (i := 209) rfl) rfl
theorem kw_174 : Cond.methodLink RJ2 96 yJ2_checkBoundsBeginEnd_d044e ∈ wsG := kT_1 (List.mem_of_getElem? (i := 210) rfl) rfl
theorem kw_175 : Cond.static yJ2_checkBoundsBeginEnd_d044e ∈ wsG := kT_1 (List.mem_of_getElem? (i := 211) rfl) rfl
theorem kw_176 : Cond.code yJ2_checkBoundsBeginEnd_d044e cJ2_checkBoundsBeginEnd_d044e 3 none ∈ wsG := kT_1 (List.mem_of_getElem? (i := 212) rfl) rfl
theorem kw_177 : Cond.methodLink RJ2 48 yJ2_length_9d52b ∈ wsG := kT_1 (List.mem_of_getElem? (i := 213) rfl) rfl
theorem kw_178 : Cond.static yJ2_length_9d52b ∈ wsG := kT_1 (List.mem_of_getElem? (i := 214) rfl) rfl
theorem kw_179 : Cond.code yJ2_length_9d52b cJ2_length_9d52b 1 (some .int) ∈ wsG := kT_1 (List.mem_of_getElem? (i := 215) rfl) rfl
theorem kw_180 : Cond.methodLink RJ2 241 yJ0_checkBoundsBeginEnd_23922 ∈ wsG := kT_1 (List.mem_of_getElem? (i := 216) rfl) rfl
theorem kw_181 : Cond.static yJ0_checkBoundsBeginEnd_23922 ∈ wsG := kT_1 (List.mem_of_getElem? (i := 217) rfl) rfl
theorem kw_182 : Cond.code yJ0_checkBoundsBeginEnd_23922 cJ0_checkBoundsBeginEnd_23922 3 none ∈ wsG := kT_1 (List.mem_of_getElem? (i := 218) rfl) rfl
theorem kw_183 : Cond.fieldLink RJ0 1053 "jdk/internal/util/Preconditions" "SIOOBE_FORMATTER" "Ljava/util/function/BiFunction;" ∈ wsG := kT_1 (List.mem_of_getElem? (i := 219) rfl) rfl
theorem kw_184 : Cond.methodLink RJ0 1062 yJ3_checkFromToIndex_8c36e ∈ wsG := kT_1 (List.mem_of_getElem? (i := 221) rfl) rfl
theorem kw_185 : Cond.static yJ3_checkFromToIndex_8c36e ∈ wsG := kT_1 (List.mem_of_getElem? (i := 222) rfl) rfl
theorem kw_186 : Cond.initialized RJ3 ∈ wsG := kT_1 (List.mem_of_getElem? (i := 10) rfl) rfl
theorem kw_187 : Cond.code yJ3_checkFromToIndex_8c36e cJ3_checkFromToIndex_8c36e 4 (some .int) ∈ wsG := kT_1 (List.mem_of_getElem? (i := 223) rfl) rfl
theorem kw_188 : Cond.methodLink RJ2 244 yJ2_indexOfCharUnsafe_4cfef ∈ wsG := kT_1 (List.mem_of_getElem? (i := 224) rfl) rfl
theorem kw_189 : Cond.static yJ2_indexOfCharUnsafe_4cfef ∈ wsG := kT_1 (List.mem_of_getElem? (i := 225) rfl) rfl
theorem kw_190 : Cond.code yJ2_indexOfCharUnsafe_4cfef cJ2_indexOfCharUnsafe_4cfef 5 (some .int) ∈ wsG := kT_1 (List.mem_of_getElem? (i := 226) rfl) rfl
theorem kw_191 : Cond.methodLink RJ2 71 yJ2_getChar_3b067 ∈ wsG := kT_1 (List.mem_of_getElem? (i := 227) rfl) rfl
theorem kw_192 : Cond.static yJ2_getChar_3b067 ∈ wsG := kT_1 (List.mem_of_getElem? (i := 228) rfl) rfl
theorem kw_193 : Cond.code yJ2_getChar_3b067 cJ2_getChar_3b067 2 (some .char) ∈ wsG := kT_1 (List.mem_of_getElem? (i := 229) rfl) rfl
theorem kw_194 : Cond.fieldLink RJ2 44 "java/lang/StringUTF16" "$assertionsDisabled" "Z" ∈ wsG := kT_1 (List.mem_of_getElem? (i := 230) rfl) rfl
theorem kw_195 : Cond.fieldLink RJ2 59 "java/lang/StringUTF16" "HI_BYTE_SHIFT" "I" ∈ wsG := kT_1 (List.mem_of_getElem? (i := 232) rfl) rfl
theorem kw_196 : Cond.fieldLink RJ2 63 "java/lang/StringUTF16" "LO_BYTE_SHIFT" "I" ∈ wsG := kT_1 (List.mem_of_getElem? (i := 234) rfl) rfl
theorem kw_197 : Cond.methodLink RJ2 232 yJ2_indexOfSupplementary_4cfef ∈ wsG := kT_1 (List.mem_of_getElem? (i := 236) rfl) rfl
theorem kw_198 : Cond.static yJ2_indexOfSupplementary_4cfef ∈ wsG := kT_1 (List.mem_of_getElem? (i := 237) rfl) rfl
theorem kw_199 : Cond.code yJ2_indexOfSupplementary_4cfef cJ2_indexOfSupplementary_4cfef 7 (some .int) ∈ wsG := kT_1 (List.mem_of_getElem? (i := 238) rfl) rfl
theorem kw_200 : Cond.methodLink RJ2 164 yJ11_isValidCodePoint_9a6ad ∈ wsG := kT_1 (List.mem_of_getElem? (i := 239) rfl) rfl
theorem kw_201 : Cond.static yJ11_isValidCodePoint_9a6ad ∈ wsG := kT_2 (List.mem_of_getElem? (i := 0) rfl) rfl
theorem kw_202 : Cond.initialized RJ11 ∈ wsG := kT_1 (List.mem_of_getElem? (i := 11) rfl) rfl
theorem kw_203 : Cond.code yJ11_isValidCodePoint_9a6ad cJ11_isValidCodePoint_9a6ad 2 (some .boolean) ∈ wsG := kT_2 (List.mem_of_getElem? (i := 1) rfl) rfl
theorem kw_204 : Cond.methodLink RJ2 157 yJ11_highSurrogate_5068e ∈ wsG := kT_2 (List.mem_of_getElem? (i := 2) rfl) rfl
theorem kw_205 : Cond.static yJ11_highSurrogate_5068e ∈ wsG := kT_2 (List.mem_of_getElem? (i := 3) rfl) rfl
theorem kw_206 : Cond.code yJ11_highSurrogate_5068e cJ11_highSurrogate_5068e 1 (some .char) ∈ wsG := kT_2 (List.mem_of_getElem? (i := 4) rfl) rfl
theorem kw_207 : Cond.constant RJ11 110 (55232) ∈ wsG := kT_2 (List.mem_of_getElem? (i := 5) rfl) rfl
theorem kw_208 : Cond.methodLink RJ2 161 yJ11_lowSurrogate_5068e ∈ wsG := kT_2 (List.mem_of_getElem? (i := 6) rfl) rfl
theorem kw_209 : Cond.static yJ11_lowSurrogate_5068e ∈ wsG := kT_2 (List.mem_of_getElem? (i := 7) rfl) rfl
theorem kw_210 : Cond.code yJ11_lowSurrogate_5068e cJ11_lowSurrogate_5068e 1 (some .char) ∈ wsG := kT_2 (List.mem_of_getElem? (i := 8) rfl) rfl
theorem kw_211 : Cond.constant RJ11 76 (56320) ∈ wsG := kT_2 (List.mem_of_getElem? (i := 9) rfl) rfl
theorem kw_212 : Cond.methodLink RL 26 yX4_fault ∈ wsG := kT_3 (List.mem_of_getElem? (i := 101) rfl) rfl
theorem kw_213 : Cond.instanceMethod yX4_fault ∈ wsG := kT_3 (List.mem_of_getElem? (i := 102) rfl) rfl
theorem kw_214 : Cond.selects RX4 yX4_fault yX4_fault ∈ wsG := kT_3 (List.mem_of_getElem? (i := 103) rfl) rfl
theorem kw_215 : Cond.code yX4_fault cX4_fault 1 (some .int) ∈ wsG := kT_3 (List.mem_of_getElem? (i := 104) rfl) rfl
theorem kw_216 : Cond.methodLink RX4 72 yX4_faultNow ∈ wsG := kT_3 (List.mem_of_getElem? (i := 105) rfl) rfl
theorem kw_217 : Cond.instanceMethod yX4_faultNow ∈ wsG := kT_3 (List.mem_of_getElem? (i := 107) rfl) rfl
theorem kw_218 : Cond.selects RX4 yX4_faultNow yX4_faultNow ∈ wsG := kP_1 (List.mem_of_getElem? (i := 13) rfl) rfl
theorem kw_219 : Cond.code yX4_faultNow cX4_faultNow 2 (some .int) ∈ wsG := kT_3 (List.mem_of_getElem? (i := 108) rfl) rfl
theorem kw_220 : Cond.methodLink RX4 68 yX4_isGood ∈ wsG := kT_3 (List.mem_of_getElem? (i := 109) rfl) rfl
theorem kw_221 : Cond.instanceMethod yX4_isGood ∈ wsG := kT_3 (List.mem_of_getElem? (i := 111) rfl) rfl
theorem kw_222 : Cond.selects RX4 yX4_isGood yX4_isGood ∈ wsG := kP_1 (List.mem_of_getElem? (i := 14) rfl) rfl
theorem kw_223 : Cond.code yX4_isGood cX4_isGood 3 (some .boolean) ∈ wsG := kT_3 (List.mem_of_getElem? (i := 112) rfl) rfl
theorem kw_224 : Cond.methodLink RX4 64 yX4_kindBy ∈ wsG := kT_3 (List.mem_of_getElem? (i := 113) rfl) rfl
theorem kw_225 : Cond.static yX4_kindBy ∈ wsG := kT_3 (List.mem_of_getElem? (i := 114) rfl) rfl
theorem kw_226 : Cond.code yX4_kindBy cX4_kindBy 1 (some .int) ∈ wsG := kT_3 (List.mem_of_getElem? (i := 115) rfl) rfl
theorem kw_227 : Cond.methodLink RL 27 yX3_leaf ∈ wsG := kT_2 (List.mem_of_getElem? (i := 11) rfl) rfl
theorem kw_228 : Cond.instanceMethod yX3_leaf ∈ wsG := kT_2 (List.mem_of_getElem? (i := 12) rfl) rfl
theorem kw_229 : Cond.selects RX3 yX3_leaf yX3_leaf ∈ wsG := kT_2 (List.mem_of_getElem? (i := 13) rfl) rfl
theorem kw_230 : Cond.code yX3_leaf cX3_leaf 3 (some .int) ∈ wsG := kT_2 (List.mem_of_getElem? (i := 14) rfl) rfl
theorem kw_231 : Cond.methodLink RX3 61 yX0_isLeaf ∈ wsG := kT_2 (List.mem_of_getElem? (i := 15) rfl) rfl
theorem kw_232 : Cond.instanceMethod yX0_isLeaf ∈ wsG := kT_2 (List.mem_of_getElem? (i := 16) rfl) rfl
theorem kw_233 : Cond.selects RX0 yX0_isLeaf yX0_isLeaf ∈ wsG := kT_2 (List.mem_of_getElem? (i := 17) rfl) rfl
theorem kw_234 : Cond.code yX0_isLeaf cX0_isLeaf 1 (some .boolean) ∈ wsG := kT_2 (List.mem_of_getElem? (i := 18) rfl) rfl
theorem kw_235 : Cond.methodLink RX0 30 yX0_firstFault ∈ wsG := kT_2 (List.mem_of_getElem? (i := 19) rfl) rfl
theorem kw_236 : Cond.methodLink RX3 65 yX0_kindAt ∈ wsG := kT_2 (List.mem_of_getElem? (i := 20) rfl) rfl
theorem kw_237 : Cond.methodLink RX3 69 yX0_digitAt ∈ wsG := kT_2 (List.mem_of_getElem? (i := 21) rfl) rfl
theorem kw_238 : Cond.methodLink RX3 72 yX2_become ∈ wsG := kT_2 (List.mem_of_getElem? (i := 22) rfl) rfl
theorem kw_239 : Cond.instanceMethod yX2_become ∈ wsG := kT_2 (List.mem_of_getElem? (i := 23) rfl) rfl
theorem kw_240 : Cond.selects RX2 yX2_become yX2_become ∈ wsG := kT_2 (List.mem_of_getElem? (i := 24) rfl) rfl
theorem kw_241 : Cond.code yX2_become cX2_become 5 none ∈ wsG := kT_2 (List.mem_of_getElem? (i := 25) rfl) rfl
theorem kw_242 : Cond.methodLink RX2 27 Lib.Math.min.name ∈ wsG := kT_2 (List.mem_of_getElem? (i := 26) rfl) rfl
theorem kw_243 : Cond.methodLink RX3 76 yX1_begin ∈ wsG := kT_2 (List.mem_of_getElem? (i := 27) rfl) rfl
theorem kw_244 : Cond.instanceMethod yX1_begin ∈ wsG := kT_2 (List.mem_of_getElem? (i := 28) rfl) rfl
theorem kw_245 : Cond.selects RX1 yX1_begin yX1_begin ∈ wsG := kT_2 (List.mem_of_getElem? (i := 29) rfl) rfl
theorem kw_246 : Cond.code yX1_begin cX1_begin 3 none ∈ wsG := kT_2 (List.mem_of_getElem? (i := 30) rfl) rfl
theorem kw_247 : Cond.methodLink RL 30 yX4_leaf ∈ wsG := kT_3 (List.mem_of_getElem? (i := 116) rfl) rfl
theorem kw_248 : Cond.instanceMethod yX4_leaf ∈ wsG := kT_3 (List.mem_of_getElem? (i := 117) rfl) rfl
theorem kw_249 : Cond.selects RX4 yX4_leaf yX4_leaf ∈ wsG := kT_3 (List.mem_of_getElem? (i := 118) rfl) rfl
theorem kw_250 : Cond.code yX4_leaf cX4_leaf 2 (some .int) ∈ wsG := kT_3 (List.mem_of_getElem? (i := 119) rfl) rfl
theorem kw_251 : Cond.fieldLink RX4 76 "BlotLandModel" "strokes" "I" ∈ wsG := kT_3 (List.mem_of_getElem? (i := 3) rfl) rfl
theorem kw_252 : Cond.fieldLink RX4 83 "BlotLandModel" "leaves" "I" ∈ wsG := kT_3 (List.mem_of_getElem? (i := 2) rfl) rfl
theorem kw_253 : Cond.fieldLink RX4 86 "BlotLandModel" "sanded" "I" ∈ wsG := kT_3 (List.mem_of_getElem? (i := 8) rfl) rfl
theorem kw_254 : Cond.fieldLink RX4 89 "BlotLandModel" "evenings" "I" ∈ wsG := kT_3 (List.mem_of_getElem? (i := 10) rfl) rfl
theorem kw_255 : Cond.fieldLink RX4 92 "BlotLandModel" "found" "I" ∈ wsG := kT_3 (List.mem_of_getElem? (i := 11) rfl) rfl
theorem kw_256 : Cond.methodLink RX4 79 yX4_longAt ∈ wsG := kT_3 (List.mem_of_getElem? (i := 120) rfl) rfl
theorem kw_257 : Cond.static yX4_longAt ∈ wsG := kT_3 (List.mem_of_getElem? (i := 121) rfl) rfl
theorem kw_258 : Cond.code yX4_longAt cX4_longAt 2 (some .int) ∈ wsG := kT_3 (List.mem_of_getElem? (i := 122) rfl) rfl
theorem kw_259 : Cond.methodLink RL 31 yX3_about ∈ wsG := kT_2 (List.mem_of_getElem? (i := 31) rfl) rfl
theorem kw_260 : Cond.instanceMethod yX3_about ∈ wsG := kT_2 (List.mem_of_getElem? (i := 32) rfl) rfl
theorem kw_261 : Cond.selects RX3 yX3_about yX3_about ∈ wsG := kT_2 (List.mem_of_getElem? (i := 33) rfl) rfl
theorem kw_262 : Cond.code yX3_about cX3_about 3 (some .int) ∈ wsG := kT_2 (List.mem_of_getElem? (i := 34) rfl) rfl
theorem kw_263 : Cond.methodLink RX3 79 yX3_isStroke ∈ wsG := kT_2 (List.mem_of_getElem? (i := 35) rfl) rfl
theorem kw_264 : Cond.instanceMethod yX3_isStroke ∈ wsG := kT_2 (List.mem_of_getElem? (i := 37) rfl) rfl
theorem kw_265 : Cond.selects RX3 yX3_isStroke yX3_isStroke ∈ wsG := kP_1 (List.mem_of_getElem? (i := 1) rfl) rfl
theorem kw_266 : Cond.code yX3_isStroke cX3_isStroke 2 (some .boolean) ∈ wsG := kT_2 (List.mem_of_getElem? (i := 38) rfl) rfl
theorem kw_267 : Cond.methodLink RX3 94 yX1_isSanded ∈ wsG := kT_2 (List.mem_of_getElem? (i := 39) rfl) rfl
theorem kw_268 : Cond.instanceMethod yX1_isSanded ∈ wsG := kT_2 (List.mem_of_getElem? (i := 40) rfl) rfl
theorem kw_269 : Cond.selects RX1 yX1_isSanded yX1_isSanded ∈ wsG := kT_2 (List.mem_of_getElem? (i := 41) rfl) rfl
theorem kw_270 : Cond.code yX1_isSanded cX1_isSanded 2 (some .boolean) ∈ wsG := kT_2 (List.mem_of_getElem? (i := 42) rfl) rfl
theorem kw_271 : Cond.methodLink RX3 97 yX3_heavy ∈ wsG := kT_2 (List.mem_of_getElem? (i := 43) rfl) rfl
theorem kw_272 : Cond.instanceMethod yX3_heavy ∈ wsG := kT_2 (List.mem_of_getElem? (i := 45) rfl) rfl
theorem kw_273 : Cond.selects RX3 yX3_heavy yX3_heavy ∈ wsG := kP_1 (List.mem_of_getElem? (i := 2) rfl) rfl
theorem kw_274 : Cond.code yX3_heavy cX3_heavy 4 (some .int) ∈ wsG := kT_2 (List.mem_of_getElem? (i := 46) rfl) rfl
theorem kw_275 : Cond.methodLink RX3 236 yX3_isAllFoundWith ∈ wsG := kT_2 (List.mem_of_getElem? (i := 47) rfl) rfl
theorem kw_276 : Cond.instanceMethod yX3_isAllFoundWith ∈ wsG := kT_2 (List.mem_of_getElem? (i := 49) rfl) rfl
theorem kw_277 : Cond.selects RX3 yX3_isAllFoundWith yX3_isAllFoundWith ∈ wsG := kP_1 (List.mem_of_getElem? (i := 3) rfl) rfl
theorem kw_278 : Cond.code yX3_isAllFoundWith cX3_isAllFoundWith 4 (some .boolean) ∈ wsG := kT_2 (List.mem_of_getElem? (i := 50) rfl) rfl
theorem kw_279 : Cond.methodLink RX3 225 yX3_comesIf ∈ wsG := kT_2 (List.mem_of_getElem? (i := 51) rfl) rfl
theorem kw_280 : Cond.instanceMethod yX3_comesIf ∈ wsG := kT_2 (List.mem_of_getElem? (i := 53) rfl) rfl
theorem kw_281 : Cond.selects RX3 yX3_comesIf yX3_comesIf ∈ wsG := kP_1 (List.mem_of_getElem? (i := 4) rfl) rfl
theorem kw_282 : Cond.code yX3_comesIf cX3_comesIf 10 (some .int) ∈ wsG := kT_2 (List.mem_of_getElem? (i := 54) rfl) rfl
theorem kw_283 : Cond.methodLink RX3 121 yX2_wetAt ∈ wsG := kT_2 (List.mem_of_getElem? (i := 55) rfl) rfl
theorem kw_284 : Cond.instanceMethod yX2_wetAt ∈ wsG := kT_2 (List.mem_of_getElem? (i := 56) rfl) rfl
theorem kw_285 : Cond.selects RX2 yX2_wetAt yX2_wetAt ∈ wsG := kT_2 (List.mem_of_getElem? (i := 57) rfl) rfl
theorem kw_286 : Cond.code yX2_wetAt cX2_wetAt 4 (some .int) ∈ wsG := kT_2 (List.mem_of_getElem? (i := 58) rfl) rfl
theorem kw_287 : Cond.methodLink RX2 33 Lib.Math.max.name ∈ wsG := kT_2 (List.mem_of_getElem? (i := 59) rfl) rfl
theorem kw_288 : Cond.methodLink RX3 228 yX2_givesTo ∈ wsG := kT_2 (List.mem_of_getElem? (i := 60) rfl) rfl
theorem kw_289 : Cond.instanceMethod yX2_givesTo ∈ wsG := kT_2 (List.mem_of_getElem? (i := 61) rfl) rfl
theorem kw_290 : Cond.selects RX2 yX2_givesTo yX2_givesTo ∈ wsG := kT_2 (List.mem_of_getElem? (i := 62) rfl) rfl
theorem kw_291 : Cond.code yX2_givesTo cX2_givesTo 5 (some .int) ∈ wsG := kT_2 (List.mem_of_getElem? (i := 63) rfl) rfl
theorem kw_292 : Cond.methodLink RX2 36 yX2_isA ∈ wsG := kT_2 (List.mem_of_getElem? (i := 64) rfl) rfl
theorem kw_293 : Cond.instanceMethod yX2_isA ∈ wsG := kT_2 (List.mem_of_getElem? (i := 65) rfl) rfl
theorem kw_294 : Cond.selects RX2 yX2_isA yX2_isA ∈ wsG := kT_2 (List.mem_of_getElem? (i := 66) rfl) rfl
theorem kw_295 : Cond.code yX2_isA cX2_isA 2 (some .boolean) ∈ wsG := kT_2 (List.mem_of_getElem? (i := 67) rfl) rfl
theorem kw_296 : Cond.methodLink RL 35 yX4_about ∈ wsG := kT_3 (List.mem_of_getElem? (i := 123) rfl) rfl
theorem kw_297 : Cond.instanceMethod yX4_about ∈ wsG := kT_3 (List.mem_of_getElem? (i := 124) rfl) rfl
theorem kw_298 : Cond.selects RX4 yX4_about yX4_about ∈ wsG := kT_3 (List.mem_of_getElem? (i := 125) rfl) rfl
theorem kw_299 : Cond.code yX4_about cX4_about 3 (some .int) ∈ wsG := kT_3 (List.mem_of_getElem? (i := 126) rfl) rfl
theorem kw_300 : Cond.methodLink RX4 109 yX4_isStroke ∈ wsG := kT_3 (List.mem_of_getElem? (i := 127) rfl) rfl
theorem kw_301 : Cond.instanceMethod yX4_isStroke ∈ wsG := kT_3 (List.mem_of_getElem? (i := 129) rfl) rfl
theorem kw_302 : Cond.selects RX4 yX4_isStroke yX4_isStroke ∈ wsG := kP_1 (List.mem_of_getElem? (i := 15) rfl) rfl
theorem kw_303 : Cond.code yX4_isStroke cX4_isStroke 2 (some .boolean) ∈ wsG := kT_3 (List.mem_of_getElem? (i := 130) rfl) rfl
theorem kw_304 : Cond.methodLink RX4 112 yX4_strokeNow ∈ wsG := kT_3 (List.mem_of_getElem? (i := 131) rfl) rfl
theorem kw_305 : Cond.instanceMethod yX4_strokeNow ∈ wsG := kT_3 (List.mem_of_getElem? (i := 133) rfl) rfl
theorem kw_306 : Cond.selects RX4 yX4_strokeNow yX4_strokeNow ∈ wsG := kP_2 (List.mem_of_getElem? (i := 0) rfl) rfl
theorem kw_307 : Cond.code yX4_strokeNow cX4_strokeNow 3 (some .int) ∈ wsG := kT_3 (List.mem_of_getElem? (i := 134) rfl) rfl
theorem kw_308 : Cond.methodLink RX4 106 yX4_heavyOf ∈ wsG := kT_3 (List.mem_of_getElem? (i := 135) rfl) rfl
theorem kw_309 : Cond.instanceMethod yX4_heavyOf ∈ wsG := kT_3 (List.mem_of_getElem? (i := 137) rfl) rfl
theorem kw_310 : Cond.selects RX4 yX4_heavyOf yX4_heavyOf ∈ wsG := kP_2 (List.mem_of_getElem? (i := 1) rfl) rfl
theorem kw_311 : Cond.code yX4_heavyOf cX4_heavyOf 5 (some .int) ∈ wsG := kT_3 (List.mem_of_getElem? (i := 138) rfl) rfl
theorem kw_312 : Cond.methodLink RX4 142 yX4_isFound ∈ wsG := kT_3 (List.mem_of_getElem? (i := 139) rfl) rfl
theorem kw_313 : Cond.instanceMethod yX4_isFound ∈ wsG := kT_3 (List.mem_of_getElem? (i := 141) rfl) rfl
theorem kw_314 : Cond.selects RX4 yX4_isFound yX4_isFound ∈ wsG := kP_2 (List.mem_of_getElem? (i := 2) rfl) rfl
theorem kw_315 : Cond.code yX4_isFound cX4_isFound 3 (some .boolean) ∈ wsG := kT_3 (List.mem_of_getElem? (i := 142) rfl) rfl
theorem kw_316 : Cond.methodLink RX4 121 yX4_comesTo ∈ wsG := kT_3 (List.mem_of_getElem? (i := 143) rfl) rfl
theorem kw_317 : Cond.instanceMethod yX4_comesTo ∈ wsG := kT_3 (List.mem_of_getElem? (i := 145) rfl) rfl
theorem kw_318 : Cond.selects RX4 yX4_comesTo yX4_comesTo ∈ wsG := kP_2 (List.mem_of_getElem? (i := 3) rfl) rfl
theorem kw_319 : Cond.code yX4_comesTo cX4_comesTo 5 (some .int) ∈ wsG := kT_3 (List.mem_of_getElem? (i := 146) rfl) rfl
theorem kw_320 : Cond.methodLink RX4 102 yX4_comesOf ∈ wsG := kT_3 (List.mem_of_getElem? (i := 147) rfl) rfl
theorem kw_321 : Cond.instanceMethod yX4_comesOf ∈ wsG := kT_3 (List.mem_of_getElem? (i := 149) rfl) rfl
theorem kw_322 : Cond.selects RX4 yX4_comesOf yX4_comesOf ∈ wsG := kP_2 (List.mem_of_getElem? (i := 4) rfl) rfl
theorem kw_323 : Cond.code yX4_comesOf cX4_comesOf 8 (some .int) ∈ wsG := kT_3 (List.mem_of_getElem? (i := 150) rfl) rfl
theorem kw_324 : Cond.methodLink RX4 99 yX4_wetAt ∈ wsG := kT_3 (List.mem_of_getElem? (i := 151) rfl) rfl
theorem kw_325 : Cond.instanceMethod yX4_wetAt ∈ wsG := kT_3 (List.mem_of_getElem? (i := 153) rfl) rfl
theorem kw_326 : Cond.selects RX4 yX4_wetAt yX4_wetAt ∈ wsG := kP_2 (List.mem_of_getElem? (i := 5) rfl) rfl
theorem kw_327 : Cond.code yX4_wetAt cX4_wetAt 5 (some .int) ∈ wsG := kT_3 (List.mem_of_getElem? (i := 154) rfl) rfl
theorem kw_328 : Cond.methodLink RX4 95 yX4_isIn ∈ wsG := kT_3 (List.mem_of_getElem? (i := 155) rfl) rfl
theorem kw_329 : Cond.static yX4_isIn ∈ wsG := kT_3 (List.mem_of_getElem? (i := 156) rfl) rfl
theorem kw_330 : Cond.code yX4_isIn cX4_isIn 2 (some .boolean) ∈ wsG := kT_3 (List.mem_of_getElem? (i := 157) rfl) rfl
theorem kw_331 : Cond.methodLink RL 36 yX3_as ∈ wsG := kT_2 (List.mem_of_getElem? (i := 68) rfl) rfl
theorem kw_332 : Cond.instanceMethod yX3_as ∈ wsG := kT_2 (List.mem_of_getElem? (i := 69) rfl) rfl
theorem kw_333 : Cond.selects RX3 yX3_as yX3_as ∈ wsG := kT_2 (List.mem_of_getElem? (i := 70) rfl) rfl
theorem kw_334 : Cond.code yX3_as cX3_as 3 (some .int) ∈ wsG := kT_2 (List.mem_of_getElem? (i := 71) rfl) rfl
theorem kw_335 : Cond.methodLink RX3 100 yX3_isKind ∈ wsG := kT_2 (List.mem_of_getElem? (i := 72) rfl) rfl
theorem kw_336 : Cond.static yX3_isKind ∈ wsG := kT_2 (List.mem_of_getElem? (i := 73) rfl) rfl
theorem kw_337 : Cond.code yX3_isKind cX3_isKind 1 (some .boolean) ∈ wsG := kT_2 (List.mem_of_getElem? (i := 74) rfl) rfl
theorem kw_338 : Cond.methodLink RX3 103 yX2_isA ∈ wsG := kT_2 (List.mem_of_getElem? (i := 75) rfl) rfl
theorem kw_339 : Cond.methodLink RL 39 yX4_as ∈ wsG := kT_3 (List.mem_of_getElem? (i := 158) rfl) rfl
theorem kw_340 : Cond.instanceMethod yX4_as ∈ wsG := kT_3 (List.mem_of_getElem? (i := 159) rfl) rfl
theorem kw_341 : Cond.selects RX4 yX4_as yX4_as ∈ wsG := kT_3 (List.mem_of_getElem? (i := 160) rfl) rfl
theorem kw_342 : Cond.code yX4_as cX4_as 4 (some .int) ∈ wsG := kT_3 (List.mem_of_getElem? (i := 161) rfl) rfl
theorem kw_343 : Cond.methodLink RL 40 yX3_write ∈ wsG := kT_2 (List.mem_of_getElem? (i := 76) rfl) rfl
theorem kw_344 : Cond.instanceMethod yX3_write ∈ wsG := kT_2 (List.mem_of_getElem? (i := 77) rfl) rfl
theorem kw_345 : Cond.selects RX3 yX3_write yX3_write ∈ wsG := kT_2 (List.mem_of_getElem? (i := 78) rfl) rfl
theorem kw_346 : Cond.code yX3_write cX3_write 6 (some .int) ∈ wsG := kT_2 (List.mem_of_getElem? (i := 79) rfl) rfl
theorem kw_347 : Cond.methodLink RX3 106 yX3_isCell ∈ wsG := kT_2 (List.mem_of_getElem? (i := 80) rfl) rfl
theorem kw_348 : Cond.static yX3_isCell ∈ wsG := kT_2 (List.mem_of_getElem? (i := 81) rfl) rfl
theorem kw_349 : Cond.code yX3_isCell cX3_isCell 1 (some .boolean) ∈ wsG := kT_2 (List.mem_of_getElem? (i := 82) rfl) rfl
theorem kw_350 : Cond.methodLink RX3 109 yX3_hasLeaf ∈ wsG := kT_2 (List.mem_of_getElem? (i := 83) rfl) rfl
theorem kw_351 : Cond.instanceMethod yX3_hasLeaf ∈ wsG := kT_2 (List.mem_of_getElem? (i := 85) rfl) rfl
theorem kw_352 : Cond.selects RX3 yX3_hasLeaf yX3_hasLeaf ∈ wsG := kP_1 (List.mem_of_getElem? (i := 5) rfl) rfl
theorem kw_353 : Cond.code yX3_hasLeaf cX3_hasLeaf 1 (some .boolean) ∈ wsG := kT_2 (List.mem_of_getElem? (i := 86) rfl) rfl
theorem kw_354 : Cond.methodLink RL 44 yX4_write ∈ wsG := kT_3 (List.mem_of_getElem? (i := 162) rfl) rfl
theorem kw_355 : Cond.instanceMethod yX4_write ∈ wsG := kT_3 (List.mem_of_getElem? (i := 163) rfl) rfl
theorem kw_356 : Cond.selects RX4 yX4_write yX4_write ∈ wsG := kT_3 (List.mem_of_getElem? (i := 164) rfl) rfl
theorem kw_357 : Cond.code yX4_write cX4_write 5 (some .int) ∈ wsG := kT_3 (List.mem_of_getElem? (i := 165) rfl) rfl
theorem kw_358 : Cond.methodLink RL 45 yX3_sand ∈ wsG := kT_2 (List.mem_of_getElem? (i := 87) rfl) rfl
theorem kw_359 : Cond.instanceMethod yX3_sand ∈ wsG := kT_2 (List.mem_of_getElem? (i := 88) rfl) rfl
theorem kw_360 : Cond.selects RX3 yX3_sand yX3_sand ∈ wsG := kT_2 (List.mem_of_getElem? (i := 89) rfl) rfl
theorem kw_361 : Cond.code yX3_sand cX3_sand 4 (some .int) ∈ wsG := kT_2 (List.mem_of_getElem? (i := 90) rfl) rfl
theorem kw_362 : Cond.methodLink RX3 114 yX1_putSanded ∈ wsG := kT_2 (List.mem_of_getElem? (i := 91) rfl) rfl
theorem kw_363 : Cond.instanceMethod yX1_putSanded ∈ wsG := kT_2 (List.mem_of_getElem? (i := 92) rfl) rfl
theorem kw_364 : Cond.selects RX1 yX1_putSanded yX1_putSanded ∈ wsG := kT_2 (List.mem_of_getElem? (i := 93) rfl) rfl
theorem kw_365 : Cond.code yX1_putSanded cX1_putSanded 4 none ∈ wsG := kT_2 (List.mem_of_getElem? (i := 94) rfl) rfl
theorem kw_366 : Cond.methodLink RL 49 yX4_sand ∈ wsG := kT_3 (List.mem_of_getElem? (i := 166) rfl) rfl
theorem kw_367 : Cond.instanceMethod yX4_sand ∈ wsG := kT_3 (List.mem_of_getElem? (i := 167) rfl) rfl
theorem kw_368 : Cond.selects RX4 yX4_sand yX4_sand ∈ wsG := kT_3 (List.mem_of_getElem? (i := 168) rfl) rfl
theorem kw_369 : Cond.code yX4_sand cX4_sand 4 (some .int) ∈ wsG := kT_3 (List.mem_of_getElem? (i := 169) rfl) rfl
theorem kw_370 : Cond.methodLink RL 50 yX3_wet ∈ wsG := kT_2 (List.mem_of_getElem? (i := 95) rfl) rfl
theorem kw_371 : Cond.instanceMethod yX3_wet ∈ wsG := kT_2 (List.mem_of_getElem? (i := 96) rfl) rfl
theorem kw_372 : Cond.selects RX3 yX3_wet yX3_wet ∈ wsG := kT_2 (List.mem_of_getElem? (i := 97) rfl) rfl
theorem kw_373 : Cond.code yX3_wet cX3_wet 3 (some .int) ∈ wsG := kT_2 (List.mem_of_getElem? (i := 98) rfl) rfl
theorem kw_374 : Cond.methodLink RX3 118 yX3_isMinute ∈ wsG := kT_2 (List.mem_of_getElem? (i := 99) rfl) rfl
theorem kw_375 : Cond.static yX3_isMinute ∈ wsG := kT_2 (List.mem_of_getElem? (i := 100) rfl) rfl
theorem kw_376 : Cond.code yX3_isMinute cX3_isMinute 1 (some .boolean) ∈ wsG := kT_2 (List.mem_of_getElem? (i := 101) rfl) rfl
theorem kw_377 : Cond.methodLink RL 53 yX4_wet ∈ wsG := kT_3 (List.mem_of_getElem? (i := 170) rfl) rfl
theorem kw_378 : Cond.instanceMethod yX4_wet ∈ wsG := kT_3 (List.mem_of_getElem? (i := 171) rfl) rfl
theorem kw_379 : Cond.selects RX4 yX4_wet yX4_wet ∈ wsG := kT_3 (List.mem_of_getElem? (i := 172) rfl) rfl
theorem kw_380 : Cond.code yX4_wet cX4_wet 3 (some .int) ∈ wsG := kT_3 (List.mem_of_getElem? (i := 173) rfl) rfl
theorem kw_381 : Cond.methodLink RX4 115 yX4_isMinute ∈ wsG := kT_3 (List.mem_of_getElem? (i := 174) rfl) rfl
theorem kw_382 : Cond.static yX4_isMinute ∈ wsG := kT_3 (List.mem_of_getElem? (i := 175) rfl) rfl
theorem kw_383 : Cond.code yX4_isMinute cX4_isMinute 1 (some .boolean) ∈ wsG := kT_3 (List.mem_of_getElem? (i := 176) rfl) rfl
theorem kw_384 : Cond.methodLink RL 54 yX3_ink ∈ wsG := kT_2 (List.mem_of_getElem? (i := 102) rfl) rfl
theorem kw_385 : Cond.instanceMethod yX3_ink ∈ wsG := kT_2 (List.mem_of_getElem? (i := 103) rfl) rfl
theorem kw_386 : Cond.selects RX3 yX3_ink yX3_ink ∈ wsG := kT_2 (List.mem_of_getElem? (i := 104) rfl) rfl
theorem kw_387 : Cond.code yX3_ink cX3_ink 2 (some .int) ∈ wsG := kT_2 (List.mem_of_getElem? (i := 105) rfl) rfl
theorem kw_388 : Cond.methodLink RX3 125 yX3_isLand ∈ wsG := kT_2 (List.mem_of_getElem? (i := 106) rfl) rfl
theorem kw_389 : Cond.instanceMethod yX3_isLand ∈ wsG := kT_2 (List.mem_of_getElem? (i := 108) rfl) rfl
theorem kw_390 : Cond.selects RX3 yX3_isLand yX3_isLand ∈ wsG := kP_1 (List.mem_of_getElem? (i := 6) rfl) rfl
theorem kw_391 : Cond.code yX3_isLand cX3_isLand 2 (some .boolean) ∈ wsG := kT_2 (List.mem_of_getElem? (i := 109) rfl) rfl
theorem kw_392 : Cond.methodLink RL 57 yX4_ink ∈ wsG := kT_3 (List.mem_of_getElem? (i := 177) rfl) rfl
theorem kw_393 : Cond.instanceMethod yX4_ink ∈ wsG := kT_3 (List.mem_of_getElem? (i := 178) rfl) rfl
theorem kw_394 : Cond.selects RX4 yX4_ink yX4_ink ∈ wsG := kT_3 (List.mem_of_getElem? (i := 179) rfl) rfl
theorem kw_395 : Cond.code yX4_ink cX4_ink 2 (some .int) ∈ wsG := kT_3 (List.mem_of_getElem? (i := 180) rfl) rfl
theorem kw_396 : Cond.methodLink RX4 118 yX4_isCell ∈ wsG := kT_3 (List.mem_of_getElem? (i := 181) rfl) rfl
theorem kw_397 : Cond.instanceMethod yX4_isCell ∈ wsG := kT_3 (List.mem_of_getElem? (i := 183) rfl) rfl
theorem kw_398 : Cond.selects RX4 yX4_isCell yX4_isCell ∈ wsG := kP_2 (List.mem_of_getElem? (i := 6) rfl) rfl
theorem kw_399 : Cond.code yX4_isCell cX4_isCell 2 (some .boolean) ∈ wsG := kT_3 (List.mem_of_getElem? (i := 184) rfl) rfl
theorem kw_400 : Cond.methodLink RL 58 yX3_comes ∈ wsG := kT_2 (List.mem_of_getElem? (i := 110) rfl) rfl
theorem kw_401 : Cond.instanceMethod yX3_comes ∈ wsG := kT_2 (List.mem_of_getElem? (i := 111) rfl) rfl
theorem kw_402 : Cond.selects RX3 yX3_comes yX3_comes ∈ wsG := kT_2 (List.mem_of_getElem? (i := 112) rfl) rfl
theorem kw_403 : Cond.code yX3_comes cX3_comes 3 (some .int) ∈ wsG := kT_2 (List.mem_of_getElem? (i := 113) rfl) rfl
theorem kw_404 : Cond.methodLink RX3 131 yX3_comesNow ∈ wsG := kT_2 (List.mem_of_getElem? (i := 114) rfl) rfl
theorem kw_405 : Cond.instanceMethod yX3_comesNow ∈ wsG := kT_2 (List.mem_of_getElem? (i := 116) rfl) rfl
theorem kw_406 : Cond.selects RX3 yX3_comesNow yX3_comesNow ∈ wsG := kP_1 (List.mem_of_getElem? (i := 7) rfl) rfl
theorem kw_407 : Cond.code yX3_comesNow cX3_comesNow 3 (some .int) ∈ wsG := kT_2 (List.mem_of_getElem? (i := 117) rfl) rfl
theorem kw_408 : Cond.methodLink RL 61 yX4_comes ∈ wsG := kT_3 (List.mem_of_getElem? (i := 185) rfl) rfl
theorem kw_409 : Cond.instanceMethod yX4_comes ∈ wsG := kT_3 (List.mem_of_getElem? (i := 186) rfl) rfl
theorem kw_410 : Cond.selects RX4 yX4_comes yX4_comes ∈ wsG := kT_3 (List.mem_of_getElem? (i := 187) rfl) rfl
theorem kw_411 : Cond.code yX4_comes cX4_comes 3 (some .int) ∈ wsG := kT_3 (List.mem_of_getElem? (i := 188) rfl) rfl
theorem kw_412 : Cond.methodLink RL 62 yX3_evening ∈ wsG := kT_2 (List.mem_of_getElem? (i := 118) rfl) rfl
theorem kw_413 : Cond.instanceMethod yX3_evening ∈ wsG := kT_2 (List.mem_of_getElem? (i := 119) rfl) rfl
theorem kw_414 : Cond.selects RX3 yX3_evening yX3_evening ∈ wsG := kT_2 (List.mem_of_getElem? (i := 120) rfl) rfl
theorem kw_415 : Cond.code yX3_evening cX3_evening 2 (some .int) ∈ wsG := kT_2 (List.mem_of_getElem? (i := 121) rfl) rfl
theorem kw_416 : Cond.methodLink RX3 137 yX3_pressOff ∈ wsG := kT_2 (List.mem_of_getElem? (i := 122) rfl) rfl
theorem kw_417 : Cond.instanceMethod yX3_pressOff ∈ wsG := kT_2 (List.mem_of_getElem? (i := 124) rfl) rfl
theorem kw_418 : Cond.selects RX3 yX3_pressOff yX3_pressOff ∈ wsG := kP_1 (List.mem_of_getElem? (i := 8) rfl) rfl
theorem kw_419 : Cond.code yX3_pressOff cX3_pressOff 6 (some .int) ∈ wsG := kT_2 (List.mem_of_getElem? (i := 125) rfl) rfl
theorem kw_420 : Cond.methodLink RX3 231 Lib.Math.min.name ∈ wsG := kT_2 (List.mem_of_getElem? (i := 126) rfl) rfl
theorem kw_421 : Cond.methodLink RL 65 yX4_evening ∈ wsG := kT_3 (List.mem_of_getElem? (i := 189) rfl) rfl
theorem kw_422 : Cond.instanceMethod yX4_evening ∈ wsG := kT_3 (List.mem_of_getElem? (i := 190) rfl) rfl
theorem kw_423 : Cond.selects RX4 yX4_evening yX4_evening ∈ wsG := kT_3 (List.mem_of_getElem? (i := 191) rfl) rfl
theorem kw_424 : Cond.code yX4_evening cX4_evening 2 (some .int) ∈ wsG := kT_3 (List.mem_of_getElem? (i := 192) rfl) rfl
theorem kw_425 : Cond.methodLink RX4 124 yX4_press ∈ wsG := kT_3 (List.mem_of_getElem? (i := 193) rfl) rfl
theorem kw_426 : Cond.instanceMethod yX4_press ∈ wsG := kT_3 (List.mem_of_getElem? (i := 195) rfl) rfl
theorem kw_427 : Cond.selects RX4 yX4_press yX4_press ∈ wsG := kP_2 (List.mem_of_getElem? (i := 7) rfl) rfl
theorem kw_428 : Cond.code yX4_press cX4_press 5 (some .int) ∈ wsG := kT_3 (List.mem_of_getElem? (i := 196) rfl) rfl
theorem kw_429 : Cond.methodLink RL 66 yX3_hills ∈ wsG := kT_2 (List.mem_of_getElem? (i := 127) rfl) rfl
theorem kw_430 : Cond.instanceMethod yX3_hills ∈ wsG := kT_2 (List.mem_of_getElem? (i := 128) rfl) rfl
theorem kw_431 : Cond.selects RX3 yX3_hills yX3_hills ∈ wsG := kT_2 (List.mem_of_getElem? (i := 129) rfl) rfl
theorem kw_432 : Cond.code yX3_hills cX3_hills 6 (some .int) ∈ wsG := kT_2 (List.mem_of_getElem? (i := 130) rfl) rfl
theorem kw_433 : Cond.methodLink RL 69 yX4_hills ∈ wsG := kT_3 (List.mem_of_getElem? (i := 197) rfl) rfl
theorem kw_434 : Cond.instanceMethod yX4_hills ∈ wsG := kT_3 (List.mem_of_getElem? (i := 198) rfl) rfl
theorem kw_435 : Cond.selects RX4 yX4_hills yX4_hills ∈ wsG := kT_3 (List.mem_of_getElem? (i := 199) rfl) rfl
theorem kw_436 : Cond.code yX4_hills cX4_hills 2 (some .int) ∈ wsG := kT_3 (List.mem_of_getElem? (i := 200) rfl) rfl
theorem kw_437 : Cond.methodLink RX4 127 yX4_hillsNow ∈ wsG := kT_3 (List.mem_of_getElem? (i := 201) rfl) rfl
theorem kw_438 : Cond.instanceMethod yX4_hillsNow ∈ wsG := kT_3 (List.mem_of_getElem? (i := 203) rfl) rfl
theorem kw_439 : Cond.selects RX4 yX4_hillsNow yX4_hillsNow ∈ wsG := kP_2 (List.mem_of_getElem? (i := 8) rfl) rfl
theorem kw_440 : Cond.code yX4_hillsNow cX4_hillsNow 4 (some .int) ∈ wsG := kT_3 (List.mem_of_getElem? (i := 204) rfl) rfl
theorem kw_441 : Cond.methodLink RL 70 yX3_close ∈ wsG := kT_2 (List.mem_of_getElem? (i := 131) rfl) rfl
theorem kw_442 : Cond.instanceMethod yX3_close ∈ wsG := kT_2 (List.mem_of_getElem? (i := 132) rfl) rfl
theorem kw_443 : Cond.selects RX3 yX3_close yX3_close ∈ wsG := kT_2 (List.mem_of_getElem? (i := 133) rfl) rfl
theorem kw_444 : Cond.code yX3_close cX3_close 4 (some .int) ∈ wsG := kT_2 (List.mem_of_getElem? (i := 134) rfl) rfl
theorem kw_445 : Cond.methodLink RX3 141 yX3_isMuch ∈ wsG := kT_2 (List.mem_of_getElem? (i := 135) rfl) rfl
theorem kw_446 : Cond.static yX3_isMuch ∈ wsG := kT_2 (List.mem_of_getElem? (i := 136) rfl) rfl
theorem kw_447 : Cond.code yX3_isMuch cX3_isMuch 1 (some .boolean) ∈ wsG := kT_2 (List.mem_of_getElem? (i := 137) rfl) rfl
theorem kw_448 : Cond.methodLink RL 73 yX4_close ∈ wsG := kT_3 (List.mem_of_getElem? (i := 205) rfl) rfl
theorem kw_449 : Cond.instanceMethod yX4_close ∈ wsG := kT_3 (List.mem_of_getElem? (i := 206) rfl) rfl
theorem kw_450 : Cond.selects RX4 yX4_close yX4_close ∈ wsG := kT_3 (List.mem_of_getElem? (i := 207) rfl) rfl
theorem kw_451 : Cond.code yX4_close cX4_close 3 (some .int) ∈ wsG := kT_3 (List.mem_of_getElem? (i := 208) rfl) rfl
theorem kw_452 : Cond.methodLink RX4 130 yX4_closeNow ∈ wsG := kT_3 (List.mem_of_getElem? (i := 209) rfl) rfl
theorem kw_453 : Cond.instanceMethod yX4_closeNow ∈ wsG := kT_3 (List.mem_of_getElem? (i := 211) rfl) rfl
theorem kw_454 : Cond.selects RX4 yX4_closeNow yX4_closeNow ∈ wsG := kP_2 (List.mem_of_getElem? (i := 9) rfl) rfl
theorem kw_455 : Cond.code yX4_closeNow cX4_closeNow 5 (some .int) ∈ wsG := kT_3 (List.mem_of_getElem? (i := 212) rfl) rfl
theorem kw_456 : Cond.methodLink RL 74 yX3_toSand ∈ wsG := kT_2 (List.mem_of_getElem? (i := 138) rfl) rfl
theorem kw_457 : Cond.instanceMethod yX3_toSand ∈ wsG := kT_2 (List.mem_of_getElem? (i := 139) rfl) rfl
theorem kw_458 : Cond.selects RX3 yX3_toSand yX3_toSand ∈ wsG := kT_2 (List.mem_of_getElem? (i := 140) rfl) rfl
theorem kw_459 : Cond.code yX3_toSand cX3_toSand 6 (some .int) ∈ wsG := kT_2 (List.mem_of_getElem? (i := 141) rfl) rfl
theorem kw_460 : Cond.methodLink RX3 144 yX3_reachesAny ∈ wsG := kT_2 (List.mem_of_getElem? (i := 142) rfl) rfl
theorem kw_461 : Cond.instanceMethod yX3_reachesAny ∈ wsG := kT_2 (List.mem_of_getElem? (i := 144) rfl) rfl
theorem kw_462 : Cond.selects RX3 yX3_reachesAny yX3_reachesAny ∈ wsG := kP_1 (List.mem_of_getElem? (i := 9) rfl) rfl
theorem kw_463 : Cond.code yX3_reachesAny cX3_reachesAny 7 (some .boolean) ∈ wsG := kT_2 (List.mem_of_getElem? (i := 145) rfl) rfl
theorem kw_464 : Cond.methodLink RX3 194 yX3_wet ∈ wsG := kT_2 (List.mem_of_getElem? (i := 146) rfl) rfl
theorem kw_465 : Cond.methodLink RX3 148 yJ6_bitCount_0f7a4 ∈ wsG := kT_2 (List.mem_of_getElem? (i := 147) rfl) rfl
theorem kw_466 : Cond.static yJ6_bitCount_0f7a4 ∈ wsG := kT_2 (List.mem_of_getElem? (i := 148) rfl) rfl
theorem kw_467 : Cond.initialized RJ6 ∈ wsG := kT_1 (List.mem_of_getElem? (i := 12) rfl) rfl
theorem kw_468 : Cond.code yJ6_bitCount_0f7a4 cJ6_bitCount_0f7a4 1 (some .int) ∈ wsG := kT_2 (List.mem_of_getElem? (i := 149) rfl) rfl
theorem kw_469 : Cond.constant RJ6 265 (1431655765) ∈ wsG := kT_2 (List.mem_of_getElem? (i := 150) rfl) rfl
theorem kw_470 : Cond.constant RJ6 266 (858993459) ∈ wsG := kT_2 (List.mem_of_getElem? (i := 151) rfl) rfl
theorem kw_471 : Cond.constant RJ6 267 (252645135) ∈ wsG := kT_2 (List.mem_of_getElem? (i := 152) rfl) rfl
theorem kw_472 : Cond.methodLink RL 78 yX4_toSand ∈ wsG := kT_3 (List.mem_of_getElem? (i := 213) rfl) rfl
theorem kw_473 : Cond.instanceMethod yX4_toSand ∈ wsG := kT_3 (List.mem_of_getElem? (i := 214) rfl) rfl
theorem kw_474 : Cond.selects RX4 yX4_toSand yX4_toSand ∈ wsG := kT_3 (List.mem_of_getElem? (i := 215) rfl) rfl
theorem kw_475 : Cond.code yX4_toSand cX4_toSand 4 (some .int) ∈ wsG := kT_3 (List.mem_of_getElem? (i := 216) rfl) rfl
theorem kw_476 : Cond.methodLink RX4 139 yX4_sandNow ∈ wsG := kT_3 (List.mem_of_getElem? (i := 217) rfl) rfl
theorem kw_477 : Cond.instanceMethod yX4_sandNow ∈ wsG := kT_3 (List.mem_of_getElem? (i := 219) rfl) rfl
theorem kw_478 : Cond.selects RX4 yX4_sandNow yX4_sandNow ∈ wsG := kP_2 (List.mem_of_getElem? (i := 10) rfl) rfl
theorem kw_479 : Cond.code yX4_sandNow cX4_sandNow 8 (some .int) ∈ wsG := kT_3 (List.mem_of_getElem? (i := 220) rfl) rfl
theorem kw_480 : Cond.methodLink RX4 133 yX4_size ∈ wsG := kT_3 (List.mem_of_getElem? (i := 221) rfl) rfl
theorem kw_481 : Cond.static yX4_size ∈ wsG := kT_3 (List.mem_of_getElem? (i := 222) rfl) rfl
theorem kw_482 : Cond.code yX4_size cX4_size 3 (some .int) ∈ wsG := kT_3 (List.mem_of_getElem? (i := 223) rfl) rfl
theorem kw_483 : Cond.methodLink RX4 136 yX4_isDryAt ∈ wsG := kT_3 (List.mem_of_getElem? (i := 224) rfl) rfl
theorem kw_484 : Cond.instanceMethod yX4_isDryAt ∈ wsG := kT_3 (List.mem_of_getElem? (i := 226) rfl) rfl
theorem kw_485 : Cond.selects RX4 yX4_isDryAt yX4_isDryAt ∈ wsG := kP_2 (List.mem_of_getElem? (i := 11) rfl) rfl
theorem kw_486 : Cond.code yX4_isDryAt cX4_isDryAt 5 (some .boolean) ∈ wsG := kT_3 (List.mem_of_getElem? (i := 227) rfl) rfl
theorem kw_487 : Cond.methodLink RL 79 yX3_found ∈ wsG := kT_2 (List.mem_of_getElem? (i := 153) rfl) rfl
theorem kw_488 : Cond.instanceMethod yX3_found ∈ wsG := kT_2 (List.mem_of_getElem? (i := 154) rfl) rfl
theorem kw_489 : Cond.selects RX3 yX3_found yX3_found ∈ wsG := kT_2 (List.mem_of_getElem? (i := 155) rfl) rfl
theorem kw_490 : Cond.code yX3_found cX3_found 4 (some .int) ∈ wsG := kT_2 (List.mem_of_getElem? (i := 156) rfl) rfl
theorem kw_491 : Cond.methodLink RX3 153 yX1_addFound ∈ wsG := kT_2 (List.mem_of_getElem? (i := 157) rfl) rfl
theorem kw_492 : Cond.instanceMethod yX1_addFound ∈ wsG := kT_2 (List.mem_of_getElem? (i := 158) rfl) rfl
theorem kw_493 : Cond.selects RX1 yX1_addFound yX1_addFound ∈ wsG := kT_2 (List.mem_of_getElem? (i := 159) rfl) rfl
theorem kw_494 : Cond.code yX1_addFound cX1_addFound 4 (some .boolean) ∈ wsG := kT_2 (List.mem_of_getElem? (i := 160) rfl) rfl
theorem kw_495 : Cond.methodLink RL 82 yX4_found ∈ wsG := kT_3 (List.mem_of_getElem? (i := 228) rfl) rfl
theorem kw_496 : Cond.instanceMethod yX4_found ∈ wsG := kT_3 (List.mem_of_getElem? (i := 229) rfl) rfl
theorem kw_497 : Cond.selects RX4 yX4_found yX4_found ∈ wsG := kT_3 (List.mem_of_getElem? (i := 230) rfl) rfl
theorem kw_498 : Cond.code yX4_found cX4_found 4 (some .int) ∈ wsG := kT_3 (List.mem_of_getElem? (i := 231) rfl) rfl
theorem kw_499 : Cond.methodLink RL 83 yX3_forget ∈ wsG := kT_2 (List.mem_of_getElem? (i := 161) rfl) rfl
theorem kw_500 : Cond.instanceMethod yX3_forget ∈ wsG := kT_2 (List.mem_of_getElem? (i := 162) rfl) rfl
theorem kw_501 : Cond.selects RX3 yX3_forget yX3_forget ∈ wsG := kT_2 (List.mem_of_getElem? (i := 163) rfl) rfl
theorem kw_502 : Cond.code yX3_forget cX3_forget 2 (some .int) ∈ wsG := kT_2 (List.mem_of_getElem? (i := 164) rfl) rfl
theorem kw_503 : Cond.methodLink RL 86 yX4_forget ∈ wsG := kT_3 (List.mem_of_getElem? (i := 232) rfl) rfl
theorem kw_504 : Cond.instanceMethod yX4_forget ∈ wsG := kT_3 (List.mem_of_getElem? (i := 233) rfl) rfl
theorem kw_505 : Cond.selects RX4 yX4_forget yX4_forget ∈ wsG := kT_3 (List.mem_of_getElem? (i := 234) rfl) rfl
theorem kw_506 : Cond.code yX4_forget cX4_forget 2 (some .int) ∈ wsG := kT_3 (List.mem_of_getElem? (i := 235) rfl) rfl
theorem kw_507 : Cond.methodLink RL 87 yX3_look ∈ wsG := kT_2 (List.mem_of_getElem? (i := 165) rfl) rfl
theorem kw_508 : Cond.instanceMethod yX3_look ∈ wsG := kT_2 (List.mem_of_getElem? (i := 166) rfl) rfl
theorem kw_509 : Cond.selects RX3 yX3_look yX3_look ∈ wsG := kT_2 (List.mem_of_getElem? (i := 167) rfl) rfl
theorem kw_510 : Cond.code yX3_look cX3_look 8 (some .int) ∈ wsG := kT_2 (List.mem_of_getElem? (i := 168) rfl) rfl
theorem kw_511 : Cond.methodLink RX3 159 yX3_leftAtWorst ∈ wsG := kT_2 (List.mem_of_getElem? (i := 169) rfl) rfl
theorem kw_512 : Cond.instanceMethod yX3_leftAtWorst ∈ wsG := kT_2 (List.mem_of_getElem? (i := 171) rfl) rfl
theorem kw_513 : Cond.selects RX3 yX3_leftAtWorst yX3_leftAtWorst ∈ wsG := kP_1 (List.mem_of_getElem? (i := 10) rfl) rfl
theorem kw_514 : Cond.code yX3_leftAtWorst cX3_leftAtWorst 7 (some .int) ∈ wsG := kT_2 (List.mem_of_getElem? (i := 172) rfl) rfl
theorem kw_515 : Cond.methodLink RX3 252 Lib.Math.max.name ∈ wsG := kT_2 (List.mem_of_getElem? (i := 177) rfl) rfl
theorem kw_516 : Cond.methodLink RX3 249 yX3_countLike ∈ wsG := kT_2 (List.mem_of_getElem? (i := 173) rfl) rfl
theorem kw_517 : Cond.instanceMethod yX3_countLike ∈ wsG := kT_2 (List.mem_of_getElem? (i := 175) rfl) rfl
theorem kw_518 : Cond.selects RX3 yX3_countLike yX3_countLike ∈ wsG := kP_1 (List.mem_of_getElem? (i := 11) rfl) rfl
theorem kw_519 : Cond.code yX3_countLike cX3_countLike 6 (some .int) ∈ wsG := kT_2 (List.mem_of_getElem? (i := 176) rfl) rfl
theorem kw_520 : Cond.methodLink RL 90 yX4_look ∈ wsG := kT_3 (List.mem_of_getElem? (i := 236) rfl) rfl
theorem kw_521 : Cond.instanceMethod yX4_look ∈ wsG := kT_3 (List.mem_of_getElem? (i := 237) rfl) rfl
theorem kw_522 : Cond.selects RX4 yX4_look yX4_look ∈ wsG := kT_3 (List.mem_of_getElem? (i := 238) rfl) rfl
theorem kw_523 : Cond.code yX4_look cX4_look 3 (some .int) ∈ wsG := kT_3 (List.mem_of_getElem? (i := 239) rfl) rfl
theorem kw_524 : Cond.methodLink RX4 154 yX4_lookNow ∈ wsG := kT_4 (List.mem_of_getElem? (i := 0) rfl) rfl
theorem kw_525 : Cond.instanceMethod yX4_lookNow ∈ wsG := kT_4 (List.mem_of_getElem? (i := 2) rfl) rfl
theorem kw_526 : Cond.selects RX4 yX4_lookNow yX4_lookNow ∈ wsG := kP_2 (List.mem_of_getElem? (i := 12) rfl) rfl
theorem kw_527 : Cond.code yX4_lookNow cX4_lookNow 8 (some .int) ∈ wsG := kT_4 (List.mem_of_getElem? (i := 3) rfl) rfl
theorem kw_528 : Cond.constant RX4 146 (268435456) ∈ wsG := kT_4 (List.mem_of_getElem? (i := 4) rfl) rfl
theorem kw_529 : Cond.methodLink RX4 147 yX4_layComes ∈ wsG := kT_4 (List.mem_of_getElem? (i := 5) rfl) rfl
theorem kw_530 : Cond.instanceMethod yX4_layComes ∈ wsG := kT_4 (List.mem_of_getElem? (i := 7) rfl) rfl
theorem kw_531 : Cond.selects RX4 yX4_layComes yX4_layComes ∈ wsG := kP_2 (List.mem_of_getElem? (i := 13) rfl) rfl
theorem kw_532 : Cond.code yX4_layComes cX4_layComes 6 none ∈ wsG := kT_4 (List.mem_of_getElem? (i := 8) rfl) rfl
theorem kw_533 : Cond.methodLink RX4 151 yX4_worstAt ∈ wsG := kT_4 (List.mem_of_getElem? (i := 9) rfl) rfl
theorem kw_534 : Cond.instanceMethod yX4_worstAt ∈ wsG := kT_4 (List.mem_of_getElem? (i := 11) rfl) rfl
theorem kw_535 : Cond.selects RX4 yX4_worstAt yX4_worstAt ∈ wsG := kP_2 (List.mem_of_getElem? (i := 14) rfl) rfl
theorem kw_536 : Cond.code yX4_worstAt cX4_worstAt 7 (some .int) ∈ wsG := kT_4 (List.mem_of_getElem? (i := 12) rfl) rfl
theorem kw_537 : Cond.methodLink RL 91 yX3_years ∈ wsG := kT_2 (List.mem_of_getElem? (i := 178) rfl) rfl
theorem kw_538 : Cond.instanceMethod yX3_years ∈ wsG := kT_2 (List.mem_of_getElem? (i := 179) rfl) rfl
theorem kw_539 : Cond.selects RX3 yX3_years yX3_years ∈ wsG := kT_2 (List.mem_of_getElem? (i := 180) rfl) rfl
theorem kw_540 : Cond.code yX3_years cX3_years 6 (some .int) ∈ wsG := kT_2 (List.mem_of_getElem? (i := 181) rfl) rfl
theorem kw_541 : Cond.constant RX3 170 (65536) ∈ wsG := kT_2 (List.mem_of_getElem? (i := 191) rfl) rfl
theorem kw_542 : Cond.methodLink RX3 163 yX3_copyRow ∈ wsG := kT_2 (List.mem_of_getElem? (i := 182) rfl) rfl
theorem kw_543 : Cond.static yX3_copyRow ∈ wsG := kT_2 (List.mem_of_getElem? (i := 183) rfl) rfl
theorem kw_544 : Cond.code yX3_copyRow cX3_copyRow 3 none ∈ wsG := kT_2 (List.mem_of_getElem? (i := 184) rfl) rfl
theorem kw_545 : Cond.methodLink RX3 167 yX3_seedAfter ∈ wsG := kT_2 (List.mem_of_getElem? (i := 185) rfl) rfl
theorem kw_546 : Cond.static yX3_seedAfter ∈ wsG := kT_2 (List.mem_of_getElem? (i := 186) rfl) rfl
theorem kw_547 : Cond.code yX3_seedAfter cX3_seedAfter 1 (some .int) ∈ wsG := kT_2 (List.mem_of_getElem? (i := 187) rfl) rfl
theorem kw_548 : Cond.constantLong RX3 255 (1103515245) ∈ wsG := kT_2 (List.mem_of_getElem? (i := 188) rfl) rfl
theorem kw_549 : Cond.constantLong RX3 257 (12345) ∈ wsG := kT_2 (List.mem_of_getElem? (i := 189) rfl) rfl
theorem kw_550 : Cond.constantLong RX3 259 (2147483648) ∈ wsG := kT_2 (List.mem_of_getElem? (i := 190) rfl) rfl
theorem kw_551 : Cond.methodLink RX3 171 yX3_inkIn ∈ wsG := kT_2 (List.mem_of_getElem? (i := 192) rfl) rfl
theorem kw_552 : Cond.static yX3_inkIn ∈ wsG := kT_2 (List.mem_of_getElem? (i := 193) rfl) rfl
theorem kw_553 : Cond.code yX3_inkIn cX3_inkIn 3 (some .int) ∈ wsG := kT_2 (List.mem_of_getElem? (i := 194) rfl) rfl
theorem kw_554 : Cond.methodLink RX3 175 yX3_dryIn ∈ wsG := kT_2 (List.mem_of_getElem? (i := 195) rfl) rfl
theorem kw_555 : Cond.static yX3_dryIn ∈ wsG := kT_2 (List.mem_of_getElem? (i := 196) rfl) rfl
theorem kw_556 : Cond.code yX3_dryIn cX3_dryIn 3 (some .int) ∈ wsG := kT_2 (List.mem_of_getElem? (i := 197) rfl) rfl
theorem kw_557 : Cond.methodLink RL 94 yX4_years ∈ wsG := kT_4 (List.mem_of_getElem? (i := 13) rfl) rfl
theorem kw_558 : Cond.instanceMethod yX4_years ∈ wsG := kT_4 (List.mem_of_getElem? (i := 14) rfl) rfl
theorem kw_559 : Cond.selects RX4 yX4_years yX4_years ∈ wsG := kT_4 (List.mem_of_getElem? (i := 15) rfl) rfl
theorem kw_560 : Cond.code yX4_years cX4_years 4 (some .int) ∈ wsG := kT_4 (List.mem_of_getElem? (i := 16) rfl) rfl
theorem kw_561 : Cond.methodLink RX4 178 yX4_yearsNow ∈ wsG := kT_4 (List.mem_of_getElem? (i := 17) rfl) rfl
theorem kw_562 : Cond.instanceMethod yX4_yearsNow ∈ wsG := kT_4 (List.mem_of_getElem? (i := 19) rfl) rfl
theorem kw_563 : Cond.selects RX4 yX4_yearsNow yX4_yearsNow ∈ wsG := kP_2 (List.mem_of_getElem? (i := 15) rfl) rfl
theorem kw_564 : Cond.code yX4_yearsNow cX4_yearsNow 7 (some .int) ∈ wsG := kT_4 (List.mem_of_getElem? (i := 20) rfl) rfl
theorem kw_565 : Cond.fieldLink RX4 159 "BlotLandModel" "seedNow" "J" ∈ wsG := kT_3 (List.mem_of_getElem? (i := 18) rfl) rfl
theorem kw_566 : Cond.methodLink RX4 169 yX4_draw ∈ wsG := kT_4 (List.mem_of_getElem? (i := 21) rfl) rfl
theorem kw_567 : Cond.instanceMethod yX4_draw ∈ wsG := kT_4 (List.mem_of_getElem? (i := 23) rfl) rfl
theorem kw_568 : Cond.selects RX4 yX4_draw yX4_draw ∈ wsG := kP_3 (List.mem_of_getElem? (i := 0) rfl) rfl
theorem kw_569 : Cond.code yX4_draw cX4_draw 2 (some .int) ∈ wsG := kT_4 (List.mem_of_getElem? (i := 24) rfl) rfl
theorem kw_570 : Cond.constantLong RX4 157 (1103515245) ∈ wsG := kT_4 (List.mem_of_getElem? (i := 25) rfl) rfl
theorem kw_571 : Cond.constantLong RX4 163 (12345) ∈ wsG := kT_4 (List.mem_of_getElem? (i := 26) rfl) rfl
theorem kw_572 : Cond.constantLong RX4 165 (2147483647) ∈ wsG := kT_4 (List.mem_of_getElem? (i := 27) rfl) rfl
theorem kw_573 : Cond.constantLong RX4 167 (65536) ∈ wsG := kT_4 (List.mem_of_getElem? (i := 28) rfl) rfl
theorem kw_574 : Cond.methodLink RX4 172 yX4_inkAll ∈ wsG := kT_4 (List.mem_of_getElem? (i := 29) rfl) rfl
theorem kw_575 : Cond.instanceMethod yX4_inkAll ∈ wsG := kT_4 (List.mem_of_getElem? (i := 31) rfl) rfl
theorem kw_576 : Cond.selects RX4 yX4_inkAll yX4_inkAll ∈ wsG := kP_3 (List.mem_of_getElem? (i := 1) rfl) rfl
theorem kw_577 : Cond.code yX4_inkAll cX4_inkAll 3 (some .int) ∈ wsG := kT_4 (List.mem_of_getElem? (i := 32) rfl) rfl
theorem kw_578 : Cond.methodLink RX4 175 yX4_dry ∈ wsG := kT_4 (List.mem_of_getElem? (i := 33) rfl) rfl
theorem kw_579 : Cond.instanceMethod yX4_dry ∈ wsG := kT_4 (List.mem_of_getElem? (i := 35) rfl) rfl
theorem kw_580 : Cond.selects RX4 yX4_dry yX4_dry ∈ wsG := kP_3 (List.mem_of_getElem? (i := 2) rfl) rfl
theorem kw_581 : Cond.code yX4_dry cX4_dry 3 (some .int) ∈ wsG := kT_4 (List.mem_of_getElem? (i := 36) rfl) rfl
theorem kw_582 : Cond.methodLink RL 95 yX3_image ∈ wsG := kT_2 (List.mem_of_getElem? (i := 198) rfl) rfl
theorem kw_583 : Cond.instanceMethod yX3_image ∈ wsG := kT_2 (List.mem_of_getElem? (i := 199) rfl) rfl
theorem kw_584 : Cond.selects RX3 yX3_image yX3_image ∈ wsG := kT_2 (List.mem_of_getElem? (i := 200) rfl) rfl
theorem kw_585 : Cond.code yX3_image cX3_image 1 (some .int) ∈ wsG := kT_2 (List.mem_of_getElem? (i := 201) rfl) rfl
theorem kw_586 : Cond.methodLink RX3 178 yX1_copyFrom ∈ wsG := kT_2 (List.mem_of_getElem? (i := 202) rfl) rfl
theorem kw_587 : Cond.instanceMethod yX1_copyFrom ∈ wsG := kT_2 (List.mem_of_getElem? (i := 203) rfl) rfl
theorem kw_588 : Cond.selects RX1 yX1_copyFrom yX1_copyFrom ∈ wsG := kT_2 (List.mem_of_getElem? (i := 204) rfl) rfl
theorem kw_589 : Cond.code yX1_copyFrom cX1_copyFrom 2 none ∈ wsG := kT_2 (List.mem_of_getElem? (i := 205) rfl) rfl
theorem kw_590 : Cond.methodLink RL 98 yX4_image ∈ wsG := kT_4 (List.mem_of_getElem? (i := 37) rfl) rfl
theorem kw_591 : Cond.instanceMethod yX4_image ∈ wsG := kT_4 (List.mem_of_getElem? (i := 38) rfl) rfl
theorem kw_592 : Cond.selects RX4 yX4_image yX4_image ∈ wsG := kT_4 (List.mem_of_getElem? (i := 39) rfl) rfl
theorem kw_593 : Cond.code yX4_image cX4_image 2 (some .int) ∈ wsG := kT_4 (List.mem_of_getElem? (i := 40) rfl) rfl
theorem kw_594 : Cond.fieldLink RX4 181 "BlotLandModel" "isKept" "Z" ∈ wsG := kT_3 (List.mem_of_getElem? (i := 20) rfl) rfl
theorem kw_595 : Cond.fieldLink RX4 185 "BlotLandModel" "keptLeaf" "I" ∈ wsG := kT_3 (List.mem_of_getElem? (i := 21) rfl) rfl
theorem kw_596 : Cond.fieldLink RX4 188 "BlotLandModel" "keptStrokes" "I" ∈ wsG := kT_3 (List.mem_of_getElem? (i := 22) rfl) rfl
theorem kw_597 : Cond.fieldLink RX4 191 "BlotLandModel" "keptSanded" "I" ∈ wsG := kT_3 (List.mem_of_getElem? (i := 23) rfl) rfl
theorem kw_598 : Cond.fieldLink RX4 194 "BlotLandModel" "keptEvenings" "I" ∈ wsG := kT_3 (List.mem_of_getElem? (i := 24) rfl) rfl
theorem kw_599 : Cond.fieldLink RX4 197 "BlotLandModel" "keptFound" "I" ∈ wsG := kT_3 (List.mem_of_getElem? (i := 25) rfl) rfl
theorem kw_600 : Cond.methodLink RL 99 yX3_restore ∈ wsG := kT_2 (List.mem_of_getElem? (i := 207) rfl) rfl
theorem kw_601 : Cond.instanceMethod yX3_restore ∈ wsG := kT_2 (List.mem_of_getElem? (i := 208) rfl) rfl
theorem kw_602 : Cond.selects RX3 yX3_restore yX3_restore ∈ wsG := kT_2 (List.mem_of_getElem? (i := 209) rfl) rfl
theorem kw_603 : Cond.code yX3_restore cX3_restore 1 (some .int) ∈ wsG := kT_2 (List.mem_of_getElem? (i := 210) rfl) rfl
theorem kw_604 : Cond.methodLink RL 102 yX4_restore ∈ wsG := kT_4 (List.mem_of_getElem? (i := 41) rfl) rfl
theorem kw_605 : Cond.instanceMethod yX4_restore ∈ wsG := kT_4 (List.mem_of_getElem? (i := 42) rfl) rfl
theorem kw_606 : Cond.selects RX4 yX4_restore yX4_restore ∈ wsG := kT_4 (List.mem_of_getElem? (i := 43) rfl) rfl
theorem kw_607 : Cond.code yX4_restore cX4_restore 2 (some .int) ∈ wsG := kT_4 (List.mem_of_getElem? (i := 44) rfl) rfl
theorem kw_608 : Cond.methodLink RL 103 yX3_count ∈ wsG := kT_2 (List.mem_of_getElem? (i := 211) rfl) rfl
theorem kw_609 : Cond.instanceMethod yX3_count ∈ wsG := kT_2 (List.mem_of_getElem? (i := 212) rfl) rfl
theorem kw_610 : Cond.selects RX3 yX3_count yX3_count ∈ wsG := kT_2 (List.mem_of_getElem? (i := 213) rfl) rfl
theorem kw_611 : Cond.code yX3_count cX3_count 2 (some .int) ∈ wsG := kT_2 (List.mem_of_getElem? (i := 214) rfl) rfl
theorem kw_612 : Cond.methodLink RL 106 yX4_count ∈ wsG := kT_4 (List.mem_of_getElem? (i := 45) rfl) rfl
theorem kw_613 : Cond.instanceMethod yX4_count ∈ wsG := kT_4 (List.mem_of_getElem? (i := 46) rfl) rfl
theorem kw_614 : Cond.selects RX4 yX4_count yX4_count ∈ wsG := kT_4 (List.mem_of_getElem? (i := 47) rfl) rfl
theorem kw_615 : Cond.code yX4_count cX4_count 2 (some .int) ∈ wsG := kT_4 (List.mem_of_getElem? (i := 48) rfl) rfl
theorem kw_616 : Cond.methodLink RX4 200 yX4_howMany ∈ wsG := kT_4 (List.mem_of_getElem? (i := 49) rfl) rfl
theorem kw_617 : Cond.instanceMethod yX4_howMany ∈ wsG := kT_4 (List.mem_of_getElem? (i := 51) rfl) rfl
theorem kw_618 : Cond.selects RX4 yX4_howMany yX4_howMany ∈ wsG := kP_3 (List.mem_of_getElem? (i := 3) rfl) rfl
theorem kw_619 : Cond.code yX4_howMany cX4_howMany 2 (some .int) ∈ wsG := kT_4 (List.mem_of_getElem? (i := 52) rfl) rfl
theorem kw_620 : Cond.methodLink RL 107 yX3_digest ∈ wsG := kT_2 (List.mem_of_getElem? (i := 215) rfl) rfl
theorem kw_621 : Cond.instanceMethod yX3_digest ∈ wsG := kT_2 (List.mem_of_getElem? (i := 216) rfl) rfl
theorem kw_622 : Cond.selects RX3 yX3_digest yX3_digest ∈ wsG := kT_2 (List.mem_of_getElem? (i := 217) rfl) rfl
theorem kw_623 : Cond.code yX3_digest cX3_digest 5 (some .long) ∈ wsG := kT_2 (List.mem_of_getElem? (i := 218) rfl) rfl
theorem kw_624 : Cond.constantLong RX3 185 (1049) ∈ wsG := kT_2 (List.mem_of_getElem? (i := 219) rfl) rfl
theorem kw_625 : Cond.methodLink RX3 187 yX3_about ∈ wsG := kT_2 (List.mem_of_getElem? (i := 220) rfl) rfl
theorem kw_626 : Cond.methodLink RX3 190 yX3_mixed ∈ wsG := kT_2 (List.mem_of_getElem? (i := 221) rfl) rfl
theorem kw_627 : Cond.static yX3_mixed ∈ wsG := kT_2 (List.mem_of_getElem? (i := 222) rfl) rfl
theorem kw_628 : Cond.code yX3_mixed cX3_mixed 4 (some .long) ∈ wsG := kT_2 (List.mem_of_getElem? (i := 223) rfl) rfl
theorem kw_629 : Cond.constantLong RX3 223 (31) ∈ wsG := kT_2 (List.mem_of_getElem? (i := 224) rfl) rfl
theorem kw_630 : Cond.methodLink RX3 197 yX3_look ∈ wsG := kT_2 (List.mem_of_getElem? (i := 225) rfl) rfl
theorem kw_631 : Cond.methodLink RX3 200 yX3_withLand ∈ wsG := kT_2 (List.mem_of_getElem? (i := 226) rfl) rfl
theorem kw_632 : Cond.instanceMethod yX3_withLand ∈ wsG := kT_2 (List.mem_of_getElem? (i := 228) rfl) rfl
theorem kw_633 : Cond.selects RX3 yX3_withLand yX3_withLand ∈ wsG := kP_1 (List.mem_of_getElem? (i := 12) rfl) rfl
theorem kw_634 : Cond.code yX3_withLand cX3_withLand 6 (some .long) ∈ wsG := kT_2 (List.mem_of_getElem? (i := 229) rfl) rfl
theorem kw_635 : Cond.methodLink RX3 210 yX3_ink ∈ wsG := kT_2 (List.mem_of_getElem? (i := 230) rfl) rfl
theorem kw_636 : Cond.methodLink RX3 213 yX3_comes ∈ wsG := kT_2 (List.mem_of_getElem? (i := 231) rfl) rfl
theorem kw_637 : Cond.methodLink RX3 216 yX3_hills ∈ wsG := kT_2 (List.mem_of_getElem? (i := 232) rfl) rfl
theorem kw_638 : Cond.methodLink RX3 219 yX3_toSand ∈ wsG := kT_2 (List.mem_of_getElem? (i := 233) rfl) rfl
theorem kw_639 : Cond.methodLink RX3 204 yX0_codeAt ∈ wsG := kT_2 (List.mem_of_getElem? (i := 234) rfl) rfl
theorem kw_640 : Cond.methodLink RX3 207 yX3_count ∈ wsG := kT_2 (List.mem_of_getElem? (i := 235) rfl) rfl
theorem kw_641 : Cond.methodLink RL 111 yX4_digest ∈ wsG := kT_4 (List.mem_of_getElem? (i := 53) rfl) rfl
theorem kw_642 : Cond.instanceMethod yX4_digest ∈ wsG := kT_4 (List.mem_of_getElem? (i := 54) rfl) rfl
theorem kw_643 : Cond.selects RX4 yX4_digest yX4_digest ∈ wsG := kT_4 (List.mem_of_getElem? (i := 55) rfl) rfl
theorem kw_644 : Cond.code yX4_digest cX4_digest 3 (some .long) ∈ wsG := kT_4 (List.mem_of_getElem? (i := 56) rfl) rfl
theorem kw_645 : Cond.constantLong RX4 208 (1049) ∈ wsG := kT_4 (List.mem_of_getElem? (i := 57) rfl) rfl
theorem kw_646 : Cond.fieldLink RX4 205 "BlotLandModel" "h" "J" ∈ wsG := kT_3 (List.mem_of_getElem? (i := 30) rfl) rfl
theorem kw_647 : Cond.methodLink RX4 210 yX4_mix ∈ wsG := kT_4 (List.mem_of_getElem? (i := 58) rfl) rfl
theorem kw_648 : Cond.instanceMethod yX4_mix ∈ wsG := kT_4 (List.mem_of_getElem? (i := 60) rfl) rfl
theorem kw_649 : Cond.selects RX4 yX4_mix yX4_mix ∈ wsG := kP_3 (List.mem_of_getElem? (i := 4) rfl) rfl
theorem kw_650 : Cond.code yX4_mix cX4_mix 3 none ∈ wsG := kT_4 (List.mem_of_getElem? (i := 61) rfl) rfl
theorem kw_651 : Cond.constantLong RX4 203 (31) ∈ wsG := kT_4 (List.mem_of_getElem? (i := 62) rfl) rfl
theorem inlX0 : ∀ w ∈ wsX00, w ∈ wsG := by
  intro w h
  obtain ⟨k, hk, rfl⟩ := List.mem_map.mp h
  have hk := List.mem_range.mp hk
  match k, hk with
  | 0, _ => exact kT_1 (List.mem_of_getElem? (i := 30) rfl) rfl
  | 1, _ => exact kT_1 (List.mem_of_getElem? (i := 32) rfl) rfl
  | k + 2, hk => exact absurd hk (by omega)
theorem inlX1 : ∀ w ∈ wsX10, w ∈ wsG := by
  intro w h
  obtain ⟨k, hk, rfl⟩ := List.mem_map.mp h
  have hk := List.mem_range.mp hk
  match k, hk with
  | 0, _ => exact kT_1 (List.mem_of_getElem? (i := 60) rfl) rfl
  | 1, _ => exact kT_1 (List.mem_of_getElem? (i := 62) rfl) rfl
  | 2, _ => exact kT_1 (List.mem_of_getElem? (i := 64) rfl) rfl
  | 3, _ => exact kT_1 (List.mem_of_getElem? (i := 66) rfl) rfl
  | 4, _ => exact kT_1 (List.mem_of_getElem? (i := 68) rfl) rfl
  | 5, _ => exact kT_1 (List.mem_of_getElem? (i := 70) rfl) rfl
  | 6, _ => exact kT_1 (List.mem_of_getElem? (i := 72) rfl) rfl
  | 7, _ => exact kT_1 (List.mem_of_getElem? (i := 74) rfl) rfl
  | k + 8, hk => exact absurd hk (by omega)
theorem inlX2 : ∀ w ∈ wsX20, w ∈ wsG := by
  intro w h
  obtain ⟨k, hk, rfl⟩ := List.mem_map.mp h
  have hk := List.mem_range.mp hk
  match k, hk with
  | 0, _ => exact kT_1 (List.mem_of_getElem? (i := 91) rfl) rfl
  | 1, _ => exact kT_1 (List.mem_of_getElem? (i := 93) rfl) rfl
  | 2, _ => exact kT_1 (List.mem_of_getElem? (i := 95) rfl) rfl
  | 3, _ => exact kT_1 (List.mem_of_getElem? (i := 97) rfl) rfl
  | 4, _ => exact kT_1 (List.mem_of_getElem? (i := 99) rfl) rfl
  | k + 5, hk => exact absurd hk (by omega)
theorem inlX3 : ∀ w ∈ wsX30, w ∈ wsG := by
  intro w h
  obtain ⟨k, hk, rfl⟩ := List.mem_map.mp h
  have hk := List.mem_range.mp hk
  match k, hk with
  | 0, _ => exact kT_1 (List.mem_of_getElem? (i := 110) rfl) rfl
  | 1, _ => exact kT_1 (List.mem_of_getElem? (i := 112) rfl) rfl
  | 2, _ => exact kT_1 (List.mem_of_getElem? (i := 114) rfl) rfl
  | 3, _ => exact kT_1 (List.mem_of_getElem? (i := 116) rfl) rfl
  | 4, _ => exact kT_1 (List.mem_of_getElem? (i := 118) rfl) rfl
  | 5, _ => exact kT_1 (List.mem_of_getElem? (i := 120) rfl) rfl
  | 6, _ => exact kT_1 (List.mem_of_getElem? (i := 122) rfl) rfl
  | 7, _ => exact kT_1 (List.mem_of_getElem? (i := 124) rfl) rfl
  | k + 8, hk => exact absurd hk (by omega)
theorem inlX4 : ∀ w ∈ wsX40, w ∈ wsG := by
  intro w h
  obtain ⟨k, hk, rfl⟩ := List.mem_map.mp h
  have hk := List.mem_range.mp hk
  match k, hk with
  | 0, _ => exact kT_3 (List.mem_of_getElem? (i := 31) rfl) rfl
  | 1, _ => exact kT_3 (List.mem_of_getElem? (i := 33) rfl) rfl
  | 2, _ => exact kT_3 (List.mem_of_getElem? (i := 35) rfl) rfl
  | 3, _ => exact kT_3 (List.mem_of_getElem? (i := 37) rfl) rfl
  | 4, _ => exact kT_3 (List.mem_of_getElem? (i := 39) rfl) rfl
  | 5, _ => exact kT_3 (List.mem_of_getElem? (i := 41) rfl) rfl
  | 6, _ => exact kT_3 (List.mem_of_getElem? (i := 43) rfl) rfl
  | 7, _ => exact kT_3 (List.mem_of_getElem? (i := 45) rfl) rfl
  | 8, _ => exact kT_3 (List.mem_of_getElem? (i := 47) rfl) rfl
  | 9, _ => exact kT_3 (List.mem_of_getElem? (i := 49) rfl) rfl
  | 10, _ => exact kT_3 (List.mem_of_getElem? (i := 51) rfl) rfl
  | 11, _ => exact kT_3 (List.mem_of_getElem? (i := 53) rfl) rfl
  | 12, _ => exact kT_3 (List.mem_of_getElem? (i := 55) rfl) rfl
  | 13, _ => exact kT_3 (List.mem_of_getElem? (i := 57) rfl) rfl
  | 14, _ => exact kT_3 (List.mem_of_getElem? (i := 59) rfl) rfl
  | 15, _ => exact kT_3 (List.mem_of_getElem? (i := 61) rfl) rfl
  | 16, _ => exact kT_3 (List.mem_of_getElem? (i := 63) rfl) rfl
  | 17, _ => exact kT_3 (List.mem_of_getElem? (i := 65) rfl) rfl
  | 18, _ => exact kT_3 (List.mem_of_getElem? (i := 67) rfl) rfl
  | 19, _ => exact kT_3 (List.mem_of_getElem? (i := 69) rfl) rfl
  | 20, _ => exact kT_3 (List.mem_of_getElem? (i := 71) rfl) rfl
  | 21, _ => exact kT_3 (List.mem_of_getElem? (i := 73) rfl) rfl
  | 22, _ => exact kT_3 (List.mem_of_getElem? (i := 75) rfl) rfl
  | 23, _ => exact kT_3 (List.mem_of_getElem? (i := 77) rfl) rfl
  | 24, _ => exact kT_3 (List.mem_of_getElem? (i := 79) rfl) rfl
  | 25, _ => exact kT_3 (List.mem_of_getElem? (i := 81) rfl) rfl
  | 26, _ => exact kT_3 (List.mem_of_getElem? (i := 83) rfl) rfl
  | 27, _ => exact kT_3 (List.mem_of_getElem? (i := 85) rfl) rfl
  | 28, _ => exact kT_3 (List.mem_of_getElem? (i := 87) rfl) rfl
  | k + 29, hk => exact absurd hk (by omega)
def nestF : List (String × Nat × String × String × String × String) := [(RX3, 54, "BlotLand$Page", "size", "I", "BlotLand"), (RX3, 112, "BlotLand$State", "strokes", "I", "BlotLand"), (RX3, 182, "BlotLand$State", "sanded", "I", "BlotLand"), (RX3, 134, "BlotLand$State", "evenings", "I", "BlotLand"), (RX3, 156, "BlotLand$State", "found", "I", "BlotLand"), (RX3, 128, "BlotLand$State", "inkRow", "[I", "BlotLand"), (RX3, 240, "BlotLand$State", "foundCell", "[I", "BlotLand"), (RX3, 243, "BlotLand$State", "foundMinute", "[I", "BlotLand"), (RX3, 246, "BlotLand$State", "foundMuch", "[I", "BlotLand"), (RX3, 82, "BlotLand$Stroke", "kind", "I", "BlotLand"), (RX3, 85, "BlotLand$Stroke", "first", "I", "BlotLand"), (RX3, 88, "BlotLand$Stroke", "cells", "I", "BlotLand"), (RX3, 91, "BlotLand$Stroke", "press", "I", "BlotLand")]
def nestM : List (String × Nat × MethodName × String) := [(RX3, 9, yX0_init, "BlotLand"), (RX3, 24, yX1_init, "BlotLand"), (RX1, 37, yX3_copyRow, "BlotLand")]
/-- the nest mates' links: facts of the machine that stay -/
def NF (U : State) : Prop := (∀ q ∈ nestF, va_Nw (.fieldLinkNest q.1 q.2.1 q.2.2.1 q.2.2.2.1 q.2.2.2.2.1 q.2.2.2.2.2) U) ∧ ∀ q ∈ nestM, va_Nw (.methodLinkNest q.1 q.2.1 q.2.2.1 q.2.2.2) U
theorem NF.warm {s U : State} (hW : s.WarmedH U.vm) (h : NF s) : NF U := ⟨fun q hq => va_Nw.warmF hW (h.1 q hq), fun q hq => va_Nw.warmM hW (h.2 q hq)⟩
theorem NF.same {u U : State} (hv : u.vm = U.vm) (h : NF u) : NF U := ⟨fun q hq => va_Nw.same rfl hv (h.1 q hq), fun q hq => va_Nw.same rfl hv (h.2 q hq)⟩
theorem nfF_0 {s : State} {args : Array Value} (h : NF s) : (Cond.fieldLinkNest RX3 54 "BlotLand$Page" "size" "I" "BlotLand").before args s = true := va_Nw.use rfl (h.1 _ (List.mem_of_getElem? (i := 0) rfl))
theorem nfF_1 {s : State} {args : Array Value} (h : NF s) : (Cond.fieldLinkNest RX3 112 "BlotLand$State" "strokes" "I" "BlotLand").before args s = true := va_Nw.use rfl (h.1 _ (List.mem_of_getElem? (i := 1) rfl))
theorem nfF_2 {s : State} {args : Array Value} (h : NF s) : (Cond.fieldLinkNest RX3 182 "BlotLand$State" "sanded" "I" "BlotLand").before args s = true := va_Nw.use rfl (h.1 _ (List.mem_of_getElem? (i := 2) rfl))
theorem nfF_3 {s : State} {args : Array Value} (h : NF s) : (Cond.fieldLinkNest RX3 134 "BlotLand$State" "evenings" "I" "BlotLand").before args s = true := va_Nw.use rfl (h.1 _ (List.mem_of_getElem? (i := 3) rfl))
theorem nfF_4 {s : State} {args : Array Value} (h : NF s) : (Cond.fieldLinkNest RX3 156 "BlotLand$State" "found" "I" "BlotLand").before args s = true := va_Nw.use rfl (h.1 _ (List.mem_of_getElem? (i := 4) rfl))
theorem nfF_5 {s : State} {args : Array Value} (h : NF s) : (Cond.fieldLinkNest RX3 128 "BlotLand$State" "inkRow" "[I" "BlotLand").before args s = true := va_Nw.use rfl (h.1 _ (List.mem_of_getElem? (i := 5) rfl))
theorem nfF_6 {s : State} {args : Array Value} (h : NF s) : (Cond.fieldLinkNest RX3 240 "BlotLand$State" "foundCell" "[I" "BlotLand").before args s = true := va_Nw.use rfl (h.1 _ (List.mem_of_getElem? (i := 6) rfl))
theorem nfF_7 {s : State} {args : Array Value} (h : NF s) : (Cond.fieldLinkNest RX3 243 "BlotLand$State" "foundMinute" "[I" "BlotLand").before args s = true := va_Nw.use rfl (h.1 _ (List.mem_of_getElem? (i := 7) rfl))
theorem nfF_8 {s : State} {args : Array Value} (h : NF s) : (Cond.fieldLinkNest RX3 246 "BlotLand$State" "foundMuch" "[I" "BlotLand").before args s = true := va_Nw.use rfl (h.1 _ (List.mem_of_getElem? (i := 8) rfl))
theorem nfF_9 {s : State} {args : Array Value} (h : NF s) : (Cond.fieldLinkNest RX3 82 "BlotLand$Stroke" "kind" "I" "BlotLand").before args s = true := va_Nw.use rfl (h.1 _ (List.mem_of_getElem? (i := 9) rfl))
theorem nfF_10 {s : State} {args : Array Value} (h : NF s) : (Cond.fieldLinkNest RX3 85 "BlotLand$Stroke" "first" "I" "BlotLand").before args s = true := va_Nw.use rfl (h.1 _ (List.mem_of_getElem? (i := 10) rfl))
theorem nfF_11 {s : State} {args : Array Value} (h : NF s) : (Cond.fieldLinkNest RX3 88 "BlotLand$Stroke" "cells" "I" "BlotLand").before args s = true := va_Nw.use rfl (h.1 _ (List.mem_of_getElem? (i := 11) rfl))
theorem nfF_12 {s : State} {args : Array Value} (h : NF s) : (Cond.fieldLinkNest RX3 91 "BlotLand$Stroke" "press" "I" "BlotLand").before args s = true := va_Nw.use rfl (h.1 _ (List.mem_of_getElem? (i := 12) rfl))
theorem nfM_0 {s : State} (h : NF s) : va_Nw (.methodLinkNest RX3 9 yX0_init "BlotLand") s := h.2 _ (List.mem_of_getElem? (i := 0) rfl)
theorem nfM_1 {s : State} (h : NF s) : va_Nw (.methodLinkNest RX3 24 yX1_init "BlotLand") s := h.2 _ (List.mem_of_getElem? (i := 1) rfl)
theorem nfM_2 {s : State} (h : NF s) : va_Nw (.methodLinkNest RX1 37 yX3_copyRow "BlotLand") s := h.2 _ (List.mem_of_getElem? (i := 2) rfl)
theorem NF.of {args : Array Value} {s : State} (hts : ∀ w ∈ lw_tbl, w.before args s = true) : NF s := by
  refine ⟨fun q hq => ?_, fun q hq => ?_⟩
  · obtain ⟨i, hi⟩ := List.getElem?_of_mem hq
    match i, hi with
    | 0, hi => cases hi; exact va_Nw.of rfl (hts _ (List.mem_append_right _ (List.mem_append_left _ (List.mem_of_getElem? (i := 29) rfl))))
    | 1, hi => cases hi; exact va_Nw.of rfl (hts _ (List.mem_append_right _ (List.mem_append_left _ (List.mem_of_getElem? (i := 45) rfl))))
    | 2, hi => cases hi; exact va_Nw.of rfl (hts _ (List.mem_append_right _ (List.mem_append_left _ (List.mem_of_getElem? (i := 47) rfl))))
    | 3, hi => cases hi; exact va_Nw.of rfl (hts _ (List.mem_append_right _ (List.mem_append_left _ (List.mem_of_getElem? (i := 49) rfl))))
    | 4, hi => cases hi; exact va_Nw.of rfl (hts _ (List.mem_append_right _ (List.mem_append_left _ (List.mem_of_getElem? (i := 51) rfl))))
    | 5, hi => cases hi; exact va_Nw.of rfl (hts _ (List.mem_append_right _ (List.mem_append_left _ (List.mem_of_getElem? (i := 53) rfl))))
    | 6, hi => cases hi; exact va_Nw.of rfl (hts _ (List.mem_append_right _ (List.mem_append_left _ (List.mem_of_getElem? (i := 55) rfl))))
    | 7, hi => cases hi; exact va_Nw.of rfl (hts _ (List.mem_append_right _ (List.mem_append_left _ (List.mem_of_getElem? (i := 57) rfl))))
    | 8, hi => cases hi; exact va_Nw.of rfl (hts _ (List.mem_append_right _ (List.mem_append_left _ (List.mem_of_getElem? (i := 59) rfl))))
    | 9, hi => cases hi; exact va_Nw.of rfl (hts _ (List.mem_append_right _ (List.mem_append_left _ (List.mem_of_getElem? (i := 84) rfl))))
    | 10, hi => cases hi; exact va_Nw.of rfl (hts _ (List.mem_append_right _ (List.mem_append_left _ (List.mem_of_getElem? (i := 86) rfl))))
    | 11, hi => cases hi; exact va_Nw.of rfl (hts _ (List.mem_append_right _ (List.mem_append_left _ (List.mem_of_getElem? (i := 88) rfl))))
    | 12, hi => cases hi; exact va_Nw.of rfl (hts _ (List.mem_append_right _ (List.mem_append_left _ (List.mem_of_getElem? (i := 90) rfl))))
    | i + 13, hi => exact absurd hi (by simp [nestF])
  · obtain ⟨i, hi⟩ := List.getElem?_of_mem hq
    match i, hi with
    | 0, hi => cases hi; exact va_Nw.of rfl (hts _ (List.mem_append_right _ (List.mem_append_left _ (List.mem_of_getElem? (i := 23) rfl))))
    | 1, hi => cases hi; exact va_Nw.of rfl (hts _ (List.mem_append_right _ (List.mem_append_left _ (List.mem_of_getElem? (i := 40) rfl))))
    | 2, hi => cases hi; exact va_Nw.of rfl (hts _ (List.mem_append_right _ (List.mem_append_right _ (List.mem_append_left _ (List.mem_of_getElem? (i := 206) rfl)))))
    | i + 3, hi => exact absurd hi (by simp [nestM])
theorem kw_obj : Cond.code objectInit ⟨#[0xb1]⟩ 1 none ∈ wsG := kT_1 (List.mem_of_getElem? (i := 20) rfl) rfl
