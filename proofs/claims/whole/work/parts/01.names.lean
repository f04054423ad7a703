/-! ===== BEGIN words of one list among another's, by their places ===== -/
theorem goodIn_r {big : List Cond} (ws : List Cond) (ps : List Nat) (hp : ws = ps.filterMap (fun i => big[i]?)) (h : ws.all goodWord = true) : GoodIn big ws := by
  intro w hw
  have h1 := List.all_eq_true.mp h w hw
  rw [hp] at hw
  obtain ⟨i, -, hi⟩ := List.mem_filterMap.mp hw
  have hm : w ∈ big := by first | exact List.mem_of_getElem? hi | exact List.getElem?_mem hi
  exact ⟨hm, good_of_word h1⟩
theorem goodIn_app {big a b : List Cond} (ha : GoodIn big a) (hb : GoodIn big b) : GoodIn big (a ++ b) := fun w h => (List.mem_append.mp h).elim (ha w) (hb w)
theorem goodIn_ca {big a b : List Cond} {c : Cond} (ha : GoodIn big (c :: a)) (hb : GoodIn big b) : GoodIn big (c :: (a ++ b)) := fun w h => (List.mem_cons.mp h).elim (fun e => ha w (List.mem_cons.mpr (Or.inl e))) (fun h => (List.mem_append.mp h).elim (fun h => ha w (List.mem_cons.mpr (Or.inr h))) (hb w))
theorem goodIn_sub {big ws : List Cond} (hm : ∀ w ∈ ws, w ∈ big) (h : ws.all goodWord = true) : GoodIn big ws := fun w hw => ⟨hm w hw, good_of_word (List.all_eq_true.mp h w hw)⟩
/-! ===== END ===== -/

/-! ===== BEGIN printed: names, fields, word lists, decode rows ===== -/
def RX0 : String := "BlotLand$Page"
def TX0 : u_T := fun k => match k with
  | 0 => ("BlotLand$Page", "codes", "[I", true)
  | _ => ("BlotLand$Page", "size", "I", false)
def tyX0 : Nat → FieldType := fun k => match k with
  | 0 => .array .int
  | _ => .int
abbrev wsX00 : List Cond := u_ws RX0 TX0 2
theorem nmX0 : ∀ a, a < 2 → ∀ b, b < 2 → a ≠ b → (TX0 a).2.1 ≠ (TX0 b).2.1 := by decide +kernel
theorem tyX0_ok : ∀ k, k < 2 → parseFieldDescriptor (TX0 k).2.2.1 = some (tyX0 k) := by decide +kernel
abbrev cX0_init : ByteArray := prog_2_method_1_code
def yX0_init : MethodName := ⟨RX0, "<init>", "()V"⟩
abbrev cX0_append : ByteArray := prog_2_method_2_code
def yX0_append : MethodName := ⟨RX0, "append", "(I)Z"⟩
abbrev cX0_codeAt : ByteArray := prog_2_method_3_code
def yX0_codeAt : MethodName := ⟨RX0, "codeAt", "(I)I"⟩
abbrev cX0_digitAt : ByteArray := prog_2_method_4_code
def yX0_digitAt : MethodName := ⟨RX0, "digitAt", "(I)I"⟩
abbrev cX0_kindAt : ByteArray := prog_2_method_5_code
def yX0_kindAt : MethodName := ⟨RX0, "kindAt", "(I)I"⟩
abbrev cX0_isLeaf : ByteArray := prog_2_method_6_code
def yX0_isLeaf : MethodName := ⟨RX0, "isLeaf", "()Z"⟩
abbrev cX0_firstFault : ByteArray := prog_2_method_7_code
def yX0_firstFault : MethodName := ⟨RX0, "firstFault", "()I"⟩
abbrev cX0_canStandAt : ByteArray := prog_2_method_8_code
def yX0_canStandAt : MethodName := ⟨RX0, "canStandAt", "(I)Z"⟩
def RX1 : String := "BlotLand$State"
def TX1 : u_T := fun k => match k with
  | 0 => ("BlotLand$State", "strokes", "I", false)
  | 1 => ("BlotLand$State", "sanded", "I", false)
  | 2 => ("BlotLand$State", "evenings", "I", false)
  | 3 => ("BlotLand$State", "found", "I", false)
  | 4 => ("BlotLand$State", "inkRow", "[I", true)
  | 5 => ("BlotLand$State", "foundCell", "[I", true)
  | 6 => ("BlotLand$State", "foundMinute", "[I", true)
  | _ => ("BlotLand$State", "foundMuch", "[I", true)
def tyX1 : Nat → FieldType := fun k => match k with
  | 0 => .int
  | 1 => .int
  | 2 => .int
  | 3 => .int
  | 4 => .array .int
  | 5 => .array .int
  | 6 => .array .int
  | _ => .array .int
abbrev wsX10 : List Cond := u_ws RX1 TX1 8
theorem nmX1 : ∀ a, a < 8 → ∀ b, b < 8 → a ≠ b → (TX1 a).2.1 ≠ (TX1 b).2.1 := by decide +kernel
theorem tyX1_ok : ∀ k, k < 8 → parseFieldDescriptor (TX1 k).2.2.1 = some (tyX1 k) := by decide +kernel
abbrev cX1_init : ByteArray := prog_3_method_1_code
def yX1_init : MethodName := ⟨RX1, "<init>", "()V"⟩
abbrev cX1_begin : ByteArray := prog_3_method_2_code
def yX1_begin : MethodName := ⟨RX1, "begin", "(I)V"⟩
abbrev cX1_isSanded : ByteArray := prog_3_method_3_code
def yX1_isSanded : MethodName := ⟨RX1, "isSanded", "(I)Z"⟩
abbrev cX1_putSanded : ByteArray := prog_3_method_4_code
def yX1_putSanded : MethodName := ⟨RX1, "putSanded", "(IZ)V"⟩
abbrev cX1_addFound : ByteArray := prog_3_method_5_code
def yX1_addFound : MethodName := ⟨RX1, "addFound", "(III)Z"⟩
abbrev cX1_copyFrom : ByteArray := prog_3_method_6_code
def yX1_copyFrom : MethodName := ⟨RX1, "copyFrom", "(LBlotLand$State;)V"⟩
def RX2 : String := "BlotLand$Stroke"
def TX2 : u_T := fun k => match k with
  | 0 => ("BlotLand$Stroke", "written", "I", true)
  | 1 => ("BlotLand$Stroke", "kind", "I", false)
  | 2 => ("BlotLand$Stroke", "first", "I", false)
  | 3 => ("BlotLand$Stroke", "cells", "I", false)
  | _ => ("BlotLand$Stroke", "press", "I", false)
def tyX2 : Nat → FieldType := fun k => match k with
  | 0 => .int
  | 1 => .int
  | 2 => .int
  | 3 => .int
  | _ => .int
abbrev wsX20 : List Cond := u_ws RX2 TX2 5
theorem nmX2 : ∀ a, a < 5 → ∀ b, b < 5 → a ≠ b → (TX2 a).2.1 ≠ (TX2 b).2.1 := by decide +kernel
theorem tyX2_ok : ∀ k, k < 5 → parseFieldDescriptor (TX2 k).2.2.1 = some (tyX2 k) := by decide +kernel
abbrev cX2_init : ByteArray := prog_4_method_1_code
def yX2_init : MethodName := ⟨RX2, "<init>", "(I)V"⟩
abbrev cX2_become : ByteArray := prog_4_method_2_code
def yX2_become : MethodName := ⟨RX2, "become", "(IIII)V"⟩
abbrev cX2_isA : ByteArray := prog_4_method_3_code
def yX2_isA : MethodName := ⟨RX2, "isA", "(I)Z"⟩
abbrev cX2_wetAt : ByteArray := prog_4_method_4_code
def yX2_wetAt : MethodName := ⟨RX2, "wetAt", "(II)I"⟩
abbrev cX2_givesTo : ByteArray := prog_4_method_5_code
def yX2_givesTo : MethodName := ⟨RX2, "givesTo", "(II)I"⟩
def RX3 : String := "BlotLand"
def TX3 : u_T := fun k => match k with
  | 0 => ("BlotLand", "page", "LBlotLand$Page;", true)
  | 1 => ("BlotLand", "strokes", "[LBlotLand$Stroke;", true)
  | 2 => ("BlotLand", "now", "LBlotLand$State;", true)
  | 3 => ("BlotLand", "kept", "LBlotLand$State;", true)
  | 4 => ("BlotLand", "isKept", "Z", false)
  | 5 => ("BlotLand", "leavesRead", "I", false)
  | 6 => ("BlotLand", "inkOfYears", "[I", true)
  | _ => ("BlotLand", "comesByPress", "[I", true)
def tyX3 : Nat → FieldType := fun k => match k with
  | 0 => .object "BlotLand$Page"
  | 1 => .array (.object "BlotLand$Stroke")
  | 2 => .object "BlotLand$State"
  | 3 => .object "BlotLand$State"
  | 4 => .boolean
  | 5 => .int
  | 6 => .array .int
  | _ => .array .int
abbrev wsX30 : List Cond := u_ws RX3 TX3 8
theorem nmX3 : ∀ a, a < 8 → ∀ b, b < 8 → a ≠ b → (TX3 a).2.1 ≠ (TX3 b).2.1 := by decide +kernel
theorem tyX3_ok : ∀ k, k < 8 → parseFieldDescriptor (TX3 k).2.2.1 = some (tyX3 k) := by decide +kernel
abbrev cX3_init : ByteArray := prog_1_method_1_code
def yX3_init : MethodName := ⟨RX3, "<init>", "()V"⟩
abbrev cX3_letter : ByteArray := prog_1_method_2_code
def yX3_letter : MethodName := ⟨RX3, "letter", "(I)I"⟩
abbrev cX3_blank : ByteArray := prog_1_method_3_code
def yX3_blank : MethodName := ⟨RX3, "blank", "()I"⟩
abbrev cX3_fault : ByteArray := prog_1_method_4_code
def yX3_fault : MethodName := ⟨RX3, "fault", "()I"⟩
abbrev cX3_leaf : ByteArray := prog_1_method_5_code
def yX3_leaf : MethodName := ⟨RX3, "leaf", "()I"⟩
abbrev cX3_about : ByteArray := prog_1_method_6_code
def yX3_about : MethodName := ⟨RX3, "about", "(II)I"⟩
abbrev cX3_as : ByteArray := prog_1_method_7_code
def yX3_as : MethodName := ⟨RX3, "as", "(II)I"⟩
abbrev cX3_write : ByteArray := prog_1_method_8_code
def yX3_write : MethodName := ⟨RX3, "write", "(IIII)I"⟩
abbrev cX3_sand : ByteArray := prog_1_method_9_code
def yX3_sand : MethodName := ⟨RX3, "sand", "(IZ)I"⟩
abbrev cX3_wet : ByteArray := prog_1_method_10_code
def yX3_wet : MethodName := ⟨RX3, "wet", "(II)I"⟩
abbrev cX3_ink : ByteArray := prog_1_method_11_code
def yX3_ink : MethodName := ⟨RX3, "ink", "(I)I"⟩
abbrev cX3_comes : ByteArray := prog_1_method_12_code
def yX3_comes : MethodName := ⟨RX3, "comes", "(II)I"⟩
abbrev cX3_evening : ByteArray := prog_1_method_13_code
def yX3_evening : MethodName := ⟨RX3, "evening", "(I)I"⟩
abbrev cX3_hills : ByteArray := prog_1_method_14_code
def yX3_hills : MethodName := ⟨RX3, "hills", "(I)I"⟩
abbrev cX3_close : ByteArray := prog_1_method_15_code
def yX3_close : MethodName := ⟨RX3, "close", "(II)I"⟩
abbrev cX3_toSand : ByteArray := prog_1_method_16_code
def yX3_toSand : MethodName := ⟨RX3, "toSand", "(III)I"⟩
abbrev cX3_found : ByteArray := prog_1_method_17_code
def yX3_found : MethodName := ⟨RX3, "found", "(III)I"⟩
abbrev cX3_forget : ByteArray := prog_1_method_18_code
def yX3_forget : MethodName := ⟨RX3, "forget", "()I"⟩
abbrev cX3_look : ByteArray := prog_1_method_19_code
def yX3_look : MethodName := ⟨RX3, "look", "(II)I"⟩
abbrev cX3_years : ByteArray := prog_1_method_20_code
def yX3_years : MethodName := ⟨RX3, "years", "(III)I"⟩
abbrev cX3_image : ByteArray := prog_1_method_21_code
def yX3_image : MethodName := ⟨RX3, "image", "()I"⟩
abbrev cX3_restore : ByteArray := prog_1_method_22_code
def yX3_restore : MethodName := ⟨RX3, "restore", "()I"⟩
abbrev cX3_count : ByteArray := prog_1_method_23_code
def yX3_count : MethodName := ⟨RX3, "count", "(I)I"⟩
abbrev cX3_digest : ByteArray := prog_1_method_24_code
def yX3_digest : MethodName := ⟨RX3, "digest", "()J"⟩
abbrev cX3_withLand : ByteArray := prog_1_method_25_code
def yX3_withLand : MethodName := ⟨RX3, "withLand", "(J)J"⟩
abbrev cX3_mixed : ByteArray := prog_1_method_26_code
def yX3_mixed : MethodName := ⟨RX3, "mixed", "(JJ)J"⟩
abbrev cX3_hasLeaf : ByteArray := prog_1_method_27_code
def yX3_hasLeaf : MethodName := ⟨RX3, "hasLeaf", "()Z"⟩
abbrev cX3_isStroke : ByteArray := prog_1_method_28_code
def yX3_isStroke : MethodName := ⟨RX3, "isStroke", "(I)Z"⟩
abbrev cX3_isLand : ByteArray := prog_1_method_29_code
def yX3_isLand : MethodName := ⟨RX3, "isLand", "(I)Z"⟩
abbrev cX3_isCell : ByteArray := prog_1_method_30_code
def yX3_isCell : MethodName := ⟨RX3, "isCell", "(I)Z"⟩
abbrev cX3_isKind : ByteArray := prog_1_method_31_code
def yX3_isKind : MethodName := ⟨RX3, "isKind", "(I)Z"⟩
abbrev cX3_isMinute : ByteArray := prog_1_method_32_code
def yX3_isMinute : MethodName := ⟨RX3, "isMinute", "(I)Z"⟩
abbrev cX3_isMuch : ByteArray := prog_1_method_33_code
def yX3_isMuch : MethodName := ⟨RX3, "isMuch", "(I)Z"⟩
abbrev cX3_comesNow : ByteArray := prog_1_method_34_code
def yX3_comesNow : MethodName := ⟨RX3, "comesNow", "(II)I"⟩
abbrev cX3_comesIf : ByteArray := prog_1_method_35_code
def yX3_comesIf : MethodName := ⟨RX3, "comesIf", "(IIII)I"⟩
abbrev cX3_pressOff : ByteArray := prog_1_method_36_code
def yX3_pressOff : MethodName := ⟨RX3, "pressOff", "([II)I"⟩
abbrev cX3_reachesAny : ByteArray := prog_1_method_37_code
def yX3_reachesAny : MethodName := ⟨RX3, "reachesAny", "(III)Z"⟩
abbrev cX3_heavy : ByteArray := prog_1_method_38_code
def yX3_heavy : MethodName := ⟨RX3, "heavy", "(I)I"⟩
abbrev cX3_isAllFoundWith : ByteArray := prog_1_method_39_code
def yX3_isAllFoundWith : MethodName := ⟨RX3, "isAllFoundWith", "(II)Z"⟩
abbrev cX3_leftAtWorst : ByteArray := prog_1_method_40_code
def yX3_leftAtWorst : MethodName := ⟨RX3, "leftAtWorst", "(IIII)I"⟩
abbrev cX3_countLike : ByteArray := prog_1_method_41_code
def yX3_countLike : MethodName := ⟨RX3, "countLike", "(II)I"⟩
abbrev cX3_seedAfter : ByteArray := prog_1_method_42_code
def yX3_seedAfter : MethodName := ⟨RX3, "seedAfter", "(I)I"⟩
abbrev cX3_inkIn : ByteArray := prog_1_method_43_code
def yX3_inkIn : MethodName := ⟨RX3, "inkIn", "([I)I"⟩
abbrev cX3_dryIn : ByteArray := prog_1_method_44_code
def yX3_dryIn : MethodName := ⟨RX3, "dryIn", "([I)I"⟩
abbrev cX3_copyRow : ByteArray := prog_1_method_45_code
def yX3_copyRow : MethodName := ⟨RX3, "copyRow", "([I[I)V"⟩
def RX4 : String := "BlotLandModel"
def TX4 : u_T := fun k => match k with
  | 0 => ("BlotLandModel", "leaves", "I", false)
  | 1 => ("BlotLandModel", "strokes", "I", false)
  | 2 => ("BlotLandModel", "kindOf", "[I", true)
  | 3 => ("BlotLandModel", "beginsOf", "[I", true)
  | 4 => ("BlotLandModel", "longOf", "[I", true)
  | 5 => ("BlotLandModel", "pressOf", "[I", true)
  | 6 => ("BlotLandModel", "sanded", "I", false)
  | 7 => ("BlotLandModel", "inkOf", "[I", true)
  | 8 => ("BlotLandModel", "evenings", "I", false)
  | 9 => ("BlotLandModel", "found", "I", false)
  | 10 => ("BlotLandModel", "foundCell", "[I", true)
  | 11 => ("BlotLandModel", "foundMinute", "[I", true)
  | 12 => ("BlotLandModel", "foundMuch", "[I", true)
  | 13 => ("BlotLandModel", "pageLength", "I", false)
  | 14 => ("BlotLandModel", "page", "[B", true)
  | 15 => ("BlotLandModel", "comesBy", "[I", true)
  | 16 => ("BlotLandModel", "seedNow", "J", false)
  | 17 => ("BlotLandModel", "savedInk", "[I", true)
  | 18 => ("BlotLandModel", "isKept", "Z", false)
  | 19 => ("BlotLandModel", "keptLeaf", "I", false)
  | 20 => ("BlotLandModel", "keptStrokes", "I", false)
  | 21 => ("BlotLandModel", "keptSanded", "I", false)
  | 22 => ("BlotLandModel", "keptEvenings", "I", false)
  | 23 => ("BlotLandModel", "keptFound", "I", false)
  | 24 => ("BlotLandModel", "keptInk", "[I", true)
  | 25 => ("BlotLandModel", "keptCell", "[I", true)
  | 26 => ("BlotLandModel", "keptMinute", "[I", true)
  | 27 => ("BlotLandModel", "keptMuch", "[I", true)
  | _ => ("BlotLandModel", "h", "J", false)
def tyX4 : Nat → FieldType := fun k => match k with
  | 0 => .int
  | 1 => .int
  | 2 => .array .int
  | 3 => .array .int
  | 4 => .array .int
  | 5 => .array .int
  | 6 => .int
  | 7 => .array .int
  | 8 => .int
  | 9 => .int
  | 10 => .array .int
  | 11 => .array .int
  | 12 => .array .int
  | 13 => .int
  | 14 => .array .byte
  | 15 => .array .int
  | 16 => .long
  | 17 => .array .int
  | 18 => .boolean
  | 19 => .int
  | 20 => .int
  | 21 => .int
  | 22 => .int
  | 23 => .int
  | 24 => .array .int
  | 25 => .array .int
  | 26 => .array .int
  | 27 => .array .int
  | _ => .long
abbrev wsX40 : List Cond := u_ws RX4 TX4 29
theorem nmX4 : ∀ a, a < 29 → ∀ b, b < 29 → a ≠ b → (TX4 a).2.1 ≠ (TX4 b).2.1 := by decide +kernel
theorem tyX4_ok : ∀ k, k < 29 → parseFieldDescriptor (TX4 k).2.2.1 = some (tyX4 k) := by decide +kernel
abbrev cX4_init : ByteArray := prog_6_method_1_code
def yX4_init : MethodName := ⟨RX4, "<init>", "()V"⟩
abbrev cX4_within : ByteArray := prog_6_method_3_code
def yX4_within : MethodName := ⟨RX4, "within", "(III)Z"⟩
abbrev cX4_isIn : ByteArray := prog_6_method_4_code
def yX4_isIn : MethodName := ⟨RX4, "isIn", "(II)Z"⟩
abbrev cX4_size : ByteArray := prog_6_method_5_code
def yX4_size : MethodName := ⟨RX4, "size", "(I)I"⟩
abbrev cX4_letter : ByteArray := prog_6_method_6_code
def yX4_letter : MethodName := ⟨RX4, "letter", "(I)I"⟩
abbrev cX4_blank : ByteArray := prog_6_method_7_code
def yX4_blank : MethodName := ⟨RX4, "blank", "()I"⟩
abbrev cX4_kindBy : ByteArray := prog_6_method_8_code
def yX4_kindBy : MethodName := ⟨RX4, "kindBy", "(I)I"⟩
abbrev cX4_isGood : ByteArray := prog_6_method_9_code
def yX4_isGood : MethodName := ⟨RX4, "isGood", "(I)Z"⟩
abbrev cX4_faultNow : ByteArray := prog_6_method_10_code
def yX4_faultNow : MethodName := ⟨RX4, "faultNow", "()I"⟩
abbrev cX4_fault : ByteArray := prog_6_method_11_code
def yX4_fault : MethodName := ⟨RX4, "fault", "()I"⟩
abbrev cX4_longAt : ByteArray := prog_6_method_12_code
def yX4_longAt : MethodName := ⟨RX4, "longAt", "(II)I"⟩
abbrev cX4_leaf : ByteArray := prog_6_method_13_code
def yX4_leaf : MethodName := ⟨RX4, "leaf", "()I"⟩
abbrev cX4_isStroke : ByteArray := prog_6_method_14_code
def yX4_isStroke : MethodName := ⟨RX4, "isStroke", "(I)Z"⟩
abbrev cX4_isCell : ByteArray := prog_6_method_15_code
def yX4_isCell : MethodName := ⟨RX4, "isCell", "(I)Z"⟩
abbrev cX4_isMinute : ByteArray := prog_6_method_16_code
def yX4_isMinute : MethodName := ⟨RX4, "isMinute", "(I)Z"⟩
abbrev cX4_wetAt : ByteArray := prog_6_method_17_code
def yX4_wetAt : MethodName := ⟨RX4, "wetAt", "(II)I"⟩
abbrev cX4_comesOf : ByteArray := prog_6_method_18_code
def yX4_comesOf : MethodName := ⟨RX4, "comesOf", "(III)I"⟩
abbrev cX4_comesTo : ByteArray := prog_6_method_19_code
def yX4_comesTo : MethodName := ⟨RX4, "comesTo", "(II)I"⟩
abbrev cX4_strokeNow : ByteArray := prog_6_method_20_code
def yX4_strokeNow : MethodName := ⟨RX4, "strokeNow", "(II)I"⟩
abbrev cX4_about : ByteArray := prog_6_method_21_code
def yX4_about : MethodName := ⟨RX4, "about", "(II)I"⟩
abbrev cX4_as : ByteArray := prog_6_method_22_code
def yX4_as : MethodName := ⟨RX4, "as", "(II)I"⟩
abbrev cX4_write : ByteArray := prog_6_method_23_code
def yX4_write : MethodName := ⟨RX4, "write", "(IIII)I"⟩
abbrev cX4_sand : ByteArray := prog_6_method_24_code
def yX4_sand : MethodName := ⟨RX4, "sand", "(IZ)I"⟩
abbrev cX4_wet : ByteArray := prog_6_method_25_code
def yX4_wet : MethodName := ⟨RX4, "wet", "(II)I"⟩
abbrev cX4_ink : ByteArray := prog_6_method_26_code
def yX4_ink : MethodName := ⟨RX4, "ink", "(I)I"⟩
abbrev cX4_comes : ByteArray := prog_6_method_27_code
def yX4_comes : MethodName := ⟨RX4, "comes", "(II)I"⟩
abbrev cX4_press : ByteArray := prog_6_method_28_code
def yX4_press : MethodName := ⟨RX4, "press", "(I)I"⟩
abbrev cX4_evening : ByteArray := prog_6_method_29_code
def yX4_evening : MethodName := ⟨RX4, "evening", "(I)I"⟩
abbrev cX4_hillsNow : ByteArray := prog_6_method_30_code
def yX4_hillsNow : MethodName := ⟨RX4, "hillsNow", "(I)I"⟩
abbrev cX4_hills : ByteArray := prog_6_method_31_code
def yX4_hills : MethodName := ⟨RX4, "hills", "(I)I"⟩
abbrev cX4_closeNow : ByteArray := prog_6_method_32_code
def yX4_closeNow : MethodName := ⟨RX4, "closeNow", "(II)I"⟩
abbrev cX4_close : ByteArray := prog_6_method_33_code
def yX4_close : MethodName := ⟨RX4, "close", "(II)I"⟩
abbrev cX4_isDryAt : ByteArray := prog_6_method_34_code
def yX4_isDryAt : MethodName := ⟨RX4, "isDryAt", "(II)Z"⟩
abbrev cX4_sandNow : ByteArray := prog_6_method_35_code
def yX4_sandNow : MethodName := ⟨RX4, "sandNow", "(III)I"⟩
abbrev cX4_toSand : ByteArray := prog_6_method_36_code
def yX4_toSand : MethodName := ⟨RX4, "toSand", "(III)I"⟩
abbrev cX4_found : ByteArray := prog_6_method_37_code
def yX4_found : MethodName := ⟨RX4, "found", "(III)I"⟩
abbrev cX4_forget : ByteArray := prog_6_method_38_code
def yX4_forget : MethodName := ⟨RX4, "forget", "()I"⟩
abbrev cX4_isFound : ByteArray := prog_6_method_39_code
def yX4_isFound : MethodName := ⟨RX4, "isFound", "()Z"⟩
abbrev cX4_heavyOf : ByteArray := prog_6_method_40_code
def yX4_heavyOf : MethodName := ⟨RX4, "heavyOf", "(I)I"⟩
abbrev cX4_layComes : ByteArray := prog_6_method_41_code
def yX4_layComes : MethodName := ⟨RX4, "layComes", "(II)V"⟩
abbrev cX4_worstAt : ByteArray := prog_6_method_42_code
def yX4_worstAt : MethodName := ⟨RX4, "worstAt", "(II)I"⟩
abbrev cX4_lookNow : ByteArray := prog_6_method_43_code
def yX4_lookNow : MethodName := ⟨RX4, "lookNow", "(II)I"⟩
abbrev cX4_look : ByteArray := prog_6_method_44_code
def yX4_look : MethodName := ⟨RX4, "look", "(II)I"⟩
abbrev cX4_draw : ByteArray := prog_6_method_45_code
def yX4_draw : MethodName := ⟨RX4, "draw", "(I)I"⟩
abbrev cX4_inkAll : ByteArray := prog_6_method_46_code
def yX4_inkAll : MethodName := ⟨RX4, "inkAll", "()I"⟩
abbrev cX4_dry : ByteArray := prog_6_method_47_code
def yX4_dry : MethodName := ⟨RX4, "dry", "()I"⟩
abbrev cX4_yearsNow : ByteArray := prog_6_method_48_code
def yX4_yearsNow : MethodName := ⟨RX4, "yearsNow", "(III)I"⟩
abbrev cX4_years : ByteArray := prog_6_method_49_code
def yX4_years : MethodName := ⟨RX4, "years", "(III)I"⟩
abbrev cX4_image : ByteArray := prog_6_method_50_code
def yX4_image : MethodName := ⟨RX4, "image", "()I"⟩
abbrev cX4_restore : ByteArray := prog_6_method_51_code
def yX4_restore : MethodName := ⟨RX4, "restore", "()I"⟩
abbrev cX4_howMany : ByteArray := prog_6_method_52_code
def yX4_howMany : MethodName := ⟨RX4, "howMany", "(I)I"⟩
abbrev cX4_count : ByteArray := prog_6_method_53_code
def yX4_count : MethodName := ⟨RX4, "count", "(I)I"⟩
abbrev cX4_mix : ByteArray := prog_6_method_54_code
def yX4_mix : MethodName := ⟨RX4, "mix", "(J)V"⟩
abbrev cX4_digest : ByteArray := prog_6_method_55_code
def yX4_digest : MethodName := ⟨RX4, "digest", "()J"⟩
def RJ11 : String := "java/lang/Character"
def TJ11 : u_T := fun k => match k with
  | _ => ("", "", "", false)
def tyJ11 : Nat → FieldType := fun k => match k with
  | _ => .int
abbrev cJ11_isValidCodePoint_9a6ad : ByteArray := prog_7_method_11_code
def yJ11_isValidCodePoint_9a6ad : MethodName := ⟨RJ11, "isValidCodePoint", "(I)Z"⟩
abbrev cJ11_highSurrogate_5068e : ByteArray := prog_7_method_28_code
def yJ11_highSurrogate_5068e : MethodName := ⟨RJ11, "highSurrogate", "(I)C"⟩
abbrev cJ11_lowSurrogate_5068e : ByteArray := prog_7_method_29_code
def yJ11_lowSurrogate_5068e : MethodName := ⟨RJ11, "lowSurrogate", "(I)C"⟩
def RJ6 : String := "java/lang/Integer"
def TJ6 : u_T := fun k => match k with
  | _ => ("", "", "", false)
def tyJ6 : Nat → FieldType := fun k => match k with
  | _ => .int
abbrev cJ6_bitCount_0f7a4 : ByteArray := prog_8_method_49_code
def yJ6_bitCount_0f7a4 : MethodName := ⟨RJ6, "bitCount", "(I)I"⟩
def RJ9 : String := "java/lang/Math"
def TJ9 : u_T := fun k => match k with
  | _ => ("", "", "", false)
def tyJ9 : Nat → FieldType := fun k => match k with
  | _ => .int
abbrev cJ9_max_7cf53 : ByteArray := prog_9_method_65_code
def yJ9_max_7cf53 : MethodName := ⟨RJ9, "max", "(II)I"⟩
abbrev cJ9_min_7cf53 : ByteArray := prog_9_method_69_code
def yJ9_min_7cf53 : MethodName := ⟨RJ9, "min", "(II)I"⟩
def RJ0 : String := "java/lang/String"
def TJ0 : u_T := fun k => match k with
  | _ => ("", "", "", false)
def tyJ0 : Nat → FieldType := fun k => match k with
  | _ => .int
abbrev cJ0_length_8abf5 : ByteArray := prog_10_method_54_code
def yJ0_length_8abf5 : MethodName := ⟨RJ0, "length", "()I"⟩
abbrev cJ0_indexOf_0f7a4 : ByteArray := prog_10_method_79_code
def yJ0_indexOf_0f7a4 : MethodName := ⟨RJ0, "indexOf", "(I)I"⟩
abbrev cJ0_indexOf_7cf53 : ByteArray := prog_10_method_80_code
def yJ0_indexOf_7cf53 : MethodName := ⟨RJ0, "indexOf", "(II)I"⟩
abbrev cJ0_coder_7d493 : ByteArray := prog_10_method_152_code
def yJ0_coder_7d493 : MethodName := ⟨RJ0, "coder", "()B"⟩
abbrev cJ0_isLatin1_aae02 : ByteArray := prog_10_method_154_code
def yJ0_isLatin1_aae02 : MethodName := ⟨RJ0, "isLatin1", "()Z"⟩
abbrev cJ0_checkBoundsBeginEnd_23922 : ByteArray := prog_10_method_158_code
def yJ0_checkBoundsBeginEnd_23922 : MethodName := ⟨RJ0, "checkBoundsBeginEnd", "(III)V"⟩
def RJ1 : String := "java/lang/StringLatin1"
def TJ1 : u_T := fun k => match k with
  | _ => ("", "", "", false)
def tyJ1 : Nat → FieldType := fun k => match k with
  | _ => .int
abbrev cJ1_canEncode_9a6ad : ByteArray := prog_11_method_4_code
def yJ1_canEncode_9a6ad : MethodName := ⟨RJ1, "canEncode", "(I)Z"⟩
abbrev cJ1_indexOf_4cfef : ByteArray := prog_11_method_22_code
def yJ1_indexOf_4cfef : MethodName := ⟨RJ1, "indexOf", "([BIII)I"⟩
abbrev cJ1_indexOfChar_4cfef : ByteArray := prog_11_method_23_code
def yJ1_indexOfChar_4cfef : MethodName := ⟨RJ1, "indexOfChar", "([BIII)I"⟩
def RJ2 : String := "java/lang/StringUTF16"
def TJ2 : u_T := fun k => match k with
  | _ => ("", "", "", false)
def tyJ2 : Nat → FieldType := fun k => match k with
  | _ => .int
abbrev cJ2_getChar_3b067 : ByteArray := prog_12_method_5_code
def yJ2_getChar_3b067 : MethodName := ⟨RJ2, "getChar", "([BI)C"⟩
abbrev cJ2_length_9d52b : ByteArray := prog_12_method_6_code
def yJ2_length_9d52b : MethodName := ⟨RJ2, "length", "([B)I"⟩
abbrev cJ2_indexOf_4cfef : ByteArray := prog_12_method_40_code
def yJ2_indexOf_4cfef : MethodName := ⟨RJ2, "indexOf", "([BIII)I"⟩
abbrev cJ2_indexOfChar_4cfef : ByteArray := prog_12_method_47_code
def yJ2_indexOfChar_4cfef : MethodName := ⟨RJ2, "indexOfChar", "([BIII)I"⟩
abbrev cJ2_indexOfCharUnsafe_4cfef : ByteArray := prog_12_method_48_code
def yJ2_indexOfCharUnsafe_4cfef : MethodName := ⟨RJ2, "indexOfCharUnsafe", "([BIII)I"⟩
abbrev cJ2_indexOfSupplementary_4cfef : ByteArray := prog_12_method_49_code
def yJ2_indexOfSupplementary_4cfef : MethodName := ⟨RJ2, "indexOfSupplementary", "([BIII)I"⟩
abbrev cJ2_checkBoundsBeginEnd_d044e : ByteArray := prog_12_method_93_code
def yJ2_checkBoundsBeginEnd_d044e : MethodName := ⟨RJ2, "checkBoundsBeginEnd", "(II[B)V"⟩
def RJ3 : String := "jdk/internal/util/Preconditions"
def TJ3 : u_T := fun k => match k with
  | _ => ("", "", "", false)
def tyJ3 : Nat → FieldType := fun k => match k with
  | _ => .int
abbrev cJ3_checkFromToIndex_8c36e : ByteArray := prog_13_method_12_code
def yJ3_checkFromToIndex_8c36e : MethodName := ⟨RJ3, "checkFromToIndex", "(IIILjava/util/function/BiFunction;)I"⟩
def RL : String := "BlotLandLaw"
abbrev cL_law : ByteArray := code
def yL_law : MethodName := ⟨RL, "law", "([I)Z"⟩
def wsL_law_r1 : List Cond := [Cond.classLink RL 7 RX3, Cond.instantiable RX3 8, Cond.initialized RX3, Cond.classLink RL 10 RX4, Cond.instantiable RX4 29, Cond.initialized RX4, Cond.methodLink RL 9 yX3_init, Cond.instanceMethod yX3_init, Cond.code yX3_init cX3_init 2 none, Cond.methodLink RX3 1 objectInit, Cond.instanceMethod objectInit, Cond.code objectInit ⟨#[0xb1]⟩ 1 none, Cond.classLink RX3 7 RX0, Cond.instantiable RX0 2, Cond.initialized RX0, Cond.fieldLink RX3 10 "BlotLand" "page" "LBlotLand$Page;", Cond.classLink RX3 16 RX2, Cond.fieldLink RX3 18 "BlotLand" "strokes" "[LBlotLand$Stroke;", Cond.classLink RX3 22 RX1, Cond.instantiable RX1 8, Cond.initialized RX1, Cond.fieldLink RX3 25 "BlotLand" "now" "LBlotLand$State;", Cond.fieldLink RX3 29 "BlotLand" "kept" "LBlotLand$State;", Cond.fieldLink RX3 32 "BlotLand" "isKept" "Z"]
def wsL_law_r2 : List Cond := [Cond.fieldLink RX3 36 "BlotLand" "leavesRead" "I", Cond.arrayClass .int, Cond.fieldLink RX3 40 "BlotLand" "inkOfYears" "[I", Cond.fieldLink RX3 44 "BlotLand" "comesByPress" "[I", Cond.instantiable RX2 5, Cond.initialized RX2, Cond.instanceMethod yX0_init, Cond.code yX0_init cX0_init 1 none, Cond.methodLink RX0 3 objectInit, Cond.fieldLink RX0 9 "BlotLand$Page" "codes" "[I", Cond.fieldLink RX0 15 "BlotLand$Page" "size" "I", Cond.instanceMethod yX1_init, Cond.code yX1_init cX1_init 1 none, Cond.methodLink RX1 3 objectInit, Cond.fieldLink RX1 9 "BlotLand$State" "strokes" "I", Cond.fieldLink RX1 15 "BlotLand$State" "sanded" "I", Cond.fieldLink RX1 18 "BlotLand$State" "evenings" "I", Cond.fieldLink RX1 21 "BlotLand$State" "found" "I", Cond.fieldLink RX1 24 "BlotLand$State" "inkRow" "[I", Cond.fieldLink RX1 28 "BlotLand$State" "foundCell" "[I", Cond.fieldLink RX1 31 "BlotLand$State" "foundMinute" "[I", Cond.fieldLink RX1 34 "BlotLand$State" "foundMuch" "[I", Cond.methodLink RX3 47 yX2_init, Cond.instanceMethod yX2_init]
def wsL_law_r3 : List Cond := [Cond.code yX2_init cX2_init 2 none, Cond.methodLink RX2 3 objectInit, Cond.fieldLink RX2 9 "BlotLand$Stroke" "kind" "I", Cond.fieldLink RX2 15 "BlotLand$Stroke" "first" "I", Cond.fieldLink RX2 18 "BlotLand$Stroke" "cells" "I", Cond.fieldLink RX2 21 "BlotLand$Stroke" "press" "I", Cond.fieldLink RX2 24 "BlotLand$Stroke" "written" "I", Cond.methodLink RL 12 yX4_init, Cond.instanceMethod yX4_init, Cond.code yX4_init cX4_init 1 none, Cond.methodLink RX4 1 objectInit, Cond.fieldLink RX4 7 "BlotLandModel" "kindOf" "[I", Cond.fieldLink RX4 13 "BlotLandModel" "beginsOf" "[I", Cond.fieldLink RX4 16 "BlotLandModel" "longOf" "[I", Cond.fieldLink RX4 19 "BlotLandModel" "pressOf" "[I", Cond.fieldLink RX4 22 "BlotLandModel" "inkOf" "[I", Cond.fieldLink RX4 25 "BlotLandModel" "foundCell" "[I", Cond.fieldLink RX4 28 "BlotLandModel" "foundMinute" "[I", Cond.fieldLink RX4 31 "BlotLandModel" "foundMuch" "[I", Cond.arrayClass .byte, Cond.fieldLink RX4 34 "BlotLandModel" "page" "[B", Cond.fieldLink RX4 38 "BlotLandModel" "comesBy" "[I", Cond.fieldLink RX4 41 "BlotLandModel" "savedInk" "[I", Cond.fieldLink RX4 44 "BlotLandModel" "keptInk" "[I"]
def wsL_law_r4 : List Cond := [Cond.fieldLink RX4 47 "BlotLandModel" "keptCell" "[I", Cond.fieldLink RX4 50 "BlotLandModel" "keptMinute" "[I", Cond.fieldLink RX4 53 "BlotLandModel" "keptMuch" "[I", Cond.methodLink RL 13 yX3_letter, Cond.instanceMethod yX3_letter, Cond.selects RX3 yX3_letter yX3_letter, Cond.code yX3_letter cX3_letter 2 (some .int), Cond.methodLink RX3 50 yX0_append, Cond.instanceMethod yX0_append, Cond.selects RX0 yX0_append yX0_append, Cond.code yX0_append cX0_append 2 (some .boolean), Cond.methodLink RL 17 yX4_letter, Cond.instanceMethod yX4_letter, Cond.selects RX4 yX4_letter yX4_letter, Cond.code yX4_letter cX4_letter 2 (some .int), Cond.fieldLink RX4 60 "BlotLandModel" "pageLength" "I", Cond.methodLink RX4 56 yX4_within, Cond.static yX4_within, Cond.code yX4_within cX4_within 3 (some .boolean), Cond.methodLink RL 18 yX3_blank, Cond.instanceMethod yX3_blank, Cond.selects RX3 yX3_blank yX3_blank, Cond.code yX3_blank cX3_blank 2 (some .int), Cond.methodLink RL 22 yX4_blank]
def wsL_law_r5 : List Cond := [Cond.instanceMethod yX4_blank, Cond.selects RX4 yX4_blank yX4_blank, Cond.code yX4_blank cX4_blank 2 (some .int), Cond.methodLink RL 23 yX3_fault, Cond.instanceMethod yX3_fault, Cond.selects RX3 yX3_fault yX3_fault, Cond.code yX3_fault cX3_fault 1 (some .int), Cond.methodLink RX3 57 yX0_firstFault, Cond.instanceMethod yX0_firstFault, Cond.selects RX0 yX0_firstFault yX0_firstFault, Cond.code yX0_firstFault cX0_firstFault 2 (some .int), Cond.methodLink RX0 34 yX0_canStandAt, Cond.instanceMethod yX0_canStandAt, Cond.selects RX0 yX0_canStandAt yX0_canStandAt, Cond.code yX0_canStandAt cX0_canStandAt 3 (some .boolean), Cond.methodLink RX0 38 yX0_digitAt, Cond.instanceMethod yX0_digitAt, Cond.selects RX0 yX0_digitAt yX0_digitAt, Cond.code yX0_digitAt cX0_digitAt 2 (some .int), Cond.methodLink RX0 19 yX0_codeAt, Cond.instanceMethod yX0_codeAt, Cond.selects RX0 yX0_codeAt yX0_codeAt, Cond.code yX0_codeAt cX0_codeAt 2 (some .int), Cond.methodLink RX0 41 yX0_kindAt]
def wsL_law_r6 : List Cond := [Cond.instanceMethod yX0_kindAt, Cond.selects RX0 yX0_kindAt yX0_kindAt, Cond.code yX0_kindAt cX0_kindAt 2 (some .int), Cond.methodLink RX0 25 yJ0_indexOf_0f7a4, Cond.instanceMethod yJ0_indexOf_0f7a4, Cond.selects RJ0 yJ0_indexOf_0f7a4 yJ0_indexOf_0f7a4, Cond.initialized RJ0, Cond.code yJ0_indexOf_0f7a4 cJ0_indexOf_0f7a4 2 (some .int), Cond.methodLink RJ0 633 yJ0_indexOf_7cf53, Cond.instanceMethod yJ0_indexOf_7cf53, Cond.selects RJ0 yJ0_indexOf_7cf53 yJ0_indexOf_7cf53, Cond.code yJ0_indexOf_7cf53 cJ0_indexOf_7cf53 3 (some .int), Cond.fieldLink RJ0 9 "java/lang/String" "value" "[B", Cond.methodLink RJ0 492 yJ0_isLatin1_aae02, Cond.instanceMethod yJ0_isLatin1_aae02, Cond.selects RJ0 yJ0_isLatin1_aae02 yJ0_isLatin1_aae02, Cond.code yJ0_isLatin1_aae02 cJ0_isLatin1_aae02 1 (some .boolean), Cond.fieldLink RJ0 38 "java/lang/String" "COMPACT_STRINGS" "Z", Cond.fieldLink RJ0 15 "java/lang/String" "coder" "B", Cond.methodLink RJ0 505 yJ0_length_8abf5, Cond.instanceMethod yJ0_length_8abf5, Cond.selects RJ0 yJ0_length_8abf5 yJ0_length_8abf5, Cond.code yJ0_length_8abf5 cJ0_length_8abf5 1 (some .int), Cond.methodLink RJ0 335 yJ0_coder_7d493]
def wsL_law_r7 : List Cond := [Cond.instanceMethod yJ0_coder_7d493, Cond.selects RJ0 yJ0_coder_7d493 yJ0_coder_7d493, Cond.code yJ0_coder_7d493 cJ0_coder_7d493 1 (some .byte), Cond.methodLink RJ0 637 yJ1_indexOf_4cfef, Cond.static yJ1_indexOf_4cfef, Cond.initialized RJ1, Cond.code yJ1_indexOf_4cfef cJ1_indexOf_4cfef 4 (some .int), Cond.methodLink RJ1 92 Lib.Math.max.name, Cond.static Lib.Math.max.name, Cond.initialized "java/lang/Math", Cond.code Lib.Math.max.name Lib.Math.max.code 2 (some .int), Cond.methodLink RJ1 38 Lib.Math.min.name, Cond.static Lib.Math.min.name, Cond.code Lib.Math.min.name Lib.Math.min.code 2 (some .int), Cond.methodLink RJ1 88 yJ1_canEncode_9a6ad, Cond.static yJ1_canEncode_9a6ad, Cond.code yJ1_canEncode_9a6ad cJ1_canEncode_9a6ad 1 (some .boolean), Cond.methodLink RJ1 95 yJ1_indexOfChar_4cfef, Cond.static yJ1_indexOfChar_4cfef, Cond.code yJ1_indexOfChar_4cfef cJ1_indexOfChar_4cfef 6 (some .int), Cond.methodLink RJ0 640 yJ2_indexOf_4cfef, Cond.static yJ2_indexOf_4cfef, Cond.initialized RJ2, Cond.code yJ2_indexOf_4cfef cJ2_indexOf_4cfef 4 (some .int)]
def wsL_law_r8 : List Cond := [Cond.methodLink RJ2 224 Lib.Math.max.name, Cond.methodLink RJ2 183 Lib.Math.min.name, Cond.constant RJ2 227 (65536), Cond.methodLink RJ2 228 yJ2_indexOfChar_4cfef, Cond.static yJ2_indexOfChar_4cfef, Cond.code yJ2_indexOfChar_4cfef cJ2_indexOfChar_4cfef 4 (some .int), Cond.methodLink RJ2 96 yJ2_checkBoundsBeginEnd_d044e, Cond.static yJ2_checkBoundsBeginEnd_d044e, Cond.code yJ2_checkBoundsBeginEnd_d044e cJ2_checkBoundsBeginEnd_d044e 3 none, Cond.methodLink RJ2 48 yJ2_length_9d52b, Cond.static yJ2_length_9d52b, Cond.code yJ2_length_9d52b cJ2_length_9d52b 1 (some .int), Cond.methodLink RJ2 241 yJ0_checkBoundsBeginEnd_23922, Cond.static yJ0_checkBoundsBeginEnd_23922, Cond.code yJ0_checkBoundsBeginEnd_23922 cJ0_checkBoundsBeginEnd_23922 3 none, Cond.fieldLink RJ0 1053 "jdk/internal/util/Preconditions" "SIOOBE_FORMATTER" "Ljava/util/function/BiFunction;", Cond.methodLink RJ0 1062 yJ3_checkFromToIndex_8c36e, Cond.static yJ3_checkFromToIndex_8c36e, Cond.initialized RJ3, Cond.code yJ3_checkFromToIndex_8c36e cJ3_checkFromToIndex_8c36e 4 (some .int), Cond.methodLink RJ2 244 yJ2_indexOfCharUnsafe_4cfef, Cond.static yJ2_indexOfCharUnsafe_4cfef, Cond.code yJ2_indexOfCharUnsafe_4cfef cJ2_indexOfCharUnsafe_4cfef 5 (some .int), Cond.methodLink RJ2 71 yJ2_getChar_3b067]
def wsL_law_r9 : List Cond := [Cond.static yJ2_getChar_3b067, Cond.code yJ2_getChar_3b067 cJ2_getChar_3b067 2 (some .char), Cond.fieldLink RJ2 44 "java/lang/StringUTF16" "$assertionsDisabled" "Z", Cond.fieldLink RJ2 59 "java/lang/StringUTF16" "HI_BYTE_SHIFT" "I", Cond.fieldLink RJ2 63 "java/lang/StringUTF16" "LO_BYTE_SHIFT" "I", Cond.methodLink RJ2 232 yJ2_indexOfSupplementary_4cfef, Cond.static yJ2_indexOfSupplementary_4cfef, Cond.code yJ2_indexOfSupplementary_4cfef cJ2_indexOfSupplementary_4cfef 7 (some .int), Cond.methodLink RJ2 164 yJ11_isValidCodePoint_9a6ad, Cond.static yJ11_isValidCodePoint_9a6ad, Cond.initialized RJ11, Cond.code yJ11_isValidCodePoint_9a6ad cJ11_isValidCodePoint_9a6ad 2 (some .boolean), Cond.methodLink RJ2 157 yJ11_highSurrogate_5068e, Cond.static yJ11_highSurrogate_5068e, Cond.code yJ11_highSurrogate_5068e cJ11_highSurrogate_5068e 1 (some .char), Cond.constant RJ11 110 (55232), Cond.methodLink RJ2 161 yJ11_lowSurrogate_5068e, Cond.static yJ11_lowSurrogate_5068e, Cond.code yJ11_lowSurrogate_5068e cJ11_lowSurrogate_5068e 1 (some .char), Cond.constant RJ11 76 (56320), Cond.methodLink RL 26 yX4_fault, Cond.instanceMethod yX4_fault, Cond.selects RX4 yX4_fault yX4_fault, Cond.code yX4_fault cX4_fault 1 (some .int)]
def wsL_law_r10 : List Cond := [Cond.methodLink RX4 72 yX4_faultNow, Cond.instanceMethod yX4_faultNow, Cond.selects RX4 yX4_faultNow yX4_faultNow, Cond.code yX4_faultNow cX4_faultNow 2 (some .int), Cond.methodLink RX4 68 yX4_isGood, Cond.instanceMethod yX4_isGood, Cond.selects RX4 yX4_isGood yX4_isGood, Cond.code yX4_isGood cX4_isGood 3 (some .boolean), Cond.methodLink RX4 64 yX4_kindBy, Cond.static yX4_kindBy, Cond.code yX4_kindBy cX4_kindBy 1 (some .int), Cond.methodLink RL 27 yX3_leaf, Cond.instanceMethod yX3_leaf, Cond.selects RX3 yX3_leaf yX3_leaf, Cond.code yX3_leaf cX3_leaf 3 (some .int), Cond.methodLink RX3 61 yX0_isLeaf, Cond.instanceMethod yX0_isLeaf, Cond.selects RX0 yX0_isLeaf yX0_isLeaf, Cond.code yX0_isLeaf cX0_isLeaf 1 (some .boolean), Cond.methodLink RX0 30 yX0_firstFault, Cond.methodLink RX3 65 yX0_kindAt, Cond.methodLink RX3 69 yX0_digitAt, Cond.methodLink RX3 72 yX2_become, Cond.instanceMethod yX2_become]
def wsL_law_r11 : List Cond := [Cond.selects RX2 yX2_become yX2_become, Cond.code yX2_become cX2_become 5 none, Cond.methodLink RX2 27 Lib.Math.min.name, Cond.methodLink RX3 76 yX1_begin, Cond.instanceMethod yX1_begin, Cond.selects RX1 yX1_begin yX1_begin, Cond.code yX1_begin cX1_begin 3 none, Cond.methodLink RL 30 yX4_leaf, Cond.instanceMethod yX4_leaf, Cond.selects RX4 yX4_leaf yX4_leaf, Cond.code yX4_leaf cX4_leaf 2 (some .int), Cond.fieldLink RX4 76 "BlotLandModel" "strokes" "I", Cond.fieldLink RX4 83 "BlotLandModel" "leaves" "I", Cond.fieldLink RX4 86 "BlotLandModel" "sanded" "I", Cond.fieldLink RX4 89 "BlotLandModel" "evenings" "I", Cond.fieldLink RX4 92 "BlotLandModel" "found" "I", Cond.methodLink RX4 79 yX4_longAt, Cond.static yX4_longAt, Cond.code yX4_longAt cX4_longAt 2 (some .int), Cond.methodLink RL 31 yX3_about, Cond.instanceMethod yX3_about, Cond.selects RX3 yX3_about yX3_about, Cond.code yX3_about cX3_about 3 (some .int), Cond.methodLink RX3 79 yX3_isStroke]
def wsL_law_r12 : List Cond := [Cond.instanceMethod yX3_isStroke, Cond.selects RX3 yX3_isStroke yX3_isStroke, Cond.code yX3_isStroke cX3_isStroke 2 (some .boolean), Cond.methodLink RX3 94 yX1_isSanded, Cond.instanceMethod yX1_isSanded, Cond.selects RX1 yX1_isSanded yX1_isSanded, Cond.code yX1_isSanded cX1_isSanded 2 (some .boolean), Cond.methodLink RX3 97 yX3_heavy, Cond.instanceMethod yX3_heavy, Cond.selects RX3 yX3_heavy yX3_heavy, Cond.code yX3_heavy cX3_heavy 4 (some .int), Cond.methodLink RX3 236 yX3_isAllFoundWith, Cond.instanceMethod yX3_isAllFoundWith, Cond.selects RX3 yX3_isAllFoundWith yX3_isAllFoundWith, Cond.code yX3_isAllFoundWith cX3_isAllFoundWith 4 (some .boolean), Cond.methodLink RX3 225 yX3_comesIf, Cond.instanceMethod yX3_comesIf, Cond.selects RX3 yX3_comesIf yX3_comesIf, Cond.code yX3_comesIf cX3_comesIf 10 (some .int), Cond.methodLink RX3 121 yX2_wetAt, Cond.instanceMethod yX2_wetAt, Cond.selects RX2 yX2_wetAt yX2_wetAt, Cond.code yX2_wetAt cX2_wetAt 4 (some .int), Cond.methodLink RX2 33 Lib.Math.max.name]
def wsL_law_r13 : List Cond := [Cond.methodLink RX3 228 yX2_givesTo, Cond.instanceMethod yX2_givesTo, Cond.selects RX2 yX2_givesTo yX2_givesTo, Cond.code yX2_givesTo cX2_givesTo 5 (some .int), Cond.methodLink RX2 36 yX2_isA, Cond.instanceMethod yX2_isA, Cond.selects RX2 yX2_isA yX2_isA, Cond.code yX2_isA cX2_isA 2 (some .boolean), Cond.methodLink RL 35 yX4_about, Cond.instanceMethod yX4_about, Cond.selects RX4 yX4_about yX4_about, Cond.code yX4_about cX4_about 3 (some .int), Cond.methodLink RX4 109 yX4_isStroke, Cond.instanceMethod yX4_isStroke, Cond.selects RX4 yX4_isStroke yX4_isStroke, Cond.code yX4_isStroke cX4_isStroke 2 (some .boolean), Cond.methodLink RX4 112 yX4_strokeNow, Cond.instanceMethod yX4_strokeNow, Cond.selects RX4 yX4_strokeNow yX4_strokeNow, Cond.code yX4_strokeNow cX4_strokeNow 3 (some .int), Cond.methodLink RX4 106 yX4_heavyOf, Cond.instanceMethod yX4_heavyOf, Cond.selects RX4 yX4_heavyOf yX4_heavyOf, Cond.code yX4_heavyOf cX4_heavyOf 5 (some .int)]
def wsL_law_r14 : List Cond := [Cond.methodLink RX4 142 yX4_isFound, Cond.instanceMethod yX4_isFound, Cond.selects RX4 yX4_isFound yX4_isFound, Cond.code yX4_isFound cX4_isFound 3 (some .boolean), Cond.methodLink RX4 121 yX4_comesTo, Cond.instanceMethod yX4_comesTo, Cond.selects RX4 yX4_comesTo yX4_comesTo, Cond.code yX4_comesTo cX4_comesTo 5 (some .int), Cond.methodLink RX4 102 yX4_comesOf, Cond.instanceMethod yX4_comesOf, Cond.selects RX4 yX4_comesOf yX4_comesOf, Cond.code yX4_comesOf cX4_comesOf 8 (some .int), Cond.methodLink RX4 99 yX4_wetAt, Cond.instanceMethod yX4_wetAt, Cond.selects RX4 yX4_wetAt yX4_wetAt, Cond.code yX4_wetAt cX4_wetAt 5 (some .int), Cond.methodLink RX4 95 yX4_isIn, Cond.static yX4_isIn, Cond.code yX4_isIn cX4_isIn 2 (some .boolean), Cond.methodLink RL 36 yX3_as, Cond.instanceMethod yX3_as, Cond.selects RX3 yX3_as yX3_as, Cond.code yX3_as cX3_as 3 (some .int), Cond.methodLink RX3 100 yX3_isKind]
def wsL_law_r15 : List Cond := [Cond.static yX3_isKind, Cond.code yX3_isKind cX3_isKind 1 (some .boolean), Cond.methodLink RX3 103 yX2_isA, Cond.methodLink RL 39 yX4_as, Cond.instanceMethod yX4_as, Cond.selects RX4 yX4_as yX4_as, Cond.code yX4_as cX4_as 4 (some .int), Cond.methodLink RL 40 yX3_write, Cond.instanceMethod yX3_write, Cond.selects RX3 yX3_write yX3_write, Cond.code yX3_write cX3_write 6 (some .int), Cond.methodLink RX3 106 yX3_isCell, Cond.static yX3_isCell, Cond.code yX3_isCell cX3_isCell 1 (some .boolean), Cond.methodLink RX3 109 yX3_hasLeaf, Cond.instanceMethod yX3_hasLeaf, Cond.selects RX3 yX3_hasLeaf yX3_hasLeaf, Cond.code yX3_hasLeaf cX3_hasLeaf 1 (some .boolean), Cond.methodLink RL 44 yX4_write, Cond.instanceMethod yX4_write, Cond.selects RX4 yX4_write yX4_write, Cond.code yX4_write cX4_write 5 (some .int), Cond.methodLink RL 45 yX3_sand, Cond.instanceMethod yX3_sand]
def wsL_law_r16 : List Cond := [Cond.selects RX3 yX3_sand yX3_sand, Cond.code yX3_sand cX3_sand 4 (some .int), Cond.methodLink RX3 114 yX1_putSanded, Cond.instanceMethod yX1_putSanded, Cond.selects RX1 yX1_putSanded yX1_putSanded, Cond.code yX1_putSanded cX1_putSanded 4 none, Cond.methodLink RL 49 yX4_sand, Cond.instanceMethod yX4_sand, Cond.selects RX4 yX4_sand yX4_sand, Cond.code yX4_sand cX4_sand 4 (some .int), Cond.methodLink RL 50 yX3_wet, Cond.instanceMethod yX3_wet, Cond.selects RX3 yX3_wet yX3_wet, Cond.code yX3_wet cX3_wet 3 (some .int), Cond.methodLink RX3 118 yX3_isMinute, Cond.static yX3_isMinute, Cond.code yX3_isMinute cX3_isMinute 1 (some .boolean), Cond.methodLink RL 53 yX4_wet, Cond.instanceMethod yX4_wet, Cond.selects RX4 yX4_wet yX4_wet, Cond.code yX4_wet cX4_wet 3 (some .int), Cond.methodLink RX4 115 yX4_isMinute, Cond.static yX4_isMinute, Cond.code yX4_isMinute cX4_isMinute 1 (some .boolean)]
def wsL_law_r17 : List Cond := [Cond.methodLink RL 54 yX3_ink, Cond.instanceMethod yX3_ink, Cond.selects RX3 yX3_ink yX3_ink, Cond.code yX3_ink cX3_ink 2 (some .int), Cond.methodLink RX3 125 yX3_isLand, Cond.instanceMethod yX3_isLand, Cond.selects RX3 yX3_isLand yX3_isLand, Cond.code yX3_isLand cX3_isLand 2 (some .boolean), Cond.methodLink RL 57 yX4_ink, Cond.instanceMethod yX4_ink, Cond.selects RX4 yX4_ink yX4_ink, Cond.code yX4_ink cX4_ink 2 (some .int), Cond.methodLink RX4 118 yX4_isCell, Cond.instanceMethod yX4_isCell, Cond.selects RX4 yX4_isCell yX4_isCell, Cond.code yX4_isCell cX4_isCell 2 (some .boolean), Cond.methodLink RL 58 yX3_comes, Cond.instanceMethod yX3_comes, Cond.selects RX3 yX3_comes yX3_comes, Cond.code yX3_comes cX3_comes 3 (some .int), Cond.methodLink RX3 131 yX3_comesNow, Cond.instanceMethod yX3_comesNow, Cond.selects RX3 yX3_comesNow yX3_comesNow, Cond.code yX3_comesNow cX3_comesNow 3 (some .int)]
def wsL_law_r18 : List Cond := [Cond.methodLink RL 61 yX4_comes, Cond.instanceMethod yX4_comes, Cond.selects RX4 yX4_comes yX4_comes, Cond.code yX4_comes cX4_comes 3 (some .int), Cond.methodLink RL 62 yX3_evening, Cond.instanceMethod yX3_evening, Cond.selects RX3 yX3_evening yX3_evening, Cond.code yX3_evening cX3_evening 2 (some .int), Cond.methodLink RX3 137 yX3_pressOff, Cond.instanceMethod yX3_pressOff, Cond.selects RX3 yX3_pressOff yX3_pressOff, Cond.code yX3_pressOff cX3_pressOff 6 (some .int), Cond.methodLink RX3 231 Lib.Math.min.name, Cond.methodLink RL 65 yX4_evening, Cond.instanceMethod yX4_evening, Cond.selects RX4 yX4_evening yX4_evening, Cond.code yX4_evening cX4_evening 2 (some .int), Cond.methodLink RX4 124 yX4_press, Cond.instanceMethod yX4_press, Cond.selects RX4 yX4_press yX4_press, Cond.code yX4_press cX4_press 5 (some .int), Cond.methodLink RL 66 yX3_hills, Cond.instanceMethod yX3_hills, Cond.selects RX3 yX3_hills yX3_hills]
def wsL_law_r19 : List Cond := [Cond.code yX3_hills cX3_hills 6 (some .int), Cond.methodLink RL 69 yX4_hills, Cond.instanceMethod yX4_hills, Cond.selects RX4 yX4_hills yX4_hills, Cond.code yX4_hills cX4_hills 2 (some .int), Cond.methodLink RX4 127 yX4_hillsNow, Cond.instanceMethod yX4_hillsNow, Cond.selects RX4 yX4_hillsNow yX4_hillsNow, Cond.code yX4_hillsNow cX4_hillsNow 4 (some .int), Cond.methodLink RL 70 yX3_close, Cond.instanceMethod yX3_close, Cond.selects RX3 yX3_close yX3_close, Cond.code yX3_close cX3_close 4 (some .int), Cond.methodLink RX3 141 yX3_isMuch, Cond.static yX3_isMuch, Cond.code yX3_isMuch cX3_isMuch 1 (some .boolean), Cond.methodLink RL 73 yX4_close, Cond.instanceMethod yX4_close, Cond.selects RX4 yX4_close yX4_close, Cond.code yX4_close cX4_close 3 (some .int), Cond.methodLink RX4 130 yX4_closeNow, Cond.instanceMethod yX4_closeNow, Cond.selects RX4 yX4_closeNow yX4_closeNow, Cond.code yX4_closeNow cX4_closeNow 5 (some .int)]
def wsL_law_r20 : List Cond := [Cond.methodLink RL 74 yX3_toSand, Cond.instanceMethod yX3_toSand, Cond.selects RX3 yX3_toSand yX3_toSand, Cond.code yX3_toSand cX3_toSand 6 (some .int), Cond.methodLink RX3 144 yX3_reachesAny, Cond.instanceMethod yX3_reachesAny, Cond.selects RX3 yX3_reachesAny yX3_reachesAny, Cond.code yX3_reachesAny cX3_reachesAny 7 (some .boolean), Cond.methodLink RX3 194 yX3_wet, Cond.methodLink RX3 148 yJ6_bitCount_0f7a4, Cond.static yJ6_bitCount_0f7a4, Cond.initialized RJ6, Cond.code yJ6_bitCount_0f7a4 cJ6_bitCount_0f7a4 1 (some .int), Cond.constant RJ6 265 (1431655765), Cond.constant RJ6 266 (858993459), Cond.constant RJ6 267 (252645135), Cond.methodLink RL 78 yX4_toSand, Cond.instanceMethod yX4_toSand, Cond.selects RX4 yX4_toSand yX4_toSand, Cond.code yX4_toSand cX4_toSand 4 (some .int), Cond.methodLink RX4 139 yX4_sandNow, Cond.instanceMethod yX4_sandNow, Cond.selects RX4 yX4_sandNow yX4_sandNow, Cond.code yX4_sandNow cX4_sandNow 8 (some .int)]
def wsL_law_r21 : List Cond := [Cond.methodLink RX4 133 yX4_size, Cond.static yX4_size, Cond.code yX4_size cX4_size 3 (some .int), Cond.methodLink RX4 136 yX4_isDryAt, Cond.instanceMethod yX4_isDryAt, Cond.selects RX4 yX4_isDryAt yX4_isDryAt, Cond.code yX4_isDryAt cX4_isDryAt 5 (some .boolean), Cond.methodLink RL 79 yX3_found, Cond.instanceMethod yX3_found, Cond.selects RX3 yX3_found yX3_found, Cond.code yX3_found cX3_found 4 (some .int), Cond.methodLink RX3 153 yX1_addFound, Cond.instanceMethod yX1_addFound, Cond.selects RX1 yX1_addFound yX1_addFound, Cond.code yX1_addFound cX1_addFound 4 (some .boolean), Cond.methodLink RL 82 yX4_found, Cond.instanceMethod yX4_found, Cond.selects RX4 yX4_found yX4_found, Cond.code yX4_found cX4_found 4 (some .int), Cond.methodLink RL 83 yX3_forget, Cond.instanceMethod yX3_forget, Cond.selects RX3 yX3_forget yX3_forget, Cond.code yX3_forget cX3_forget 2 (some .int), Cond.methodLink RL 86 yX4_forget]
def wsL_law_r22 : List Cond := [Cond.instanceMethod yX4_forget, Cond.selects RX4 yX4_forget yX4_forget, Cond.code yX4_forget cX4_forget 2 (some .int), Cond.methodLink RL 87 yX3_look, Cond.instanceMethod yX3_look, Cond.selects RX3 yX3_look yX3_look, Cond.code yX3_look cX3_look 8 (some .int), Cond.methodLink RX3 159 yX3_leftAtWorst, Cond.instanceMethod yX3_leftAtWorst, Cond.selects RX3 yX3_leftAtWorst yX3_leftAtWorst, Cond.code yX3_leftAtWorst cX3_leftAtWorst 7 (some .int), Cond.methodLink RX3 252 Lib.Math.max.name, Cond.methodLink RX3 249 yX3_countLike, Cond.instanceMethod yX3_countLike, Cond.selects RX3 yX3_countLike yX3_countLike, Cond.code yX3_countLike cX3_countLike 6 (some .int), Cond.methodLink RL 90 yX4_look, Cond.instanceMethod yX4_look, Cond.selects RX4 yX4_look yX4_look, Cond.code yX4_look cX4_look 3 (some .int), Cond.methodLink RX4 154 yX4_lookNow, Cond.instanceMethod yX4_lookNow, Cond.selects RX4 yX4_lookNow yX4_lookNow, Cond.code yX4_lookNow cX4_lookNow 8 (some .int)]
def wsL_law_r23 : List Cond := [Cond.constant RX4 146 (268435456), Cond.methodLink RX4 147 yX4_layComes, Cond.instanceMethod yX4_layComes, Cond.selects RX4 yX4_layComes yX4_layComes, Cond.code yX4_layComes cX4_layComes 6 none, Cond.methodLink RX4 151 yX4_worstAt, Cond.instanceMethod yX4_worstAt, Cond.selects RX4 yX4_worstAt yX4_worstAt, Cond.code yX4_worstAt cX4_worstAt 7 (some .int), Cond.methodLink RL 91 yX3_years, Cond.instanceMethod yX3_years, Cond.selects RX3 yX3_years yX3_years, Cond.code yX3_years cX3_years 6 (some .int), Cond.constant RX3 170 (65536), Cond.methodLink RX3 163 yX3_copyRow, Cond.static yX3_copyRow, Cond.code yX3_copyRow cX3_copyRow 3 none, Cond.methodLink RX3 167 yX3_seedAfter, Cond.static yX3_seedAfter, Cond.code yX3_seedAfter cX3_seedAfter 1 (some .int), Cond.constantLong RX3 255 (1103515245), Cond.constantLong RX3 257 (12345), Cond.constantLong RX3 259 (2147483648), Cond.methodLink RX3 171 yX3_inkIn]
def wsL_law_r24 : List Cond := [Cond.static yX3_inkIn, Cond.code yX3_inkIn cX3_inkIn 3 (some .int), Cond.methodLink RX3 175 yX3_dryIn, Cond.static yX3_dryIn, Cond.code yX3_dryIn cX3_dryIn 3 (some .int), Cond.methodLink RL 94 yX4_years, Cond.instanceMethod yX4_years, Cond.selects RX4 yX4_years yX4_years, Cond.code yX4_years cX4_years 4 (some .int), Cond.methodLink RX4 178 yX4_yearsNow, Cond.instanceMethod yX4_yearsNow, Cond.selects RX4 yX4_yearsNow yX4_yearsNow, Cond.code yX4_yearsNow cX4_yearsNow 7 (some .int), Cond.fieldLink RX4 159 "BlotLandModel" "seedNow" "J", Cond.methodLink RX4 169 yX4_draw, Cond.instanceMethod yX4_draw, Cond.selects RX4 yX4_draw yX4_draw, Cond.code yX4_draw cX4_draw 2 (some .int), Cond.constantLong RX4 157 (1103515245), Cond.constantLong RX4 163 (12345), Cond.constantLong RX4 165 (2147483647), Cond.constantLong RX4 167 (65536), Cond.methodLink RX4 172 yX4_inkAll, Cond.instanceMethod yX4_inkAll]
def wsL_law_r25 : List Cond := [Cond.selects RX4 yX4_inkAll yX4_inkAll, Cond.code yX4_inkAll cX4_inkAll 3 (some .int), Cond.methodLink RX4 175 yX4_dry, Cond.instanceMethod yX4_dry, Cond.selects RX4 yX4_dry yX4_dry, Cond.code yX4_dry cX4_dry 3 (some .int), Cond.methodLink RL 95 yX3_image, Cond.instanceMethod yX3_image, Cond.selects RX3 yX3_image yX3_image, Cond.code yX3_image cX3_image 1 (some .int), Cond.methodLink RX3 178 yX1_copyFrom, Cond.instanceMethod yX1_copyFrom, Cond.selects RX1 yX1_copyFrom yX1_copyFrom, Cond.code yX1_copyFrom cX1_copyFrom 2 none, Cond.methodLink RL 98 yX4_image, Cond.instanceMethod yX4_image, Cond.selects RX4 yX4_image yX4_image, Cond.code yX4_image cX4_image 2 (some .int), Cond.fieldLink RX4 181 "BlotLandModel" "isKept" "Z", Cond.fieldLink RX4 185 "BlotLandModel" "keptLeaf" "I", Cond.fieldLink RX4 188 "BlotLandModel" "keptStrokes" "I", Cond.fieldLink RX4 191 "BlotLandModel" "keptSanded" "I", Cond.fieldLink RX4 194 "BlotLandModel" "keptEvenings" "I", Cond.fieldLink RX4 197 "BlotLandModel" "keptFound" "I"]
def wsL_law_r26 : List Cond := [Cond.methodLink RL 99 yX3_restore, Cond.instanceMethod yX3_restore, Cond.selects RX3 yX3_restore yX3_restore, Cond.code yX3_restore cX3_restore 1 (some .int), Cond.methodLink RL 102 yX4_restore, Cond.instanceMethod yX4_restore, Cond.selects RX4 yX4_restore yX4_restore, Cond.code yX4_restore cX4_restore 2 (some .int), Cond.methodLink RL 103 yX3_count, Cond.instanceMethod yX3_count, Cond.selects RX3 yX3_count yX3_count, Cond.code yX3_count cX3_count 2 (some .int), Cond.methodLink RL 106 yX4_count, Cond.instanceMethod yX4_count, Cond.selects RX4 yX4_count yX4_count, Cond.code yX4_count cX4_count 2 (some .int), Cond.methodLink RX4 200 yX4_howMany, Cond.instanceMethod yX4_howMany, Cond.selects RX4 yX4_howMany yX4_howMany, Cond.code yX4_howMany cX4_howMany 2 (some .int), Cond.methodLink RL 107 yX3_digest, Cond.instanceMethod yX3_digest, Cond.selects RX3 yX3_digest yX3_digest, Cond.code yX3_digest cX3_digest 5 (some .long)]
def wsL_law_r27 : List Cond := [Cond.constantLong RX3 185 (1049), Cond.methodLink RX3 187 yX3_about, Cond.methodLink RX3 190 yX3_mixed, Cond.static yX3_mixed, Cond.code yX3_mixed cX3_mixed 4 (some .long), Cond.constantLong RX3 223 (31), Cond.methodLink RX3 197 yX3_look, Cond.methodLink RX3 200 yX3_withLand, Cond.instanceMethod yX3_withLand, Cond.selects RX3 yX3_withLand yX3_withLand, Cond.code yX3_withLand cX3_withLand 6 (some .long), Cond.methodLink RX3 210 yX3_ink, Cond.methodLink RX3 213 yX3_comes, Cond.methodLink RX3 216 yX3_hills, Cond.methodLink RX3 219 yX3_toSand, Cond.methodLink RX3 204 yX0_codeAt, Cond.methodLink RX3 207 yX3_count, Cond.methodLink RL 111 yX4_digest, Cond.instanceMethod yX4_digest, Cond.selects RX4 yX4_digest yX4_digest, Cond.code yX4_digest cX4_digest 3 (some .long), Cond.constantLong RX4 208 (1049), Cond.fieldLink RX4 205 "BlotLandModel" "h" "J", Cond.methodLink RX4 210 yX4_mix]
def wsL_law_r28 : List Cond := [Cond.instanceMethod yX4_mix, Cond.selects RX4 yX4_mix yX4_mix, Cond.code yX4_mix cX4_mix 3 none, Cond.constantLong RX4 203 (31)]
def wsL_law : List Cond := (wsL_law_r1 ++ (wsL_law_r2 ++ (wsL_law_r3 ++ (wsL_law_r4 ++ (wsL_law_r5 ++ (wsL_law_r6 ++ (wsL_law_r7 ++ (wsL_law_r8 ++ (wsL_law_r9 ++ (wsL_law_r10 ++ (wsL_law_r11 ++ (wsL_law_r12 ++ (wsL_law_r13 ++ (wsL_law_r14 ++ (wsL_law_r15 ++ (wsL_law_r16 ++ (wsL_law_r17 ++ (wsL_law_r18 ++ (wsL_law_r19 ++ (wsL_law_r20 ++ (wsL_law_r21 ++ (wsL_law_r22 ++ (wsL_law_r23 ++ (wsL_law_r24 ++ (wsL_law_r25 ++ (wsL_law_r26 ++ (wsL_law_r27 ++ wsL_law_r28))))))))))))))))))))))))))) ++ wsX30 ++ wsX40 ++ wsX00 ++ wsX10 ++ wsX20 ++ ([] : List Cond)
set_option maxRecDepth 20000 in
theorem wsL_law_in : ∀ w ∈ wsL_law, w ∈ lw_tbl := fun w h => (goodIn_p wsL_law [54, 57, 62, 79, 117, 517, 167, 171, 610, 613, 175, 617, 179, 183, 187, 191, 195, 199, 204, 208, 212, 218, 222, 225, 231, 234, 228, 237, 240, 246, 249, 252, 255, 260, 263, 266, 275, 278, 281, 285, 621, 625, 629, 632, 291, 295, 302, 307, 636, 639, 311, 315, 319, 323, 327, 331, 335, 340, 344, 643, 647, 651, 655, 659, 663, 667, 671, 674, 348, 351, 678, 356, 359, 363, 682, 367, 371, 686, 375, 378, 690, 693, 382, 386, 697, 701, 390, 394, 705, 398, 402, 709, 713, 407, 717, 721, 411, 414, 725, 729, 418, 422, 426, 733, 737, 740, 744, 433, 437, 748, 441, 752, 445, 449, 453, 756, 760, 765, 769, 458, 461, 464, 471, 474, 773, 777, 781, 789, 793, 478, 482, 797, 487, 801, 491, 805, 809, 495, 500, 506, 813, 818] (by decide +kernel) (by decide +kernel) w h).1
theorem inlX0 : ∀ w ∈ wsX00, w ∈ wsL_law := fun _ h => List.mem_append_left _ (List.mem_append_left _ (List.mem_append_left _ (List.mem_append_right _ h)))
theorem inX0 : ∀ w ∈ wsX00, w ∈ lw_tbl := fun w h => wsL_law_in w (inlX0 w h)
theorem inlX1 : ∀ w ∈ wsX10, w ∈ wsL_law := fun _ h => List.mem_append_left _ (List.mem_append_left _ (List.mem_append_right _ h))
theorem inX1 : ∀ w ∈ wsX10, w ∈ lw_tbl := fun w h => wsL_law_in w (inlX1 w h)
theorem inlX2 : ∀ w ∈ wsX20, w ∈ wsL_law := fun _ h => List.mem_append_left _ (List.mem_append_right _ h)
theorem inX2 : ∀ w ∈ wsX20, w ∈ lw_tbl := fun w h => wsL_law_in w (inlX2 w h)
theorem inlX3 : ∀ w ∈ wsX30, w ∈ wsL_law := fun _ h => List.mem_append_left _ (List.mem_append_left _ (List.mem_append_left _ (List.mem_append_left _ (List.mem_append_left _ (List.mem_append_right _ h)))))
theorem inX3 : ∀ w ∈ wsX30, w ∈ lw_tbl := fun w h => wsL_law_in w (inlX3 w h)
theorem inlX4 : ∀ w ∈ wsX40, w ∈ wsL_law := fun _ h => List.mem_append_left _ (List.mem_append_left _ (List.mem_append_left _ (List.mem_append_left _ (List.mem_append_right _ h))))
theorem inX4 : ∀ w ∈ wsX40, w ∈ lw_tbl := fun w h => wsL_law_in w (inlX4 w h)
abbrev vwCl : List vw_C := [(RX0, TX0, 2), (RX1, TX1, 8), (RX2, TX2, 5), (RX3, TX3, 8), (RX4, TX4, 29)]

theorem kR_1 {w : Cond} (h : w ∈ wsL_law_r1) : w ∈ wsL_law := (List.mem_append_left _ (List.mem_append_left _ (List.mem_append_left _ (List.mem_append_left _ (List.mem_append_left _ (List.mem_append_left _ (List.mem_append_left _ h)))))))
theorem kw_1 : Cond.classLink RL 7 RX3 ∈ wsL_law := kR_1 (List.mem_of_getElem? (i := 0) rfl)
theorem kw_2 : Cond.instantiable RX3 8 ∈ wsL_law := kR_1 (List.mem_of_getElem? (i := 1) rfl)
theorem kw_3 : Cond.initialized RX3 ∈ wsL_law := kR_1 (List.mem_of_getElem? (i := 2) rfl)
theorem kw_4 : Cond.classLink RL 10 RX4 ∈ wsL_law := kR_1 (List.mem_of_getElem? (i := 3) rfl)
theorem kw_5 : Cond.instantiable RX4 29 ∈ wsL_law := kR_1 (List.mem_of_getElem? (i := 4) rfl)
theorem kw_6 : Cond.initialized RX4 ∈ wsL_law := kR_1 (List.mem_of_getElem? (i := 5) rfl)
theorem kw_7 : Cond.methodLink RL 9 yX3_init ∈ wsL_law := kR_1 (List.mem_of_getElem? (i := 6) rfl)
theorem kw_8 : Cond.instanceMethod yX3_init ∈ wsL_law := kR_1 (List.mem_of_getElem? (i := 7) rfl)
theorem kw_9 : Cond.code yX3_init cX3_init 2 none ∈ wsL_law := kR_1 (List.mem_of_getElem? (i := 8) rfl)
theorem kw_10 : Cond.methodLink RX3 1 objectInit ∈ wsL_law := kR_1 (List.mem_of_getElem? (i := 9) rfl)
theorem kw_11 : Cond.instanceMethod objectInit ∈ wsL_law := kR_1 (List.mem_of_getElem? (i := 10) rfl)
theorem kw_12 : Cond.code objectInit ⟨#[0xb1]⟩ 1 none ∈ wsL_law := kR_1 (List.mem_of_getElem? (i := 11) rfl)
theorem kw_13 : Cond.classLink RX3 7 RX0 ∈ wsL_law := kR_1 (List.mem_of_getElem? (i := 12) rfl)
theorem kw_14 : Cond.instantiable RX0 2 ∈ wsL_law := kR_1 (List.mem_of_getElem? (i := 13) rfl)
theorem kw_15 : Cond.initialized RX0 ∈ wsL_law := kR_1 (List.mem_of_getElem? (i := 14) rfl)
theorem kw_16 : Cond.fieldLink RX3 10 "BlotLand" "page" "LBlotLand$Page;" ∈ wsL_law := kR_1 (List.mem_of_getElem? (i := 15) rfl)
theorem kw_17 : Cond.classLink RX3 16 RX2 ∈ wsL_law := kR_1 (List.mem_of_getElem? (i := 16) rfl)
theorem kw_18 : Cond.fieldLink RX3 18 "BlotLand" "strokes" "[LBlotLand$Stroke;" ∈ wsL_law := kR_1 (List.mem_of_getElem? (i := 17) rfl)
theorem kw_19 : Cond.classLink RX3 22 RX1 ∈ wsL_law := kR_1 (List.mem_of_getElem? (i := 18) rfl)
theorem kw_20 : Cond.instantiable RX1 8 ∈ wsL_law := kR_1 (List.mem_of_getElem? (i := 19) rfl)
theorem kw_21 : Cond.initialized RX1 ∈ wsL_law := kR_1 (List.mem_of_getElem? (i := 20) rfl)
theorem kw_22 : Cond.fieldLink RX3 25 "BlotLand" "now" "LBlotLand$State;" ∈ wsL_law := kR_1 (List.mem_of_getElem? (i := 21) rfl)
theorem kw_23 : Cond.fieldLink RX3 29 "BlotLand" "kept" "LBlotLand$State;" ∈ wsL_law := kR_1 (List.mem_of_getElem? (i := 22) rfl)
theorem kw_24 : Cond.fieldLink RX3 32 "BlotLand" "isKept" "Z" ∈ wsL_law := kR_1 (List.mem_of_getElem? (i := 23) rfl)
theorem kR_2 {w : Cond} (h : w ∈ wsL_law_r2) : w ∈ wsL_law := (List.mem_append_left _ (List.mem_append_left _ (List.mem_append_left _ (List.mem_append_left _ (List.mem_append_left _ (List.mem_append_left _ (List.mem_append_right _ (List.mem_append_left _ h))))))))
theorem kw_25 : Cond.fieldLink RX3 36 "BlotLand" "leavesRead" "I" ∈ wsL_law := kR_2 (List.mem_of_getElem? (i := 0) rfl)
theorem kw_26 : Cond.arrayClass .int ∈ wsL_law := kR_2 (List.mem_of_getElem? (i := 1) rfl)
theorem kw_27 : Cond.fieldLink RX3 40 "BlotLand" "inkOfYears" "[I" ∈ wsL_law := kR_2 (List.mem_of_getElem? (i := 2) rfl)
theorem kw_28 : Cond.fieldLink RX3 44 "BlotLand" "comesByPress" "[I" ∈ wsL_law := kR_2 (List.mem_of_getElem? (i := 3) rfl)
theorem kw_29 : Cond.instantiable RX2 5 ∈ wsL_law := kR_2 (List.mem_of_getElem? (i := 4) rfl)
theorem kw_30 : Cond.initialized RX2 ∈ wsL_law := kR_2 (List.mem_of_getElem? (i := 5) rfl)
theorem kw_31 : Cond.instanceMethod yX0_init ∈ wsL_law := kR_2 (List.mem_of_getElem? (i := 6) rfl)
theorem kw_32 : Cond.code yX0_init cX0_init 1 none ∈ wsL_law := kR_2 (List.mem_of_getElem? (i := 7) rfl)
theorem kw_33 : Cond.methodLink RX0 3 objectInit ∈ wsL_law := kR_2 (List.mem_of_getElem? (i := 8) rfl)
theorem kw_34 : Cond.fieldLink RX0 9 "BlotLand$Page" "codes" "[I" ∈ wsL_law := kR_2 (List.mem_of_getElem? (i := 9) rfl)
theorem kw_35 : Cond.fieldLink RX0 15 "BlotLand$Page" "size" "I" ∈ wsL_law := kR_2 (List.mem_of_getElem? (i := 10) rfl)
theorem kw_36 : Cond.instanceMethod yX1_init ∈ wsL_law := kR_2 (List.mem_of_getElem? (i := 11) rfl)
theorem kw_37 : Cond.code yX1_init cX1_init 1 none ∈ wsL_law := kR_2 (List.mem_of_getElem? (i := 12) rfl)
theorem kw_38 : Cond.methodLink RX1 3 objectInit ∈ wsL_law := kR_2 (List.mem_of_getElem? (i := 13) rfl)
theorem kw_39 : Cond.fieldLink RX1 9 "BlotLand$State" "strokes" "I" ∈ wsL_law := kR_2 (List.mem_of_getElem? (i := 14) rfl)
theorem kw_40 : Cond.fieldLink RX1 15 "BlotLand$State" "sanded" "I" ∈ wsL_law := kR_2 (List.mem_of_getElem? (i := 15) rfl)
theorem kw_41 : Cond.fieldLink RX1 18 "BlotLand$State" "evenings" "I" ∈ wsL_law := kR_2 (List.mem_of_getElem? (i := 16) rfl)
theorem kw_42 : Cond.fieldLink RX1 21 "BlotLand$State" "found" "I" ∈ wsL_law := kR_2 (List.mem_of_getElem? (i := 17) rfl)
theorem kw_43 : Cond.fieldLink RX1 24 "BlotLand$State" "inkRow" "[I" ∈ wsL_law := kR_2 (List.mem_of_getElem? (i := 18) rfl)
theorem kw_44 : Cond.fieldLink RX1 28 "BlotLand$State" "foundCell" "[I" ∈ wsL_law := kR_2 (List.mem_of_getElem? (i := 19) rfl)
theorem kw_45 : Cond.fieldLink RX1 31 "BlotLand$State" "foundMinute" "[I" ∈ wsL_law := kR_2 (List.mem_of_getElem? (i := 20) rfl)
theorem kw_46 : Cond.fieldLink RX1 34 "BlotLand$State" "foundMuch" "[I" ∈ wsL_law := kR_2 (List.mem_of_getElem? (i := 21) rfl)
theorem kw_47 : Cond.methodLink RX3 47 yX2_init ∈ wsL_law := kR_2 (List.mem_of_getElem? (i := 22) rfl)
theorem kw_48 : Cond.instanceMethod yX2_init ∈ wsL_law := kR_2 (List.mem_of_getElem? (i := 23) rfl)
theorem kR_3 {w : Cond} (h : w ∈ wsL_law_r3) : w ∈ wsL_law := (List.mem_append_left _ (List.mem_append_left _ (List.mem_append_left _ (List.mem_append_left _ (List.mem_append_left _ (List.mem_append_left _ (List.mem_append_right _ (List.mem_append_right _ (List.mem_append_left _ h)))))))))
theorem kw_49 : Cond.code yX2_init cX2_init 2 none ∈ wsL_law := kR_3 (List.mem_of_getElem? (i := 0) rfl)
theorem kw_50 : Cond.methodLink RX2 3 objectInit ∈ wsL_law := kR_3 (List.mem_of_getElem? (i := 1) rfl)
theorem kw_51 : Cond.fieldLink RX2 9 "BlotLand$Stroke" "kind" "I" ∈ wsL_law := kR_3 (List.mem_of_getElem? (i := 2) rfl)
theorem kw_52 : Cond.fieldLink RX2 15 "BlotLand$Stroke" "first" "I" ∈ wsL_law := kR_3 (List.mem_of_getElem? (i := 3) rfl)
theorem kw_53 : Cond.fieldLink RX2 18 "BlotLand$Stroke" "cells" "I" ∈ wsL_law := kR_3 (List.mem_of_getElem? (i := 4) rfl)
theorem kw_54 : Cond.fieldLink RX2 21 "BlotLand$Stroke" "press" "I" ∈ wsL_law := kR_3 (List.mem_of_getElem? (i := 5) rfl)
theorem kw_55 : Cond.fieldLink RX2 24 "BlotLand$Stroke" "written" "I" ∈ wsL_law := kR_3 (List.mem_of_getElem? (i := 6) rfl)
theorem kw_56 : Cond.methodLink RL 12 yX4_init ∈ wsL_law := kR_3 (List.mem_of_getElem? (i := 7) rfl)
theorem kw_57 : Cond.instanceMethod yX4_init ∈ wsL_law := kR_3 (List.mem_of_getElem? (i := 8) rfl)
theorem kw_58 : Cond.code yX4_init cX4_init 1 none ∈ wsL_law := kR_3 (List.mem_of_getElem? (i := 9) rfl)
theorem kw_59 : Cond.methodLink RX4 1 objectInit ∈ wsL_law := kR_3 (List.mem_of_getElem? (i := 10) rfl)
theorem kw_60 : Cond.fieldLink RX4 7 "BlotLandModel" "kindOf" "[I" ∈ wsL_law := kR_3 (List.mem_of_getElem? (i := 11) rfl)
theorem kw_61 : Cond.fieldLink RX4 13 "BlotLandModel" "beginsOf" "[I" ∈ wsL_law := kR_3 (List.mem_of_getElem? (i := 12) rfl)
theorem kw_62 : Cond.fieldLink RX4 16 "BlotLandModel" "longOf" "[I" ∈ wsL_law := kR_3 (List.mem_of_getElem? (i := 13) rfl)
theorem kw_63 : Cond.fieldLink RX4 19 "BlotLandModel" "pressOf" "[I" ∈ wsL_law := kR_3 (List.mem_of_getElem? (i := 14) rfl)
theorem kw_64 : Cond.fieldLink RX4 22 "BlotLandModel" "inkOf" "[I" ∈ wsL_law := kR_3 (List.mem_of_getElem? (i := 15) rfl)
theorem kw_65 : Cond.fieldLink RX4 25 "BlotLandModel" "foundCell" "[I" ∈ wsL_law := kR_3 (List.mem_of_getElem? (i := 16) rfl)
theorem kw_66 : Cond.fieldLink RX4 28 "BlotLandModel" "foundMinute" "[I" ∈ wsL_law := kR_3 (List.mem_of_getElem? (i := 17) rfl)
theorem kw_67 : Cond.fieldLink RX4 31 "BlotLandModel" "foundMuch" "[I" ∈ wsL_law := kR_3 (List.mem_of_getElem? (i := 18) rfl)
theorem kw_68 : Cond.arrayClass .byte ∈ wsL_law := kR_3 (List.mem_of_getElem? (i := 19) rfl)
theorem kw_69 : Cond.fieldLink RX4 34 "BlotLandModel" "page" "[B" ∈ wsL_law := kR_3 (List.mem_of_getElem? (i := 20) rfl)
theorem kw_70 : Cond.fieldLink RX4 38 "BlotLandModel" "comesBy" "[I" ∈ wsL_law := kR_3 (List.mem_of_getElem? (i := 21) rfl)
theorem kw_71 : Cond.fieldLink RX4 41 "BlotLandModel" "savedInk" "[I" ∈ wsL_law := kR_3 (List.mem_of_getElem? (i := 22) rfl)
theorem kw_72 : Cond.fieldLink RX4 44 "BlotLandModel" "keptInk" "[I" ∈ wsL_law := kR_3 (List.mem_of_getElem? (i := 23) rfl)
theorem kR_4 {w : Cond} (h : w ∈ wsL_law_r4) : w ∈ wsL_law := (List.mem_append_left _ (List.mem_append_left _ (List.mem_append_left _ (List.mem_append_left _ (List.mem_append_left _ (List.mem_append_left _ (List.mem_append_right _ (List.mem_append_right _ (List.mem_append_right _ (List.mem_append_left _ h))))))))))
theorem kw_73 : Cond.fieldLink RX4 47 "BlotLandModel" "keptCell" "[I" ∈ wsL_law := kR_4 (List.mem_of_getElem? (i := 0) rfl)
theorem kw_74 : Cond.fieldLink RX4 50 "BlotLandModel" "keptMinute" "[I" ∈ wsL_law := kR_4 (List.mem_of_getElem? (i := 1) rfl)
theorem kw_75 : Cond.fieldLink RX4 53 "BlotLandModel" "keptMuch" "[I" ∈ wsL_law := kR_4 (List.mem_of_getElem? (i := 2) rfl)
theorem kw_76 : Cond.methodLink RL 13 yX3_letter ∈ wsL_law := kR_4 (List.mem_of_getElem? (i := 3) rfl)
theorem kw_77 : Cond.instanceMethod yX3_letter ∈ wsL_law := kR_4 (List.mem_of_getElem? (i := 4) rfl)
theorem kw_78 : Cond.selects RX3 yX3_letter yX3_letter ∈ wsL_law := kR_4 (List.mem_of_getElem? (i := 5) rfl)
theorem kw_79 : Cond.code yX3_letter cX3_letter 2 (some .int) ∈ wsL_law := kR_4 (List.mem_of_getElem? (i := 6) rfl)
theorem kw_80 : Cond.methodLink RX3 50 yX0_append ∈ wsL_law := kR_4 (List.mem_of_getElem? (i := 7) rfl)
theorem kw_81 : Cond.instanceMethod yX0_append ∈ wsL_law := kR_4 (List.mem_of_getElem? (i := 8) rfl)
theorem kw_82 : Cond.selects RX0 yX0_append yX0_append ∈ wsL_law := kR_4 (List.mem_of_getElem? (i := 9) rfl)
theorem kw_83 : Cond.code yX0_append cX0_append 2 (some .boolean) ∈ wsL_law := kR_4 (List.mem_of_getElem? (i := 10) rfl)
theorem kw_84 : Cond.methodLink RL 17 yX4_letter ∈ wsL_law := kR_4 (List.mem_of_getElem? (i := 11) rfl)
theorem kw_85 : Cond.instanceMethod yX4_letter ∈ wsL_law := kR_4 (List.mem_of_getElem? (i := 12) rfl)
theorem kw_86 : Cond.selects RX4 yX4_letter yX4_letter ∈ wsL_law := kR_4 (List.mem_of_getElem? (i := 13) rfl)
theorem kw_87 : Cond.code yX4_letter cX4_letter 2 (some .int) ∈ wsL_law := kR_4 (List.mem_of_getElem? (i := 14) rfl)
theorem kw_88 : Cond.fieldLink RX4 60 "BlotLandModel" "pageLength" "I" ∈ wsL_law := kR_4 (List.mem_of_getElem? (i := 15) rfl)
theorem kw_89 : Cond.methodLink RX4 56 yX4_within ∈ wsL_law := kR_4 (List.mem_of_getElem? (i := 16) rfl)
theorem kw_90 : Cond.static yX4_within ∈ wsL_law := kR_4 (List.mem_of_getElem? (i := 17) rfl)
theorem kw_91 : Cond.code yX4_within cX4_within 3 (some .boolean) ∈ wsL_law := kR_4 (List.mem_of_getElem? (i := 18) rfl)
theorem kw_92 : Cond.methodLink RL 18 yX3_blank ∈ wsL_law := kR_4 (List.mem_of_getElem? (i := 19) rfl)
theorem kw_93 : Cond.instanceMethod yX3_blank ∈ wsL_law := kR_4 (List.mem_of_getElem? (i := 20) rfl)
theorem kw_94 : Cond.selects RX3 yX3_blank yX3_blank ∈ wsL_law := kR_4 (List.mem_of_getElem? (i := 21) rfl)
theorem kw_95 : Cond.code yX3_blank cX3_blank 2 (some .int) ∈ wsL_law := kR_4 (List.mem_of_getElem? (i := 22) rfl)
theorem kw_96 : Cond.methodLink RL 22 yX4_blank ∈ wsL_law := kR_4 (List.mem_of_getElem? (i := 23) rfl)
theorem kR_5 {w : Cond} (h : w ∈ wsL_law_r5) : w ∈ wsL_law := (List.mem_append_left _ (List.mem_append_left _ (List.mem_append_left _ (List.mem_append_left _ (List.mem_append_left _ (List.mem_append_left _ (List.mem_append_right _ (List.mem_append_right _ (List.mem_append_right _ (List.mem_append_right _ (List.mem_append_left _ h)))))))))))
theorem kw_97 : Cond.instanceMethod yX4_blank ∈ wsL_law := kR_5 (List.mem_of_getElem? (i := 0) rfl)
theorem kw_98 : Cond.selects RX4 yX4_blank yX4_blank ∈ wsL_law := kR_5 (List.mem_of_getElem? (i := 1) rfl)
theorem kw_99 : Cond.code yX4_blank cX4_blank 2 (some .int) ∈ wsL_law := kR_5 (List.mem_of_getElem? (i := 2) rfl)
theorem kw_100 : Cond.methodLink RL 23 yX3_fault ∈ wsL_law := kR_5 (List.mem_of_getElem? (i := 3) rfl)
theorem kw_101 : Cond.instanceMethod yX3_fault ∈ wsL_law := kR_5 (List.mem_of_getElem? (i := 4) rfl)
theorem kw_102 : Cond.selects RX3 yX3_fault yX3_fault ∈ wsL_law := kR_5 (List.mem_of_getElem? (i := 5) rfl)
theorem kw_103 : Cond.code yX3_fault cX3_fault 1 (some .int) ∈ wsL_law := kR_5 (List.mem_of_getElem? (i := 6) rfl)
theorem kw_104 : Cond.methodLink RX3 57 yX0_firstFault ∈ wsL_law := kR_5 (List.mem_of_getElem? (i := 7) rfl)
theorem kw_105 : Cond.instanceMethod yX0_firstFault ∈ wsL_law := kR_5 (List.mem_of_getElem? (i := 8) rfl)
theorem kw_106 : Cond.selects RX0 yX0_firstFault yX0_firstFault ∈ wsL_law := kR_5 (List.mem_of_getElem? (i := 9) rfl)
theorem kw_107 : Cond.code yX0_firstFault cX0_firstFault 2 (some .int) ∈ wsL_law := kR_5 (List.mem_of_getElem? (i := 10) rfl)
theorem kw_108 : Cond.methodLink RX0 34 yX0_canStandAt ∈ wsL_law := kR_5 (List.mem_of_getElem? (i := 11) rfl)
theorem kw_109 : Cond.instanceMethod yX0_canStandAt ∈ wsL_law := kR_5 (List.mem_of_getElem? (i := 12) rfl)
theorem kw_110 : Cond.selects RX0 yX0_canStandAt yX0_canStandAt ∈ wsL_law := kR_5 (List.mem_of_getElem? (i := 13) rfl)
theorem kw_111 : Cond.code yX0_canStandAt cX0_canStandAt 3 (some .boolean) ∈ wsL_law := kR_5 (List.mem_of_getElem? (i := 14) rfl)
theorem kw_112 : Cond.methodLink RX0 38 yX0_digitAt ∈ wsL_law := kR_5 (List.mem_of_getElem? (i := 15) rfl)
theorem kw_113 : Cond.instanceMethod yX0_digitAt ∈ wsL_law := kR_5 (List.mem_of_getElem? (i := 16) rfl)
theorem kw_114 : Cond.selects RX0 yX0_digitAt yX0_digitAt ∈ wsL_law := kR_5 (List.mem_of_getElem? (i := 17) rfl)
theorem kw_115 : Cond.code yX0_digitAt cX0_digitAt 2 (some .int) ∈ wsL_law := kR_5 (List.mem_of_getElem? (i := 18) rfl)
theorem kw_116 : Cond.methodLink RX0 19 yX0_codeAt ∈ wsL_law := kR_5 (List.mem_of_getElem? (i := 19) rfl)
theorem kw_117 : Cond.instanceMethod yX0_codeAt ∈ wsL_law := kR_5 (List.mem_of_getElem? (i := 20) rfl)
theorem kw_118 : Cond.selects RX0 yX0_codeAt yX0_codeAt ∈ wsL_law := kR_5 (List.mem_of_getElem? (i := 21) rfl)
theorem kw_119 : Cond.code yX0_codeAt cX0_codeAt 2 (some .int) ∈ wsL_law := kR_5 (List.mem_of_getElem? (i := 22) rfl)
theorem kw_120 : Cond.methodLink RX0 41 yX0_kindAt ∈ wsL_law := kR_5 (List.mem_of_getElem? (i := 23) rfl)
theorem kR_6 {w : Cond} (h : w ∈ wsL_law_r6) : w ∈ wsL_law := (List.mem_append_left _ (List.mem_append_left _ (List.mem_append_left _ (List.mem_append_left _ (List.mem_append_left _ (List.mem_append_left _ (List.mem_append_right _ (List.mem_append_right _ (List.mem_append_right _ (List.mem_append_right _ (List.mem_append_right _ (List.mem_append_left _ h))))))))))))
theorem kw_121 : Cond.instanceMethod yX0_kindAt ∈ wsL_law := kR_6 (List.mem_of_getElem? (i := 0) rfl)
theorem kw_122 : Cond.selects RX0 yX0_kindAt yX0_kindAt ∈ wsL_law := kR_6 (List.mem_of_getElem? (i := 1) rfl)
theorem kw_123 : Cond.code yX0_kindAt cX0_kindAt 2 (some .int) ∈ wsL_law := kR_6 (List.mem_of_getElem? (i := 2) rfl)
theorem kw_124 : Cond.methodLink RX0 25 yJ0_indexOf_0f7a4 ∈ wsL_law := kR_6 (List.mem_of_getElem? (i := 3) rfl)
theorem kw_125 : Cond.instanceMethod yJ0_indexOf_0f7a4 ∈ wsL_law := kR_6 (List.mem_of_getElem? (i := 4) rfl)
theorem kw_126 : Cond.selects RJ0 yJ0_indexOf_0f7a4 yJ0_indexOf_0f7a4 ∈ wsL_law := kR_6 (List.mem_of_getElem? (i := 5) rfl)
theorem kw_127 : Cond.initialized RJ0 ∈ wsL_law := kR_6 (List.mem_of_getElem? (i := 6) rfl)
theorem kw_128 : Cond.code yJ0_indexOf_0f7a4 cJ0_indexOf_0f7a4 2 (some .int) ∈ wsL_law := kR_6 (List.mem_of_getElem? (i := 7) rfl)
theorem kw_129 : Cond.methodLink RJ0 633 yJ0_indexOf_7cf53 ∈ wsL_law := kR_6 (List.mem_of_getElem? (i := 8) rfl)
theorem kw_130 : Cond.instanceMethod yJ0_indexOf_7cf53 ∈ wsL_law := kR_6 (List.mem_of_getElem? (i := 9) rfl)
theorem kw_131 : Cond.selects RJ0 yJ0_indexOf_7cf53 yJ0_indexOf_7cf53 ∈ wsL_law := kR_6 (List.mem_of_getElem? (i := 10) rfl)
theorem kw_132 : Cond.code yJ0_indexOf_7cf53 cJ0_indexOf_7cf53 3 (some .int) ∈ wsL_law := kR_6 (List.mem_of_getElem? (i := 11) rfl)
theorem kw_133 : Cond.fieldLink RJ0 9 "java/lang/String" "value" "[B" ∈ wsL_law := kR_6 (List.mem_of_getElem? (i := 12) rfl)
theorem kw_134 : Cond.methodLink RJ0 492 yJ0_isLatin1_aae02 ∈ wsL_law := kR_6 (List.mem_of_getElem? (i := 13) rfl)
theorem kw_135 : Cond.instanceMethod yJ0_isLatin1_aae02 ∈ wsL_law := kR_6 (List.mem_of_getElem? (i := 14) rfl)
theorem kw_136 : Cond.selects RJ0 yJ0_isLatin1_aae02 yJ0_isLatin1_aae02 ∈ wsL_law := kR_6 (List.mem_of_getElem? (i := 15) rfl)
theorem kw_137 : Cond.code yJ0_isLatin1_aae02 cJ0_isLatin1_aae02 1 (some .boolean) ∈ wsL_law := kR_6 (List.mem_of_getElem? (i := 16) rfl)
theorem kw_138 : Cond.fieldLink RJ0 38 "java/lang/String" "COMPACT_STRINGS" "Z" ∈ wsL_law := kR_6 (List.mem_of_getElem? (i := 17) rfl)
theorem kw_139 : Cond.fieldLink RJ0 15 "java/lang/String" "coder" "B" ∈ wsL_law := kR_6 (List.mem_of_getElem? (i := 18) rfl)
theorem kw_140 : Cond.methodLink RJ0 505 yJ0_length_8abf5 ∈ wsL_law := kR_6 (List.mem_of_getElem? (i := 19) rfl)
theorem kw_141 : Cond.instanceMethod yJ0_length_8abf5 ∈ wsL_law := kR_6 (List.mem_of_getElem? (i := 20) rfl)
theorem kw_142 : Cond.selects RJ0 yJ0_length_8abf5 yJ0_length_8abf5 ∈ wsL_law := kR_6 (List.mem_of_getElem? (i := 21) rfl)
theorem kw_143 : Cond.code yJ0_length_8abf5 cJ0_length_8abf5 1 (some .int) ∈ wsL_law := kR_6 (List.mem_of_getElem? (i := 22) rfl)
theorem kw_144 : Cond.methodLink RJ0 335 yJ0_coder_7d493 ∈ wsL_law := kR_6 (List.mem_of_getElem? (i := 23) rfl)
theorem kR_7 {w : Cond} (h : w ∈ wsL_law_r7) : w ∈ wsL_law := (List.mem_append_left _ (List.mem_append_left _ (List.mem_append_left _ (List.mem_append_left _ (List.mem_append_left _ (List.mem_append_left _ (List.mem_append_right _ (List.mem_append_right _ (List.mem_append_right _ (List.mem_append_right _ (List.mem_append_right _ (List.mem_append_right _ (List.mem_append_left _ h)))))))))))))
theorem kw_145 : Cond.instanceMethod yJ0_coder_7d493 ∈ wsL_law := kR_7 (List.mem_of_getElem? (i := 0) rfl)
theorem kw_146 : Cond.selects RJ0 yJ0_coder_7d493 yJ0_coder_7d493 ∈ wsL_law := kR_7 (List.mem_of_getElem? (i := 1) rfl)
theorem kw_147 : Cond.code yJ0_coder_7d493 cJ0_coder_7d493 1 (some .byte) ∈ wsL_law := kR_7 (List.mem_of_getElem? (i := 2) rfl)
theorem kw_148 : Cond.methodLink RJ0 637 yJ1_indexOf_4cfef ∈ wsL_law := kR_7 (List.mem_of_getElem? (i := 3) rfl)
theorem kw_149 : Cond.static yJ1_indexOf_4cfef ∈ wsL_law := kR_7 (List.mem_of_getElem? (i := 4) rfl)
theorem kw_150 : Cond.initialized RJ1 ∈ wsL_law := kR_7 (List.mem_of_getElem? (i := 5) rfl)
theorem kw_151 : Cond.code yJ1_indexOf_4cfef cJ1_indexOf_4cfef 4 (some .int) ∈ wsL_law := kR_7 (List.mem_of_getElem? (i := 6) rfl)
theorem kw_152 : Cond.methodLink RJ1 92 Lib.Math.max.name ∈ wsL_law := kR_7 (List.mem_of_getElem? (i := 7) rfl)
theorem kw_153 : Cond.static Lib.Math.max.name ∈ wsL_law := kR_7 (List.mem_of_getElem? (i := 8) rfl)
theorem kw_154 : Cond.initialized "java/lang/Math" ∈ wsL_law := kR_7 (List.mem_of_getElem? (i := 9) rfl)
theorem kw_155 : Cond.code Lib.Math.max.name Lib.Math.max.code 2 (some .int) ∈ wsL_law := kR_7 (List.mem_of_getElem? (i := 10) rfl)
theorem kw_156 : Cond.methodLink RJ1 38 Lib.Math.min.name ∈ wsL_law := kR_7 (List.mem_of_getElem? (i := 11) rfl)
theorem kw_157 : Cond.static Lib.Math.min.name ∈ wsL_law := kR_7 (List.mem_of_getElem? (i := 12) rfl)
theorem kw_158 : Cond.code Lib.Math.min.name Lib.Math.min.code 2 (some .int) ∈ wsL_law := kR_7 (List.mem_of_getElem? (i := 13) rfl)
theorem kw_159 : Cond.methodLink RJ1 88 yJ1_canEncode_9a6ad ∈ wsL_law := kR_7 (List.mem_of_getElem? (i := 14) rfl)
theorem kw_160 : Cond.static yJ1_canEncode_9a6ad ∈ wsL_law := kR_7 (List.mem_of_getElem? (i := 15) rfl)
theorem kw_161 : Cond.code yJ1_canEncode_9a6ad cJ1_canEncode_9a6ad 1 (some .boolean) ∈ wsL_law := kR_7 (List.mem_of_getElem? (i := 16) rfl)
theorem kw_162 : Cond.methodLink RJ1 95 yJ1_indexOfChar_4cfef ∈ wsL_law := kR_7 (List.mem_of_getElem? (i := 17) rfl)
theorem kw_163 : Cond.static yJ1_indexOfChar_4cfef ∈ wsL_law := kR_7 (List.mem_of_getElem? (i := 18) rfl)
theorem kw_164 : Cond.code yJ1_indexOfChar_4cfef cJ1_indexOfChar_4cfef 6 (some .int) ∈ wsL_law := kR_7 (List.mem_of_getElem? (i := 19) rfl)
theorem kw_165 : Cond.methodLink RJ0 640 yJ2_indexOf_4cfef ∈ wsL_law := kR_7 (List.mem_of_getElem? (i := 20) rfl)
theorem kw_166 : Cond.static yJ2_indexOf_4cfef ∈ wsL_law := kR_7 (List.mem_of_getElem? (i := 21) rfl)
theorem kw_167 : Cond.initialized RJ2 ∈ wsL_law := kR_7 (List.mem_of_getElem? (i := 22) rfl)
theorem kw_168 : Cond.code yJ2_indexOf_4cfef cJ2_indexOf_4cfef 4 (some .int) ∈ wsL_law := kR_7 (List.mem_of_getElem? (i := 23) rfl)
theorem kR_8 {w : Cond} (h : w ∈ wsL_law_r8) : w ∈ wsL_law := (List.mem_append_left _ (List.mem_append_left _ (List.mem_append_left _ (List.mem_append_left _ (List.mem_append_left _ (List.mem_append_left _ (List.mem_append_right _ (List.mem_append_right _ (List.mem_append_right _ (List.mem_append_right _ (List.mem_append_right _ (List.mem_append_right _ (List.mem_append_right _ (List.mem_append_left _ h))))))))))))))
theorem kw_169 : Cond.methodLink RJ2 224 Lib.Math.max.name ∈ wsL_law := kR_8 (List.mem_of_getElem? (i := 0) rfl)
theorem kw_170 : Cond.methodLink RJ2 183 Lib.Math.min.name ∈ wsL_law := kR_8 (List.mem_of_getElem? (i := 1) rfl)
theorem kw_171 : Cond.constant RJ2 227 (65536) ∈ wsL_law := kR_8 (List.mem_of_getElem? (i := 2) rfl)
theorem kw_172 : Cond.methodLink RJ2 228 yJ2_indexOfChar_4cfef ∈ wsL_law := kR_8 (List.mem_of_getElem? (i := 3) rfl)
theorem kw_173 : Cond.static yJ2_indexOfChar_4cfef ∈ wsL_law := kR_8 (List.mem_of_getElem? (i := 4) rfl)
theorem kw_174 : Cond.code yJ2_indexOfChar_4cfef cJ2_indexOfChar_4cfef 4 (some .int) ∈ wsL_law := kR_8 (List.mem_of_getElem? (i := 5) rfl)
theorem kw_175 : Cond.methodLink RJ2 96 yJ2_checkBoundsBeginEnd_d044e ∈ wsL_law := kR_8 (List.mem_of_getElem? (i := 6) rfl)
theorem kw_176 : Cond.static yJ2_checkBoundsBeginEnd_d044e ∈ wsL_law := kR_8 (List.mem_of_getElem? (i := 7) rfl)
theorem kw_177 : Cond.code yJ2_checkBoundsBeginEnd_d044e cJ2_checkBoundsBeginEnd_d044e 3 none ∈ wsL_law := kR_8 (List.mem_of_getElem? (i := 8) rfl)
theorem kw_178 : Cond.methodLink RJ2 48 yJ2_length_9d52b ∈ wsL_law := kR_8 (List.mem_of_getElem? (i := 9) rfl)
theorem kw_179 : Cond.static yJ2_length_9d52b ∈ wsL_law := kR_8 (List.mem_of_getElem? (i := 10) rfl)
theorem kw_180 : Cond.code yJ2_length_9d52b cJ2_length_9d52b 1 (some .int) ∈ wsL_law := kR_8 (List.mem_of_getElem? (i := 11) rfl)
theorem kw_181 : Cond.methodLink RJ2 241 yJ0_checkBoundsBeginEnd_23922 ∈ wsL_law := kR_8 (List.mem_of_getElem? (i := 12) rfl)
theorem kw_182 : Cond.static yJ0_checkBoundsBeginEnd_23922 ∈ wsL_law := kR_8 (List.mem_of_getElem? (i := 13) rfl)
theorem kw_183 : Cond.code yJ0_checkBoundsBeginEnd_23922 cJ0_checkBoundsBeginEnd_23922 3 none ∈ wsL_law := kR_8 (List.mem_of_getElem? (i := 14) rfl)
theorem kw_184 : Cond.fieldLink RJ0 1053 "jdk/internal/util/Preconditions" "SIOOBE_FORMATTER" "Ljava/util/function/BiFunction;" ∈ wsL_law := kR_8 (List.mem_of_getElem? (i := 15) rfl)
theorem kw_185 : Cond.methodLink RJ0 1062 yJ3_checkFromToIndex_8c36e ∈ wsL_law := kR_8 (List.mem_of_getElem? (i := 16) rfl)
theorem kw_186 : Cond.static yJ3_checkFromToIndex_8c36e ∈ wsL_law := kR_8 (List.mem_of_getElem? (i := 17) rfl)
theorem kw_187 : Cond.initialized RJ3 ∈ wsL_law := kR_8 (List.mem_of_getElem? (i := 18) rfl)
theorem kw_188 : Cond.code yJ3_checkFromToIndex_8c36e cJ3_checkFromToIndex_8c36e 4 (some .int) ∈ wsL_law := kR_8 (List.mem_of_getElem? (i := 19) rfl)
theorem kw_189 : Cond.methodLink RJ2 244 yJ2_indexOfCharUnsafe_4cfef ∈ wsL_law := kR_8 (List.mem_of_getElem? (i := 20) rfl)
theorem kw_190 : Cond.static yJ2_indexOfCharUnsafe_4cfef ∈ wsL_law := kR_8 (List.mem_of_getElem? (i := 21) rfl)
theorem kw_191 : Cond.code yJ2_indexOfCharUnsafe_4cfef cJ2_indexOfCharUnsafe_4cfef 5 (some .int) ∈ wsL_law := kR_8 (List.mem_of_getElem? (i := 22) rfl)
theorem kw_192 : Cond.methodLink RJ2 71 yJ2_getChar_3b067 ∈ wsL_law := kR_8 (List.mem_of_getElem? (i := 23) rfl)
theorem kR_9 {w : Cond} (h : w ∈ wsL_law_r9) : w ∈ wsL_law := (List.mem_append_left _ (List.mem_append_left _ (List.mem_append_left _ (List.mem_append_left _ (List.mem_append_left _ (List.mem_append_left _ (List.mem_append_right _ (List.mem_append_right _ (List.mem_append_right _ (List.mem_append_right _ (List.mem_append_right _ (List.mem_append_right _ (List.mem_append_right _ (List.mem_append_right _ (List.mem_append_left _ h)))))))))))))))
theorem kw_193 : Cond.static yJ2_getChar_3b067 ∈ wsL_law := kR_9 (List.mem_of_getElem? (i := 0) rfl)
theorem kw_194 : Cond.code yJ2_getChar_3b067 cJ2_getChar_3b067 2 (some .char) ∈ wsL_law := kR_9 (List.mem_of_getElem? (i := 1) rfl)
theorem kw_195 : Cond.fieldLink RJ2 44 "java/lang/StringUTF16" "$assertionsDisabled" "Z" ∈ wsL_law := kR_9 (List.mem_of_getElem? (i := 2) rfl)
theorem kw_196 : Cond.fieldLink RJ2 59 "java/lang/StringUTF16" "HI_BYTE_SHIFT" "I" ∈ wsL_law := kR_9 (List.mem_of_getElem? (i := 3) rfl)
theorem kw_197 : Cond.fieldLink RJ2 63 "java/lang/StringUTF16" "LO_BYTE_SHIFT" "I" ∈ wsL_law := kR_9 (List.mem_of_getElem? (i := 4) rfl)
theorem kw_198 : Cond.methodLink RJ2 232 yJ2_indexOfSupplementary_4cfef ∈ wsL_law := kR_9 (List.mem_of_getElem? (i := 5) rfl)
theorem kw_199 : Cond.static yJ2_indexOfSupplementary_4cfef ∈ wsL_law := kR_9 (List.mem_of_getElem? (i := 6) rfl)
theorem kw_200 : Cond.code yJ2_indexOfSupplementary_4cfef cJ2_indexOfSupplementary_4cfef 7 (some .int) ∈ wsL_law := kR_9 (List.mem_of_getElem? (i := 7) rfl)
theorem kw_201 : Cond.methodLink RJ2 164 yJ11_isValidCodePoint_9a6ad ∈ wsL_law := kR_9 (List.mem_of_getElem? (i := 8) rfl)
theorem kw_202 : Cond.static yJ11_isValidCodePoint_9a6ad ∈ wsL_law := kR_9 (List.mem_of_getElem? (i := 9) rfl)
theorem kw_203 : Cond.initialized RJ11 ∈ wsL_law := kR_9 (List.mem_of_getElem? (i := 10) rfl)
theorem kw_204 : Cond.code yJ11_isValidCodePoint_9a6ad cJ11_isValidCodePoint_9a6ad 2 (some .boolean) ∈ wsL_law := kR_9 (List.mem_of_getElem? (i := 11) rfl)
theorem kw_205 : Cond.methodLink RJ2 157 yJ11_highSurrogate_5068e ∈ wsL_law := kR_9 (List.mem_of_getElem? (i := 12) rfl)
theorem kw_206 : Cond.static yJ11_highSurrogate_5068e ∈ wsL_law := kR_9 (List.mem_of_getElem? (i := 13) rfl)
theorem kw_207 : Cond.code yJ11_highSurrogate_5068e cJ11_highSurrogate_5068e 1 (some .char) ∈ wsL_law := kR_9 (List.mem_of_getElem? (i := 14) rfl)
theorem kw_208 : Cond.constant RJ11 110 (55232) ∈ wsL_law := kR_9 (List.mem_of_getElem? (i := 15) rfl)
theorem kw_209 : Cond.methodLink RJ2 161 yJ11_lowSurrogate_5068e ∈ wsL_law := kR_9 (List.mem_of_getElem? (i := 16) rfl)
theorem kw_210 : Cond.static yJ11_lowSurrogate_5068e ∈ wsL_law := kR_9 (List.mem_of_getElem? (i := 17) rfl)
theorem kw_211 : Cond.code yJ11_lowSurrogate_5068e cJ11_lowSurrogate_5068e 1 (some .char) ∈ wsL_law := kR_9 (List.mem_of_getElem? (i := 18) rfl)
theorem kw_212 : Cond.constant RJ11 76 (56320) ∈ wsL_law := kR_9 (List.mem_of_getElem? (i := 19) rfl)
theorem kw_213 : Cond.methodLink RL 26 yX4_fault ∈ wsL_law := kR_9 (List.mem_of_getElem? (i := 20) rfl)
theorem kw_214 : Cond.instanceMethod yX4_fault ∈ wsL_law := kR_9 (List.mem_of_getElem? (i := 21) rfl)
theorem kw_215 : Cond.selects RX4 yX4_fault yX4_fault ∈ wsL_law := kR_9 (List.mem_of_getElem? (i := 22) rfl)
theorem kw_216 : Cond.code yX4_fault cX4_fault 1 (some .int) ∈ wsL_law := kR_9 (List.mem_of_getElem? (i := 23) rfl)
theorem kR_10 {w : Cond} (h : w ∈ wsL_law_r10) : w ∈ wsL_law := (List.mem_append_left _ (List.mem_append_left _ (List.mem_append_left _ (List.mem_append_left _ (List.mem_append_left _ (List.mem_append_left _ (List.mem_append_right _ (List.mem_append_right _ (List.mem_append_right _ (List.mem_append_right _ (List.mem_append_right _ (List.mem_append_right _ (List.mem_append_right _ (List.mem_append_right _ (List.mem_append_right _ (List.mem_append_left _ h))))))))))))))))
theorem kw_217 : Cond.methodLink RX4 72 yX4_faultNow ∈ wsL_law := kR_10 (List.mem_of_getElem? (i := 0) rfl)
theorem kw_218 : Cond.instanceMethod yX4_faultNow ∈ wsL_law := kR_10 (List.mem_of_getElem? (i := 1) rfl)
theorem kw_219 : Cond.selects RX4 yX4_faultNow yX4_faultNow ∈ wsL_law := kR_10 (List.mem_of_getElem? (i := 2) rfl)
theorem kw_220 : Cond.code yX4_faultNow cX4_faultNow 2 (some .int) ∈ wsL_law := kR_10 (List.mem_of_getElem? (i := 3) rfl)
theorem kw_221 : Cond.methodLink RX4 68 yX4_isGood ∈ wsL_law := kR_10 (List.mem_of_getElem? (i := 4) rfl)
theorem kw_222 : Cond.instanceMethod yX4_isGood ∈ wsL_law := kR_10 (List.mem_of_getElem? (i := 5) rfl)
theorem kw_223 : Cond.selects RX4 yX4_isGood yX4_isGood ∈ wsL_law := kR_10 (List.mem_of_getElem? (i := 6) rfl)
theorem kw_224 : Cond.code yX4_isGood cX4_isGood 3 (some .boolean) ∈ wsL_law := kR_10 (List.mem_of_getElem? (i := 7) rfl)
theorem kw_225 : Cond.methodLink RX4 64 yX4_kindBy ∈ wsL_law := kR_10 (List.mem_of_getElem? (i := 8) rfl)
theorem kw_226 : Cond.static yX4_kindBy ∈ wsL_law := kR_10 (List.mem_of_getElem? (i := 9) rfl)
theorem kw_227 : Cond.code yX4_kindBy cX4_kindBy 1 (some .int) ∈ wsL_law := kR_10 (List.mem_of_getElem? (i := 10) rfl)
theorem kw_228 : Cond.methodLink RL 27 yX3_leaf ∈ wsL_law := kR_10 (List.mem_of_getElem? (i := 11) rfl)
theorem kw_229 : Cond.instanceMethod yX3_leaf ∈ wsL_law := kR_10 (List.mem_of_getElem? (i := 12) rfl)
theorem kw_230 : Cond.selects RX3 yX3_leaf yX3_leaf ∈ wsL_law := kR_10 (List.mem_of_getElem? (i := 13) rfl)
theorem kw_231 : Cond.code yX3_leaf cX3_leaf 3 (some .int) ∈ wsL_law := kR_10 (List.mem_of_getElem? (i := 14) rfl)
theorem kw_232 : Cond.methodLink RX3 61 yX0_isLeaf ∈ wsL_law := kR_10 (List.mem_of_getElem? (i := 15) rfl)
theorem kw_233 : Cond.instanceMethod yX0_isLeaf ∈ wsL_law := kR_10 (List.mem_of_getElem? (i := 16) rfl)
theorem kw_234 : Cond.selects RX0 yX0_isLeaf yX0_isLeaf ∈ wsL_law := kR_10 (List.mem_of_getElem? (i := 17) rfl)
theorem kw_235 : Cond.code yX0_isLeaf cX0_isLeaf 1 (some .boolean) ∈ wsL_law := kR_10 (List.mem_of_getElem? (i := 18) rfl)
theorem kw_236 : Cond.methodLink RX0 30 yX0_firstFault ∈ wsL_law := kR_10 (List.mem_of_getElem? (i := 19) rfl)
theorem kw_237 : Cond.methodLink RX3 65 yX0_kindAt ∈ wsL_law := kR_10 (List.mem_of_getElem? (i := 20) rfl)
theorem kw_238 : Cond.methodLink RX3 69 yX0_digitAt ∈ wsL_law := kR_10 (List.mem_of_getElem? (i := 21) rfl)
theorem kw_239 : Cond.methodLink RX3 72 yX2_become ∈ wsL_law := kR_10 (List.mem_of_getElem? (i := 22) rfl)
theorem kw_240 : Cond.instanceMethod yX2_become ∈ wsL_law := kR_10 (List.mem_of_getElem? (i := 23) rfl)
theorem kR_11 {w : Cond} (h : w ∈ wsL_law_r11) : w ∈ wsL_law := (List.mem_append_left _ (List.mem_append_left _ (List.mem_append_left _ (List.mem_append_left _ (List.mem_append_left _ (List.mem_append_left _ (List.mem_append_right _ (List.mem_append_right _ (List.mem_append_right _ (List.mem_append_right _ (List.mem_append_right _ (List.mem_append_right _ (List.mem_append_right _ (List.mem_append_right _ (List.mem_append_right _ (List.mem_append_right _ (List.mem_append_left _ h)))))))))))))))))
theorem kw_241 : Cond.selects RX2 yX2_become yX2_become ∈ wsL_law := kR_11 (List.mem_of_getElem? (i := 0) rfl)
theorem kw_242 : Cond.code yX2_become cX2_become 5 none ∈ wsL_law := kR_11 (List.mem_of_getElem? (i := 1) rfl)
theorem kw_243 : Cond.methodLink RX2 27 Lib.Math.min.name ∈ wsL_law := kR_11 (List.mem_of_getElem? (i := 2) rfl)
theorem kw_244 : Cond.methodLink RX3 76 yX1_begin ∈ wsL_law := kR_11 (List.mem_of_getElem? (i := 3) rfl)
theorem kw_245 : Cond.instanceMethod yX1_begin ∈ wsL_law := kR_11 (List.mem_of_getElem? (i := 4) rfl)
theorem kw_246 : Cond.selects RX1 yX1_begin yX1_begin ∈ wsL_law := kR_11 (List.mem_of_getElem? (i := 5) rfl)
theorem kw_247 : Cond.code yX1_begin cX1_begin 3 none ∈ wsL_law := kR_11 (List.mem_of_getElem? (i := 6) rfl)
theorem kw_248 : Cond.methodLink RL 30 yX4_leaf ∈ wsL_law := kR_11 (List.mem_of_getElem? (i := 7) rfl)
theorem kw_249 : Cond.instanceMethod yX4_leaf ∈ wsL_law := kR_11 (List.mem_of_getElem? (i := 8) rfl)
theorem kw_250 : Cond.selects RX4 yX4_leaf yX4_leaf ∈ wsL_law := kR_11 (List.mem_of_getElem? (i := 9) rfl)
theorem kw_251 : Cond.code yX4_leaf cX4_leaf 2 (some .int) ∈ wsL_law := kR_11 (List.mem_of_getElem? (i := 10) rfl)
theorem kw_252 : Cond.fieldLink RX4 76 "BlotLandModel" "strokes" "I" ∈ wsL_law := kR_11 (List.mem_of_getElem? (i := 11) rfl)
theorem kw_253 : Cond.fieldLink RX4 83 "BlotLandModel" "leaves" "I" ∈ wsL_law := kR_11 (List.mem_of_getElem? (i := 12) rfl)
theorem kw_254 : Cond.fieldLink RX4 86 "BlotLandModel" "sanded" "I" ∈ wsL_law := kR_11 (List.mem_of_getElem? (i := 13) rfl)
theorem kw_255 : Cond.fieldLink RX4 89 "BlotLandModel" "evenings" "I" ∈ wsL_law := kR_11 (List.mem_of_getElem? (i := 14) rfl)
theorem kw_256 : Cond.fieldLink RX4 92 "BlotLandModel" "found" "I" ∈ wsL_law := kR_11 (List.mem_of_getElem? (i := 15) rfl)
theorem kw_257 : Cond.methodLink RX4 79 yX4_longAt ∈ wsL_law := kR_11 (List.mem_of_getElem? (i := 16) rfl)
theorem kw_258 : Cond.static yX4_longAt ∈ wsL_law := kR_11 (List.mem_of_getElem? (i := 17) rfl)
theorem kw_259 : Cond.code yX4_longAt cX4_longAt 2 (some .int) ∈ wsL_law := kR_11 (List.mem_of_getElem? (i := 18) rfl)
theorem kw_260 : Cond.methodLink RL 31 yX3_about ∈ wsL_law := kR_11 (List.mem_of_getElem? (i := 19) rfl)
theorem kw_261 : Cond.instanceMethod yX3_about ∈ wsL_law := kR_11 (List.mem_of_getElem? (i := 20) rfl)
theorem kw_262 : Cond.selects RX3 yX3_about yX3_about ∈ wsL_law := kR_11 (List.mem_of_getElem? (i := 21) rfl)
theorem kw_263 : Cond.code yX3_about cX3_about 3 (some .int) ∈ wsL_law := kR_11 (List.mem_of_getElem? (i := 22) rfl)
theorem kw_264 : Cond.methodLink RX3 79 yX3_isStroke ∈ wsL_law := kR_11 (List.mem_of_getElem? (i := 23) rfl)
theorem kR_12 {w : Cond} (h : w ∈ wsL_law_r12) : w ∈ wsL_law := (List.mem_append_left _ (List.mem_append_left _ (List.mem_append_left _ (List.mem_append_left _ (List.mem_append_left _ (List.mem_append_left _ (List.mem_append_right _ (List.mem_append_right _ (List.mem_append_right _ (List.mem_append_right _ (List.mem_append_right _ (List.mem_append_right _ (List.mem_append_right _ (List.mem_append_right _ (List.mem_append_right _ (List.mem_append_right _ (List.mem_append_right _ (List.mem_append_left _ h))))))))))))))))))
theorem kw_265 : Cond.instanceMethod yX3_isStroke ∈ wsL_law := kR_12 (List.mem_of_getElem? (i := 0) rfl)
theorem kw_266 : Cond.selects RX3 yX3_isStroke yX3_isStroke ∈ wsL_law := kR_12 (List.mem_of_getElem? (i := 1) rfl)
theorem kw_267 : Cond.code yX3_isStroke cX3_isStroke 2 (some .boolean) ∈ wsL_law := kR_12 (List.mem_of_getElem? (i := 2) rfl)
theorem kw_268 : Cond.methodLink RX3 94 yX1_isSanded ∈ wsL_law := kR_12 (List.mem_of_getElem? (i := 3) rfl)
theorem kw_269 : Cond.instanceMethod yX1_isSanded ∈ wsL_law := kR_12 (List.mem_of_getElem? (i := 4) rfl)
theorem kw_270 : Cond.selects RX1 yX1_isSanded yX1_isSanded ∈ wsL_law := kR_12 (List.mem_of_getElem? (i := 5) rfl)
theorem kw_271 : Cond.code yX1_isSanded cX1_isSanded 2 (some .boolean) ∈ wsL_law := kR_12 (List.mem_of_getElem? (i := 6) rfl)
theorem kw_272 : Cond.methodLink RX3 97 yX3_heavy ∈ wsL_law := kR_12 (List.mem_of_getElem? (i := 7) rfl)
theorem kw_273 : Cond.instanceMethod yX3_heavy ∈ wsL_law := kR_12 (List.mem_of_getElem? (i := 8) rfl)
theorem kw_274 : Cond.selects RX3 yX3_heavy yX3_heavy ∈ wsL_law := kR_12 (List.mem_of_getElem? (i := 9) rfl)
theorem kw_275 : Cond.code yX3_heavy cX3_heavy 4 (some .int) ∈ wsL_law := kR_12 (List.mem_of_getElem? (i := 10) rfl)
theorem kw_276 : Cond.methodLink RX3 236 yX3_isAllFoundWith ∈ wsL_law := kR_12 (List.mem_of_getElem? (i := 11) rfl)
theorem kw_277 : Cond.instanceMethod yX3_isAllFoundWith ∈ wsL_law := kR_12 (List.mem_of_getElem? (i := 12) rfl)
theorem kw_278 : Cond.selects RX3 yX3_isAllFoundWith yX3_isAllFoundWith ∈ wsL_law := kR_12 (List.mem_of_getElem? (i := 13) rfl)
theorem kw_279 : Cond.code yX3_isAllFoundWith cX3_isAllFoundWith 4 (some .boolean) ∈ wsL_law := kR_12 (List.mem_of_getElem? (i := 14) rfl)
theorem kw_280 : Cond.methodLink RX3 225 yX3_comesIf ∈ wsL_law := kR_12 (List.mem_of_getElem? (i := 15) rfl)
theorem kw_281 : Cond.instanceMethod yX3_comesIf ∈ wsL_law := kR_12 (List.mem_of_getElem? (i := 16) rfl)
theorem kw_282 : Cond.selects RX3 yX3_comesIf yX3_comesIf ∈ wsL_law := kR_12 (List.mem_of_getElem? (i := 17) rfl)
theorem kw_283 : Cond.code yX3_comesIf cX3_comesIf 10 (some .int) ∈ wsL_law := kR_12 (List.mem_of_getElem? (i := 18) rfl)
theorem kw_284 : Cond.methodLink RX3 121 yX2_wetAt ∈ wsL_law := kR_12 (List.mem_of_getElem? (i := 19) rfl)
theorem kw_285 : Cond.instanceMethod yX2_wetAt ∈ wsL_law := kR_12 (List.mem_of_getElem? (i := 20) rfl)
theorem kw_286 : Cond.selects RX2 yX2_wetAt yX2_wetAt ∈ wsL_law := kR_12 (List.mem_of_getElem? (i := 21) rfl)
theorem kw_287 : Cond.code yX2_wetAt cX2_wetAt 4 (some .int) ∈ wsL_law := kR_12 (List.mem_of_getElem? (i := 22) rfl)
theorem kw_288 : Cond.methodLink RX2 33 Lib.Math.max.name ∈ wsL_law := kR_12 (List.mem_of_getElem? (i := 23) rfl)
theorem kR_13 {w : Cond} (h : w ∈ wsL_law_r13) : w ∈ wsL_law := (List.mem_append_left _ (List.mem_append_left _ (List.mem_append_left _ (List.mem_append_left _ (List.mem_append_left _ (List.mem_append_left _ (List.mem_append_right _ (List.mem_append_right _ (List.mem_append_right _ (List.mem_append_right _ (List.mem_append_right _ (List.mem_append_right _ (List.mem_append_right _ (List.mem_append_right _ (List.mem_append_right _ (List.mem_append_right _ (List.mem_append_right _ (List.mem_append_right _ (List.mem_append_left _ h)))))))))))))))))))
theorem kw_289 : Cond.methodLink RX3 228 yX2_givesTo ∈ wsL_law := kR_13 (List.mem_of_getElem? (i := 0) rfl)
theorem kw_290 : Cond.instanceMethod yX2_givesTo ∈ wsL_law := kR_13 (List.mem_of_getElem? (i := 1) rfl)
theorem kw_291 : Cond.selects RX2 yX2_givesTo yX2_givesTo ∈ wsL_law := kR_13 (List.mem_of_getElem? (i := 2) rfl)
theorem kw_292 : Cond.code yX2_givesTo cX2_givesTo 5 (some .int) ∈ wsL_law := kR_13 (List.mem_of_getElem? (i := 3) rfl)
theorem kw_293 : Cond.methodLink RX2 36 yX2_isA ∈ wsL_law := kR_13 (List.mem_of_getElem? (i := 4) rfl)
theorem kw_294 : Cond.instanceMethod yX2_isA ∈ wsL_law := kR_13 (List.mem_of_getElem? (i := 5) rfl)
theorem kw_295 : Cond.selects RX2 yX2_isA yX2_isA ∈ wsL_law := kR_13 (List.mem_of_getElem? (i := 6) rfl)
theorem kw_296 : Cond.code yX2_isA cX2_isA 2 (some .boolean) ∈ wsL_law := kR_13 (List.mem_of_getElem? (i := 7) rfl)
theorem kw_297 : Cond.methodLink RL 35 yX4_about ∈ wsL_law := kR_13 (List.mem_of_getElem? (i := 8) rfl)
theorem kw_298 : Cond.instanceMethod yX4_about ∈ wsL_law := kR_13 (List.mem_of_getElem? (i := 9) rfl)
theorem kw_299 : Cond.selects RX4 yX4_about yX4_about ∈ wsL_law := kR_13 (List.mem_of_getElem? (i := 10) rfl)
theorem kw_300 : Cond.code yX4_about cX4_about 3 (some .int) ∈ wsL_law := kR_13 (List.mem_of_getElem? (i := 11) rfl)
theorem kw_301 : Cond.methodLink RX4 109 yX4_isStroke ∈ wsL_law := kR_13 (List.mem_of_getElem? (i := 12) rfl)
theorem kw_302 : Cond.instanceMethod yX4_isStroke ∈ wsL_law := kR_13 (List.mem_of_getElem? (i := 13) rfl)
theorem kw_303 : Cond.selects RX4 yX4_isStroke yX4_isStroke ∈ wsL_law := kR_13 (List.mem_of_getElem? (i := 14) rfl)
theorem kw_304 : Cond.code yX4_isStroke cX4_isStroke 2 (some .boolean) ∈ wsL_law := kR_13 (List.mem_of_getElem? (i := 15) rfl)
theorem kw_305 : Cond.methodLink RX4 112 yX4_strokeNow ∈ wsL_law := kR_13 (List.mem_of_getElem? (i := 16) rfl)
theorem kw_306 : Cond.instanceMethod yX4_strokeNow ∈ wsL_law := kR_13 (List.mem_of_getElem? (i := 17) rfl)
theorem kw_307 : Cond.selects RX4 yX4_strokeNow yX4_strokeNow ∈ wsL_law := kR_13 (List.mem_of_getElem? (i := 18) rfl)
theorem kw_308 : Cond.code yX4_strokeNow cX4_strokeNow 3 (some .int) ∈ wsL_law := kR_13 (List.mem_of_getElem? (i := 19) rfl)
theorem kw_309 : Cond.methodLink RX4 106 yX4_heavyOf ∈ wsL_law := kR_13 (List.mem_of_getElem? (i := 20) rfl)
theorem kw_310 : Cond.instanceMethod yX4_heavyOf ∈ wsL_law := kR_13 (List.mem_of_getElem? (i := 21) rfl)
theorem kw_311 : Cond.selects RX4 yX4_heavyOf yX4_heavyOf ∈ wsL_law := kR_13 (List.mem_of_getElem? (i := 22) rfl)
theorem kw_312 : Cond.code yX4_heavyOf cX4_heavyOf 5 (some .int) ∈ wsL_law := kR_13 (List.mem_of_getElem? (i := 23) rfl)
theorem kR_14 {w : Cond} (h : w ∈ wsL_law_r14) : w ∈ wsL_law := (List.mem_append_left _ (List.mem_append_left _ (List.mem_append_left _ (List.mem_append_left _ (List.mem_append_left _ (List.mem_append_left _ (List.mem_append_right _ (List.mem_append_right _ (List.mem_append_right _ (List.mem_append_right _ (List.mem_append_right _ (List.mem_append_right _ (List.mem_append_right _ (List.mem_append_right _ (List.mem_append_right _ (List.mem_append_right _ (List.mem_append_right _ (List.mem_append_right _ (List.mem_append_right _ (List.mem_append_left _ h))))))))))))))))))))
theorem kw_313 : Cond.methodLink RX4 142 yX4_isFound ∈ wsL_law := kR_14 (List.mem_of_getElem? (i := 0) rfl)
theorem kw_314 : Cond.instanceMethod yX4_isFound ∈ wsL_law := kR_14 (List.mem_of_getElem? (i := 1) rfl)
theorem kw_315 : Cond.selects RX4 yX4_isFound yX4_isFound ∈ wsL_law := kR_14 (List.mem_of_getElem? (i := 2) rfl)
theorem kw_316 : Cond.code yX4_isFound cX4_isFound 3 (some .boolean) ∈ wsL_law := kR_14 (List.mem_of_getElem? (i := 3) rfl)
theorem kw_317 : Cond.methodLink RX4 121 yX4_comesTo ∈ wsL_law := kR_14 (List.mem_of_getElem? (i := 4) rfl)
theorem kw_318 : Cond.instanceMethod yX4_comesTo ∈ wsL_law := kR_14 (List.mem_of_getElem? (i := 5) rfl)
theorem kw_319 : Cond.selects RX4 yX4_comesTo yX4_comesTo ∈ wsL_law := kR_14 (List.mem_of_getElem? (i := 6) rfl)
theorem kw_320 : Cond.code yX4_comesTo cX4_comesTo 5 (some .int) ∈ wsL_law := kR_14 (List.mem_of_getElem? (i := 7) rfl)
theorem kw_321 : Cond.methodLink RX4 102 yX4_comesOf ∈ wsL_law := kR_14 (List.mem_of_getElem? (i := 8) rfl)
theorem kw_322 : Cond.instanceMethod yX4_comesOf ∈ wsL_law := kR_14 (List.mem_of_getElem? (i := 9) rfl)
theorem kw_323 : Cond.selects RX4 yX4_comesOf yX4_comesOf ∈ wsL_law := kR_14 (List.mem_of_getElem? (i := 10) rfl)
theorem kw_324 : Cond.code yX4_comesOf cX4_comesOf 8 (some .int) ∈ wsL_law := kR_14 (List.mem_of_getElem? (i := 11) rfl)
theorem kw_325 : Cond.methodLink RX4 99 yX4_wetAt ∈ wsL_law := kR_14 (List.mem_of_getElem? (i := 12) rfl)
theorem kw_326 : Cond.instanceMethod yX4_wetAt ∈ wsL_law := kR_14 (List.mem_of_getElem? (i := 13) rfl)
theorem kw_327 : Cond.selects RX4 yX4_wetAt yX4_wetAt ∈ wsL_law := kR_14 (List.mem_of_getElem? (i := 14) rfl)
theorem kw_328 : Cond.code yX4_wetAt cX4_wetAt 5 (some .int) ∈ wsL_law := kR_14 (List.mem_of_getElem? (i := 15) rfl)
theorem kw_329 : Cond.methodLink RX4 95 yX4_isIn ∈ wsL_law := kR_14 (List.mem_of_getElem? (i := 16) rfl)
theorem kw_330 : Cond.static yX4_isIn ∈ wsL_law := kR_14 (List.mem_of_getElem? (i := 17) rfl)
theorem kw_331 : Cond.code yX4_isIn cX4_isIn 2 (some .boolean) ∈ wsL_law := kR_14 (List.mem_of_getElem? (i := 18) rfl)
theorem kw_332 : Cond.methodLink RL 36 yX3_as ∈ wsL_law := kR_14 (List.mem_of_getElem? (i := 19) rfl)
theorem kw_333 : Cond.instanceMethod yX3_as ∈ wsL_law := kR_14 (List.mem_of_getElem? (i := 20) rfl)
theorem kw_334 : Cond.selects RX3 yX3_as yX3_as ∈ wsL_law := kR_14 (List.mem_of_getElem? (i := 21) rfl)
theorem kw_335 : Cond.code yX3_as cX3_as 3 (some .int) ∈ wsL_law := kR_14 (List.mem_of_getElem? (i := 22) rfl)
theorem kw_336 : Cond.methodLink RX3 100 yX3_isKind ∈ wsL_law := kR_14 (List.mem_of_getElem? (i := 23) rfl)
theorem kR_15 {w : Cond} (h : w ∈ wsL_law_r15) : w ∈ wsL_law := (List.mem_append_left _ (List.mem_append_left _ (List.mem_append_left _ (List.mem_append_left _ (List.mem_append_left _ (List.mem_append_left _ (List.mem_append_right _ (List.mem_append_right _ (List.mem_append_right _ (List.mem_append_right _ (List.mem_append_right _ (List.mem_append_right _ (List.mem_append_right _ (List.mem_append_right _ (List.mem_append_right _ (List.mem_append_right _ (List.mem_append_right _ (List.mem_append_right _ (List.mem_append_right _ (List.mem_append_right _ (List.mem_append_left _ h)))))))))))))))))))))
theorem kw_337 : Cond.static yX3_isKind ∈ wsL_law := kR_15 (List.mem_of_getElem? (i := 0) rfl)
theorem kw_338 : Cond.code yX3_isKind cX3_isKind 1 (some .boolean) ∈ wsL_law := kR_15 (List.mem_of_getElem? (i := 1) rfl)
theorem kw_339 : Cond.methodLink RX3 103 yX2_isA ∈ wsL_law := kR_15 (List.mem_of_getElem? (i := 2) rfl)
theorem kw_340 : Cond.methodLink RL 39 yX4_as ∈ wsL_law := kR_15 (List.mem_of_getElem? (i := 3) rfl)
theorem kw_341 : Cond.instanceMethod yX4_as ∈ wsL_law := kR_15 (List.mem_of_getElem? (i := 4) rfl)
theorem kw_342 : Cond.selects RX4 yX4_as yX4_as ∈ wsL_law := kR_15 (List.mem_of_getElem? (i := 5) rfl)
theorem kw_343 : Cond.code yX4_as cX4_as 4 (some .int) ∈ wsL_law := kR_15 (List.mem_of_getElem? (i := 6) rfl)
theorem kw_344 : Cond.methodLink RL 40 yX3_write ∈ wsL_law := kR_15 (List.mem_of_getElem? (i := 7) rfl)
theorem kw_345 : Cond.instanceMethod yX3_write ∈ wsL_law := kR_15 (List.mem_of_getElem? (i := 8) rfl)
theorem kw_346 : Cond.selects RX3 yX3_write yX3_write ∈ wsL_law := kR_15 (List.mem_of_getElem? (i := 9) rfl)
theorem kw_347 : Cond.code yX3_write cX3_write 6 (some .int) ∈ wsL_law := kR_15 (List.mem_of_getElem? (i := 10) rfl)
theorem kw_348 : Cond.methodLink RX3 106 yX3_isCell ∈ wsL_law := kR_15 (List.mem_of_getElem? (i := 11) rfl)
theorem kw_349 : Cond.static yX3_isCell ∈ wsL_law := kR_15 (List.mem_of_getElem? (i := 12) rfl)
theorem kw_350 : Cond.code yX3_isCell cX3_isCell 1 (some .boolean) ∈ wsL_law := kR_15 (List.mem_of_getElem? (i := 13) rfl)
theorem kw_351 : Cond.methodLink RX3 109 yX3_hasLeaf ∈ wsL_law := kR_15 (List.mem_of_getElem? (i := 14) rfl)
theorem kw_352 : Cond.instanceMethod yX3_hasLeaf ∈ wsL_law := kR_15 (List.mem_of_getElem? (i := 15) rfl)
theorem kw_353 : Cond.selects RX3 yX3_hasLeaf yX3_hasLeaf ∈ wsL_law := kR_15 (List.mem_of_getElem? (i := 16) rfl)
theorem kw_354 : Cond.code yX3_hasLeaf cX3_hasLeaf 1 (some .boolean) ∈ wsL_law := kR_15 (List.mem_of_getElem? (i := 17) rfl)
theorem kw_355 : Cond.methodLink RL 44 yX4_write ∈ wsL_law := kR_15 (List.mem_of_getElem? (i := 18) rfl)
theorem kw_356 : Cond.instanceMethod yX4_write ∈ wsL_law := kR_15 (List.mem_of_getElem? (i := 19) rfl)
theorem kw_357 : Cond.selects RX4 yX4_write yX4_write ∈ wsL_law := kR_15 (List.mem_of_getElem? (i := 20) rfl)
theorem kw_358 : Cond.code yX4_write cX4_write 5 (some .int) ∈ wsL_law := kR_15 (List.mem_of_getElem? (i := 21) rfl)
theorem kw_359 : Cond.methodLink RL 45 yX3_sand ∈ wsL_law := kR_15 (List.mem_of_getElem? (i := 22) rfl)
theorem kw_360 : Cond.instanceMethod yX3_sand ∈ wsL_law := kR_15 (List.mem_of_getElem? (i := 23) rfl)
theorem kR_16 {w : Cond} (h : w ∈ wsL_law_r16) : w ∈ wsL_law := (List.mem_append_left _ (List.mem_append_left _ (List.mem_append_left _ (List.mem_append_left _ (List.mem_append_left _ (List.mem_append_left _ (List.mem_append_right _ (List.mem_append_right _ (List.mem_append_right _ (List.mem_append_right _ (List.mem_append_right _ (List.mem_append_right _ (List.mem_append_right _ (List.mem_append_right _ (List.mem_append_right _ (List.mem_append_right _ (List.mem_append_right _ (List.mem_append_right _ (List.mem_append_right _ (List.mem_append_right _ (List.mem_append_right _ (List.mem_append_left _ h))))))))))))))))))))))
theorem kw_361 : Cond.selects RX3 yX3_sand yX3_sand ∈ wsL_law := kR_16 (List.mem_of_getElem? (i := 0) rfl)
theorem kw_362 : Cond.code yX3_sand cX3_sand 4 (some .int) ∈ wsL_law := kR_16 (List.mem_of_getElem? (i := 1) rfl)
theorem kw_363 : Cond.methodLink RX3 114 yX1_putSanded ∈ wsL_law := kR_16 (List.mem_of_getElem? (i := 2) rfl)
theorem kw_364 : Cond.instanceMethod yX1_putSanded ∈ wsL_law := kR_16 (List.mem_of_getElem? (i := 3) rfl)
theorem kw_365 : Cond.selects RX1 yX1_putSanded yX1_putSanded ∈ wsL_law := kR_16 (List.mem_of_getElem? (i := 4) rfl)
theorem kw_366 : Cond.code yX1_putSanded cX1_putSanded 4 none ∈ wsL_law := kR_16 (List.mem_of_getElem? (i := 5) rfl)
theorem kw_367 : Cond.methodLink RL 49 yX4_sand ∈ wsL_law := kR_16 (List.mem_of_getElem? (i := 6) rfl)
theorem kw_368 : Cond.instanceMethod yX4_sand ∈ wsL_law := kR_16 (List.mem_of_getElem? (i := 7) rfl)
theorem kw_369 : Cond.selects RX4 yX4_sand yX4_sand ∈ wsL_law := kR_16 (List.mem_of_getElem? (i := 8) rfl)
theorem kw_370 : Cond.code yX4_sand cX4_sand 4 (some .int) ∈ wsL_law := kR_16 (List.mem_of_getElem? (i := 9) rfl)
theorem kw_371 : Cond.methodLink RL 50 yX3_wet ∈ wsL_law := kR_16 (List.mem_of_getElem? (i := 10) rfl)
theorem kw_372 : Cond.instanceMethod yX3_wet ∈ wsL_law := kR_16 (List.mem_of_getElem? (i := 11) rfl)
theorem kw_373 : Cond.selects RX3 yX3_wet yX3_wet ∈ wsL_law := kR_16 (List.mem_of_getElem? (i := 12) rfl)
theorem kw_374 : Cond.code yX3_wet cX3_wet 3 (some .int) ∈ wsL_law := kR_16 (List.mem_of_getElem? (i := 13) rfl)
theorem kw_375 : Cond.methodLink RX3 118 yX3_isMinute ∈ wsL_law := kR_16 (List.mem_of_getElem? (i := 14) rfl)
theorem kw_376 : Cond.static yX3_isMinute ∈ wsL_law := kR_16 (List.mem_of_getElem? (i := 15) rfl)
theorem kw_377 : Cond.code yX3_isMinute cX3_isMinute 1 (some .boolean) ∈ wsL_law := kR_16 (List.mem_of_getElem? (i := 16) rfl)
theorem kw_378 : Cond.methodLink RL 53 yX4_wet ∈ wsL_law := kR_16 (List.mem_of_getElem? (i := 17) rfl)
theorem kw_379 : Cond.instanceMethod yX4_wet ∈ wsL_law := kR_16 (List.mem_of_getElem? (i := 18) rfl)
theorem kw_380 : Cond.selects RX4 yX4_wet yX4_wet ∈ wsL_law := kR_16 (List.mem_of_getElem? (i := 19) rfl)
theorem kw_381 : Cond.code yX4_wet cX4_wet 3 (some .int) ∈ wsL_law := kR_16 (List.mem_of_getElem? (i := 20) rfl)
theorem kw_382 : Cond.methodLink RX4 115 yX4_isMinute ∈ wsL_law := kR_16 (List.mem_of_getElem? (i := 21) rfl)
theorem kw_383 : Cond.static yX4_isMinute ∈ wsL_law := kR_16 (List.mem_of_getElem? (i := 22) rfl)
theorem kw_384 : Cond.code yX4_isMinute cX4_isMinute 1 (some .boolean) ∈ wsL_law := kR_16 (List.mem_of_getElem? (i := 23) rfl)
theorem kR_17 {w : Cond} (h : w ∈ wsL_law_r17) : w ∈ wsL_law := (List.mem_append_left _ (List.mem_append_left _ (List.mem_append_left _ (List.mem_append_left _ (List.mem_append_left _ (List.mem_append_left _ (List.mem_append_right _ (List.mem_append_right _ (List.mem_append_right _ (List.mem_append_right _ (List.mem_append_right _ (List.mem_append_right _ (List.mem_append_right _ (List.mem_append_right _ (List.mem_append_right _ (List.mem_append_right _ (List.mem_append_right _ (List.mem_append_right _ (List.mem_append_right _ (List.mem_append_right _ (List.mem_append_right _ (List.mem_append_right _ (List.mem_append_left _ h)))))))))))))))))))))))
theorem kw_385 : Cond.methodLink RL 54 yX3_ink ∈ wsL_law := kR_17 (List.mem_of_getElem? (i := 0) rfl)
theorem kw_386 : Cond.instanceMethod yX3_ink ∈ wsL_law := kR_17 (List.mem_of_getElem? (i := 1) rfl)
theorem kw_387 : Cond.selects RX3 yX3_ink yX3_ink ∈ wsL_law := kR_17 (List.mem_of_getElem? (i := 2) rfl)
theorem kw_388 : Cond.code yX3_ink cX3_ink 2 (some .int) ∈ wsL_law := kR_17 (List.mem_of_getElem? (i := 3) rfl)
theorem kw_389 : Cond.methodLink RX3 125 yX3_isLand ∈ wsL_law := kR_17 (List.mem_of_getElem? (i := 4) rfl)
theorem kw_390 : Cond.instanceMethod yX3_isLand ∈ wsL_law := kR_17 (List.mem_of_getElem? (i := 5) rfl)
theorem kw_391 : Cond.selects RX3 yX3_isLand yX3_isLand ∈ wsL_law := kR_17 (List.mem_of_getElem? (i := 6) rfl)
theorem kw_392 : Cond.code yX3_isLand cX3_isLand 2 (some .boolean) ∈ wsL_law := kR_17 (List.mem_of_getElem? (i := 7) rfl)
theorem kw_393 : Cond.methodLink RL 57 yX4_ink ∈ wsL_law := kR_17 (List.mem_of_getElem? (i := 8) rfl)
theorem kw_394 : Cond.instanceMethod yX4_ink ∈ wsL_law := kR_17 (List.mem_of_getElem? (i := 9) rfl)
theorem kw_395 : Cond.selects RX4 yX4_ink yX4_ink ∈ wsL_law := kR_17 (List.mem_of_getElem? (i := 10) rfl)
theorem kw_396 : Cond.code yX4_ink cX4_ink 2 (some .int) ∈ wsL_law := kR_17 (List.mem_of_getElem? (i := 11) rfl)
theorem kw_397 : Cond.methodLink RX4 118 yX4_isCell ∈ wsL_law := kR_17 (List.mem_of_getElem? (i := 12) rfl)
theorem kw_398 : Cond.instanceMethod yX4_isCell ∈ wsL_law := kR_17 (List.mem_of_getElem? (i := 13) rfl)
theorem kw_399 : Cond.selects RX4 yX4_isCell yX4_isCell ∈ wsL_law := kR_17 (List.mem_of_getElem? (i := 14) rfl)
theorem kw_400 : Cond.code yX4_isCell cX4_isCell 2 (some .boolean) ∈ wsL_law := kR_17 (List.mem_of_getElem? (i := 15) rfl)
theorem kw_401 : Cond.methodLink RL 58 yX3_comes ∈ wsL_law := kR_17 (List.mem_of_getElem? (i := 16) rfl)
theorem kw_402 : Cond.instanceMethod yX3_comes ∈ wsL_law := kR_17 (List.mem_of_getElem? (i := 17) rfl)
theorem kw_403 : Cond.selects RX3 yX3_comes yX3_comes ∈ wsL_law := kR_17 (List.mem_of_getElem? (i := 18) rfl)
theorem kw_404 : Cond.code yX3_comes cX3_comes 3 (some .int) ∈ wsL_law := kR_17 (List.mem_of_getElem? (i := 19) rfl)
theorem kw_405 : Cond.methodLink RX3 131 yX3_comesNow ∈ wsL_law := kR_17 (List.mem_of_getElem? (i := 20) rfl)
theorem kw_406 : Cond.instanceMethod yX3_comesNow ∈ wsL_law := kR_17 (List.mem_of_getElem? (i := 21) rfl)
theorem kw_407 : Cond.selects RX3 yX3_comesNow yX3_comesNow ∈ wsL_law := kR_17 (List.mem_of_getElem? (i := 22) rfl)
theorem kw_408 : Cond.code yX3_comesNow cX3_comesNow 3 (some .int) ∈ wsL_law := kR_17 (List.mem_of_getElem? (i := 23) rfl)
theorem kR_18 {w : Cond} (h : w ∈ wsL_law_r18) : w ∈ wsL_law := (List.mem_append_left _ (List.mem_append_left _ (List.mem_append_left _ (List.mem_append_left _ (List.mem_append_left _ (List.mem_append_left _ (List.mem_append_right _ (List.mem_append_right _ (List.mem_append_right _ (List.mem_append_right _ (List.mem_append_right _ (List.mem_append_right _ (List.mem_append_right _ (List.mem_append_right _ (List.mem_append_right _ (List.mem_append_right _ (List.mem_append_right _ (List.mem_append_right _ (List.mem_append_right _ (List.mem_append_right _ (List.mem_append_right _ (List.mem_append_right _ (List.mem_append_right _ (List.mem_append_left _ h))))))))))))))))))))))))
theorem kw_409 : Cond.methodLink RL 61 yX4_comes ∈ wsL_law := kR_18 (List.mem_of_getElem? (i := 0) rfl)
theorem kw_410 : Cond.instanceMethod yX4_comes ∈ wsL_law := kR_18 (List.mem_of_getElem? (i := 1) rfl)
theorem kw_411 : Cond.selects RX4 yX4_comes yX4_comes ∈ wsL_law := kR_18 (List.mem_of_getElem? (i := 2) rfl)
theorem kw_412 : Cond.code yX4_comes cX4_comes 3 (some .int) ∈ wsL_law := kR_18 (List.mem_of_getElem? (i := 3) rfl)
theorem kw_413 : Cond.methodLink RL 62 yX3_evening ∈ wsL_law := kR_18 (List.mem_of_getElem? (i := 4) rfl)
theorem kw_414 : Cond.instanceMethod yX3_evening ∈ wsL_law := kR_18 (List.mem_of_getElem? (i := 5) rfl)
theorem kw_415 : Cond.selects RX3 yX3_evening yX3_evening ∈ wsL_law := kR_18 (List.mem_of_getElem? (i := 6) rfl)
theorem kw_416 : Cond.code yX3_evening cX3_evening 2 (some .int) ∈ wsL_law := kR_18 (List.mem_of_getElem? (i := 7) rfl)
theorem kw_417 : Cond.methodLink RX3 137 yX3_pressOff ∈ wsL_law := kR_18 (List.mem_of_getElem? (i := 8) rfl)
theorem kw_418 : Cond.instanceMethod yX3_pressOff ∈ wsL_law := kR_18 (List.mem_of_getElem? (i := 9) rfl)
theorem kw_419 : Cond.selects RX3 yX3_pressOff yX3_pressOff ∈ wsL_law := kR_18 (List.mem_of_getElem? (i := 10) rfl)
theorem kw_420 : Cond.code yX3_pressOff cX3_pressOff 6 (some .int) ∈ wsL_law := kR_18 (List.mem_of_getElem? (i := 11) rfl)
theorem kw_421 : Cond.methodLink RX3 231 Lib.Math.min.name ∈ wsL_law := kR_18 (List.mem_of_getElem? (i := 12) rfl)
theorem kw_422 : Cond.methodLink RL 65 yX4_evening ∈ wsL_law := kR_18 (List.mem_of_getElem? (i := 13) rfl)
theorem kw_423 : Cond.instanceMethod yX4_evening ∈ wsL_law := kR_18 (List.mem_of_getElem? (i := 14) rfl)
theorem kw_424 : Cond.selects RX4 yX4_evening yX4_evening ∈ wsL_law := kR_18 (List.mem_of_getElem? (i := 15) rfl)
theorem kw_425 : Cond.code yX4_evening cX4_evening 2 (some .int) ∈ wsL_law := kR_18 (List.mem_of_getElem? (i := 16) rfl)
theorem kw_426 : Cond.methodLink RX4 124 yX4_press ∈ wsL_law := kR_18 (List.mem_of_getElem? (i := 17) rfl)
theorem kw_427 : Cond.instanceMethod yX4_press ∈ wsL_law := kR_18 (List.mem_of_getElem? (i := 18) rfl)
theorem kw_428 : Cond.selects RX4 yX4_press yX4_press ∈ wsL_law := kR_18 (List.mem_of_getElem? (i := 19) rfl)
theorem kw_429 : Cond.code yX4_press cX4_press 5 (some .int) ∈ wsL_law := kR_18 (List.mem_of_getElem? (i := 20) rfl)
theorem kw_430 : Cond.methodLink RL 66 yX3_hills ∈ wsL_law := kR_18 (List.mem_of_getElem? (i := 21) rfl)
theorem kw_431 : Cond.instanceMethod yX3_hills ∈ wsL_law := kR_18 (List.mem_of_getElem? (i := 22) rfl)
theorem kw_432 : Cond.selects RX3 yX3_hills yX3_hills ∈ wsL_law := kR_18 (List.mem_of_getElem? (i := 23) rfl)
theorem kR_19 {w : Cond} (h : w ∈ wsL_law_r19) : w ∈ wsL_law := (List.mem_append_left _ (List.mem_append_left _ (List.mem_append_left _ (List.mem_append_left _ (List.mem_append_left _ (List.mem_append_left _ (List.mem_append_right _ (List.mem_append_right _ (List.mem_append_right _ (List.mem_append_right _ (List.mem_append_right _ (List.mem_append_right _ (List.mem_append_right _ (List.mem_append_right _ (List.mem_append_right _ (List.mem_append_right _ (List.mem_append_right _ (List.mem_append_right _ (List.mem_append_right _ (List.mem_append_right _ (List.mem_append_right _ (List.mem_append_right _ (List.mem_append_right _ (List.mem_append_right _ (List.mem_append_left _ h)))))))))))))))))))))))))
theorem kw_433 : Cond.code yX3_hills cX3_hills 6 (some .int) ∈ wsL_law := kR_19 (List.mem_of_getElem? (i := 0) rfl)
theorem kw_434 : Cond.methodLink RL 69 yX4_hills ∈ wsL_law := kR_19 (List.mem_of_getElem? (i := 1) rfl)
theorem kw_435 : Cond.instanceMethod yX4_hills ∈ wsL_law := kR_19 (List.mem_of_getElem? (i := 2) rfl)
theorem kw_436 : Cond.selects RX4 yX4_hills yX4_hills ∈ wsL_law := kR_19 (List.mem_of_getElem? (i := 3) rfl)
theorem kw_437 : Cond.code yX4_hills cX4_hills 2 (some .int) ∈ wsL_law := kR_19 (List.mem_of_getElem? (i := 4) rfl)
theorem kw_438 : Cond.methodLink RX4 127 yX4_hillsNow ∈ wsL_law := kR_19 (List.mem_of_getElem? (i := 5) rfl)
theorem kw_439 : Cond.instanceMethod yX4_hillsNow ∈ wsL_law := kR_19 (List.mem_of_getElem? (i := 6) rfl)
theorem kw_440 : Cond.selects RX4 yX4_hillsNow yX4_hillsNow ∈ wsL_law := kR_19 (List.mem_of_getElem? (i := 7) rfl)
theorem kw_441 : Cond.code yX4_hillsNow cX4_hillsNow 4 (some .int) ∈ wsL_law := kR_19 (List.mem_of_getElem? (i := 8) rfl)
theorem kw_442 : Cond.methodLink RL 70 yX3_close ∈ wsL_law := kR_19 (List.mem_of_getElem? (i := 9) rfl)
theorem kw_443 : Cond.instanceMethod yX3_close ∈ wsL_law := kR_19 (List.mem_of_getElem? (i := 10) rfl)
theorem kw_444 : Cond.selects RX3 yX3_close yX3_close ∈ wsL_law := kR_19 (List.mem_of_getElem? (i := 11) rfl)
theorem kw_445 : Cond.code yX3_close cX3_close 4 (some .int) ∈ wsL_law := kR_19 (List.mem_of_getElem? (i := 12) rfl)
theorem kw_446 : Cond.methodLink RX3 141 yX3_isMuch ∈ wsL_law := kR_19 (List.mem_of_getElem? (i := 13) rfl)
theorem kw_447 : Cond.static yX3_isMuch ∈ wsL_law := kR_19 (List.mem_of_getElem? (i := 14) rfl)
theorem kw_448 : Cond.code yX3_isMuch cX3_isMuch 1 (some .boolean) ∈ wsL_law := kR_19 (List.mem_of_getElem? (i := 15) rfl)
theorem kw_449 : Cond.methodLink RL 73 yX4_close ∈ wsL_law := kR_19 (List.mem_of_getElem? (i := 16) rfl)
theorem kw_450 : Cond.instanceMethod yX4_close ∈ wsL_law := kR_19 (List.mem_of_getElem? (i := 17) rfl)
theorem kw_451 : Cond.selects RX4 yX4_close yX4_close ∈ wsL_law := kR_19 (List.mem_of_getElem? (i := 18) rfl)
theorem kw_452 : Cond.code yX4_close cX4_close 3 (some .int) ∈ wsL_law := kR_19 (List.mem_of_getElem? (i := 19) rfl)
theorem kw_453 : Cond.methodLink RX4 130 yX4_closeNow ∈ wsL_law := kR_19 (List.mem_of_getElem? (i := 20) rfl)
theorem kw_454 : Cond.instanceMethod yX4_closeNow ∈ wsL_law := kR_19 (List.mem_of_getElem? (i := 21) rfl)
theorem kw_455 : Cond.selects RX4 yX4_closeNow yX4_closeNow ∈ wsL_law := kR_19 (List.mem_of_getElem? (i := 22) rfl)
theorem kw_456 : Cond.code yX4_closeNow cX4_closeNow 5 (some .int) ∈ wsL_law := kR_19 (List.mem_of_getElem? (i := 23) rfl)
theorem kR_20 {w : Cond} (h : w ∈ wsL_law_r20) : w ∈ wsL_law := (List.mem_append_left _ (List.mem_append_left _ (List.mem_append_left _ (List.mem_append_left _ (List.mem_append_left _ (List.mem_append_left _ (List.mem_append_right _ (List.mem_append_right _ (List.mem_append_right _ (List.mem_append_right _ (List.mem_append_right _ (List.mem_append_right _ (List.mem_append_right _ (List.mem_append_right _ (List.mem_append_right _ (List.mem_append_right _ (List.mem_append_right _ (List.mem_append_right _ (List.mem_append_right _ (List.mem_append_right _ (List.mem_append_right _ (List.mem_append_right _ (List.mem_append_right _ (List.mem_append_right _ (List.mem_append_right _ (List.mem_append_left _ h))))))))))))))))))))))))))
theorem kw_457 : Cond.methodLink RL 74 yX3_toSand ∈ wsL_law := kR_20 (List.mem_of_getElem? (i := 0) rfl)
theorem kw_458 : Cond.instanceMethod yX3_toSand ∈ wsL_law := kR_20 (List.mem_of_getElem? (i := 1) rfl)
theorem kw_459 : Cond.selects RX3 yX3_toSand yX3_toSand ∈ wsL_law := kR_20 (List.mem_of_getElem? (i := 2) rfl)
theorem kw_460 : Cond.code yX3_toSand cX3_toSand 6 (some .int) ∈ wsL_law := kR_20 (List.mem_of_getElem? (i := 3) rfl)
theorem kw_461 : Cond.methodLink RX3 144 yX3_reachesAny ∈ wsL_law := kR_20 (List.mem_of_getElem? (i := 4) rfl)
theorem kw_462 : Cond.instanceMethod yX3_reachesAny ∈ wsL_law := kR_20 (List.mem_of_getElem? (i := 5) rfl)
theorem kw_463 : Cond.selects RX3 yX3_reachesAny yX3_reachesAny ∈ wsL_law := kR_20 (List.mem_of_getElem? (i := 6) rfl)
theorem kw_464 : Cond.code yX3_reachesAny cX3_reachesAny 7 (some .boolean) ∈ wsL_law := kR_20 (List.mem_of_getElem? (i := 7) rfl)
theorem kw_465 : Cond.methodLink RX3 194 yX3_wet ∈ wsL_law := kR_20 (List.mem_of_getElem? (i := 8) rfl)
theorem kw_466 : Cond.methodLink RX3 148 yJ6_bitCount_0f7a4 ∈ wsL_law := kR_20 (List.mem_of_getElem? (i := 9) rfl)
theorem kw_467 : Cond.static yJ6_bitCount_0f7a4 ∈ wsL_law := kR_20 (List.mem_of_getElem? (i := 10) rfl)
theorem kw_468 : Cond.initialized RJ6 ∈ wsL_law := kR_20 (List.mem_of_getElem? (i := 11) rfl)
theorem kw_469 : Cond.code yJ6_bitCount_0f7a4 cJ6_bitCount_0f7a4 1 (some .int) ∈ wsL_law := kR_20 (List.mem_of_getElem? (i := 12) rfl)
theorem kw_470 : Cond.constant RJ6 265 (1431655765) ∈ wsL_law := kR_20 (List.mem_of_getElem? (i := 13) rfl)
theorem kw_471 : Cond.constant RJ6 266 (858993459) ∈ wsL_law := kR_20 (List.mem_of_getElem? (i := 14) rfl)
theorem kw_472 : Cond.constant RJ6 267 (252645135) ∈ wsL_law := kR_20 (List.mem_of_getElem? (i := 15) rfl)
theorem kw_473 : Cond.methodLink RL 78 yX4_toSand ∈ wsL_law := kR_20 (List.mem_of_getElem? (i := 16) rfl)
theorem kw_474 : Cond.instanceMethod yX4_toSand ∈ wsL_law := kR_20 (List.mem_of_getElem? (i := 17) rfl)
theorem kw_475 : Cond.selects RX4 yX4_toSand yX4_toSand ∈ wsL_law := kR_20 (List.mem_of_getElem? (i := 18) rfl)
theorem kw_476 : Cond.code yX4_toSand cX4_toSand 4 (some .int) ∈ wsL_law := kR_20 (List.mem_of_getElem? (i := 19) rfl)
theorem kw_477 : Cond.methodLink RX4 139 yX4_sandNow ∈ wsL_law := kR_20 (List.mem_of_getElem? (i := 20) rfl)
theorem kw_478 : Cond.instanceMethod yX4_sandNow ∈ wsL_law := kR_20 (List.mem_of_getElem? (i := 21) rfl)
theorem kw_479 : Cond.selects RX4 yX4_sandNow yX4_sandNow ∈ wsL_law := kR_20 (List.mem_of_getElem? (i := 22) rfl)
theorem kw_480 : Cond.code yX4_sandNow cX4_sandNow 8 (some .int) ∈ wsL_law := kR_20 (List.mem_of_getElem? (i := 23) rfl)
theorem kR_21 {w : Cond} (h : w ∈ wsL_law_r21) : w ∈ wsL_law := (List.mem_append_left _ (List.mem_append_left _ (List.mem_append_left _ (List.mem_append_left _ (List.mem_append_left _ (List.mem_append_left _ (List.mem_append_right _ (List.mem_append_right _ (List.mem_append_right _ (List.mem_append_right _ (List.mem_append_right _ (List.mem_append_right _ (List.mem_append_right _ (List.mem_append_right _ (List.mem_append_right _ (List.mem_append_right _ (List.mem_append_right _ (List.mem_append_right _ (List.mem_append_right _ (List.mem_append_right _ (List.mem_append_right _ (List.mem_append_right _ (List.mem_append_right _ (List.mem_append_right _ (List.mem_append_right _ (List.mem_append_right _ (List.mem_append_left _ h)))))))))))))))))))))))))))
theorem kw_481 : Cond.methodLink RX4 133 yX4_size ∈ wsL_law := kR_21 (List.mem_of_getElem? (i := 0) rfl)
theorem kw_482 : Cond.static yX4_size ∈ wsL_law := kR_21 (List.mem_of_getElem? (i := 1) rfl)
theorem kw_483 : Cond.code yX4_size cX4_size 3 (some .int) ∈ wsL_law := kR_21 (List.mem_of_getElem? (i := 2) rfl)
theorem kw_484 : Cond.methodLink RX4 136 yX4_isDryAt ∈ wsL_law := kR_21 (List.mem_of_getElem? (i := 3) rfl)
theorem kw_485 : Cond.instanceMethod yX4_isDryAt ∈ wsL_law := kR_21 (List.mem_of_getElem? (i := 4) rfl)
theorem kw_486 : Cond.selects RX4 yX4_isDryAt yX4_isDryAt ∈ wsL_law := kR_21 (List.mem_of_getElem? (i := 5) rfl)
theorem kw_487 : Cond.code yX4_isDryAt cX4_isDryAt 5 (some .boolean) ∈ wsL_law := kR_21 (List.mem_of_getElem? (i := 6) rfl)
theorem kw_488 : Cond.methodLink RL 79 yX3_found ∈ wsL_law := kR_21 (List.mem_of_getElem? (i := 7) rfl)
theorem kw_489 : Cond.instanceMethod yX3_found ∈ wsL_law := kR_21 (List.mem_of_getElem? (i := 8) rfl)
theorem kw_490 : Cond.selects RX3 yX3_found yX3_found ∈ wsL_law := kR_21 (List.mem_of_getElem? (i := 9) rfl)
theorem kw_491 : Cond.code yX3_found cX3_found 4 (some .int) ∈ wsL_law := kR_21 (List.mem_of_getElem? (i := 10) rfl)
theorem kw_492 : Cond.methodLink RX3 153 yX1_addFound ∈ wsL_law := kR_21 (List.mem_of_getElem? (i := 11) rfl)
theorem kw_493 : Cond.instanceMethod yX1_addFound ∈ wsL_law := kR_21 (List.mem_of_getElem? (i := 12) rfl)
theorem kw_494 : Cond.selects RX1 yX1_addFound yX1_addFound ∈ wsL_law := kR_21 (List.mem_of_getElem? (i := 13) rfl)
theorem kw_495 : Cond.code yX1_addFound cX1_addFound 4 (some .boolean) ∈ wsL_law := kR_21 (List.mem_of_getElem? (i := 14) rfl)
theorem kw_496 : Cond.methodLink RL 82 yX4_found ∈ wsL_law := kR_21 (List.mem_of_getElem? (i := 15) rfl)
theorem kw_497 : Cond.instanceMethod yX4_found ∈ wsL_law := kR_21 (List.mem_of_getElem? (i := 16) rfl)
theorem kw_498 : Cond.selects RX4 yX4_found yX4_found ∈ wsL_law := kR_21 (List.mem_of_getElem? (i := 17) rfl)
theorem kw_499 : Cond.code yX4_found cX4_found 4 (some .int) ∈ wsL_law := kR_21 (List.mem_of_getElem? (i := 18) rfl)
theorem kw_500 : Cond.methodLink RL 83 yX3_forget ∈ wsL_law := kR_21 (List.mem_of_getElem? (i := 19) rfl)
theorem kw_501 : Cond.instanceMethod yX3_forget ∈ wsL_law := kR_21 (List.mem_of_getElem? (i := 20) rfl)
theorem kw_502 : Cond.selects RX3 yX3_forget yX3_forget ∈ wsL_law := kR_21 (List.mem_of_getElem? (i := 21) rfl)
theorem kw_503 : Cond.code yX3_forget cX3_forget 2 (some .int) ∈ wsL_law := kR_21 (List.mem_of_getElem? (i := 22) rfl)
theorem kw_504 : Cond.methodLink RL 86 yX4_forget ∈ wsL_law := kR_21 (List.mem_of_getElem? (i := 23) rfl)
theorem kR_22 {w : Cond} (h : w ∈ wsL_law_r22) : w ∈ wsL_law := (List.mem_append_left _ (List.mem_append_left _ (List.mem_append_left _ (List.mem_append_left _ (List.mem_append_left _ (List.mem_append_left _ (List.mem_append_right _ (List.mem_append_right _ (List.mem_append_right _ (List.mem_append_right _ (List.mem_append_right _ (List.mem_append_right _ (List.mem_append_right _ (List.mem_append_right _ (List.mem_append_right _ (List.mem_append_right _ (List.mem_append_right _ (List.mem_append_right _ (List.mem_append_right _ (List.mem_append_right _ (List.mem_append_right _ (List.mem_append_right _ (List.mem_append_right _ (List.mem_append_right _ (List.mem_append_right _ (List.mem_append_right _ (List.mem_append_right _ (List.mem_append_left _ h))))))))))))))))))))))))))))
theorem kw_505 : Cond.instanceMethod yX4_forget ∈ wsL_law := kR_22 (List.mem_of_getElem? (i := 0) rfl)
theorem kw_506 : Cond.selects RX4 yX4_forget yX4_forget ∈ wsL_law := kR_22 (List.mem_of_getElem? (i := 1) rfl)
theorem kw_507 : Cond.code yX4_forget cX4_forget 2 (some .int) ∈ wsL_law := kR_22 (List.mem_of_getElem? (i := 2) rfl)
theorem kw_508 : Cond.methodLink RL 87 yX3_look ∈ wsL_law := kR_22 (List.mem_of_getElem? (i := 3) rfl)
theorem kw_509 : Cond.instanceMethod yX3_look ∈ wsL_law := kR_22 (List.mem_of_getElem? (i := 4) rfl)
theorem kw_510 : Cond.selects RX3 yX3_look yX3_look ∈ wsL_law := kR_22 (List.mem_of_getElem? (i := 5) rfl)
theorem kw_511 : Cond.code yX3_look cX3_look 8 (some .int) ∈ wsL_law := kR_22 (List.mem_of_getElem? (i := 6) rfl)
theorem kw_512 : Cond.methodLink RX3 159 yX3_leftAtWorst ∈ wsL_law := kR_22 (List.mem_of_getElem? (i := 7) rfl)
theorem kw_513 : Cond.instanceMethod yX3_leftAtWorst ∈ wsL_law := kR_22 (List.mem_of_getElem? (i := 8) rfl)
theorem kw_514 : Cond.selects RX3 yX3_leftAtWorst yX3_leftAtWorst ∈ wsL_law := kR_22 (List.mem_of_getElem? (i := 9) rfl)
theorem kw_515 : Cond.code yX3_leftAtWorst cX3_leftAtWorst 7 (some .int) ∈ wsL_law := kR_22 (List.mem_of_getElem? (i := 10) rfl)
theorem kw_516 : Cond.methodLink RX3 252 Lib.Math.max.name ∈ wsL_law := kR_22 (List.mem_of_getElem? (i := 11) rfl)
theorem kw_517 : Cond.methodLink RX3 249 yX3_countLike ∈ wsL_law := kR_22 (List.mem_of_getElem? (i := 12) rfl)
theorem kw_518 : Cond.instanceMethod yX3_countLike ∈ wsL_law := kR_22 (List.mem_of_getElem? (i := 13) rfl)
theorem kw_519 : Cond.selects RX3 yX3_countLike yX3_countLike ∈ wsL_law := kR_22 (List.mem_of_getElem? (i := 14) rfl)
theorem kw_520 : Cond.code yX3_countLike cX3_countLike 6 (some .int) ∈ wsL_law := kR_22 (List.mem_of_getElem? (i := 15) rfl)
theorem kw_521 : Cond.methodLink RL 90 yX4_look ∈ wsL_law := kR_22 (List.mem_of_getElem? (i := 16) rfl)
theorem kw_522 : Cond.instanceMethod yX4_look ∈ wsL_law := kR_22 (List.mem_of_getElem? (i := 17) rfl)
theorem kw_523 : Cond.selects RX4 yX4_look yX4_look ∈ wsL_law := kR_22 (List.mem_of_getElem? (i := 18) rfl)
theorem kw_524 : Cond.code yX4_look cX4_look 3 (some .int) ∈ wsL_law := kR_22 (List.mem_of_getElem? (i := 19) rfl)
theorem kw_525 : Cond.methodLink RX4 154 yX4_lookNow ∈ wsL_law := kR_22 (List.mem_of_getElem? (i := 20) rfl)
theorem kw_526 : Cond.instanceMethod yX4_lookNow ∈ wsL_law := kR_22 (List.mem_of_getElem? (i := 21) rfl)
theorem kw_527 : Cond.selects RX4 yX4_lookNow yX4_lookNow ∈ wsL_law := kR_22 (List.mem_of_getElem? (i := 22) rfl)
theorem kw_528 : Cond.code yX4_lookNow cX4_lookNow 8 (some .int) ∈ wsL_law := kR_22 (List.mem_of_getElem? (i := 23) rfl)
theorem kR_23 {w : Cond} (h : w ∈ wsL_law_r23) : w ∈ wsL_law := (List.mem_append_left _ (List.mem_append_left _ (List.mem_append_left _ (List.mem_append_left _ (List.mem_append_left _ (List.mem_append_left _ (List.mem_append_right _ (List.mem_append_right _ (List.mem_append_right _ (List.mem_append_right _ (List.mem_append_right _ (List.mem_append_right _ (List.mem_append_right _ (List.mem_append_right _ (List.mem_append_right _ (List.mem_append_right _ (List.mem_append_right _ (List.mem_append_right _ (List.mem_append_right _ (List.mem_append_right _ (List.mem_append_right _ (List.mem_append_right _ (List.mem_append_right _ (List.mem_append_right _ (List.mem_append_right _ (List.mem_append_right _ (List.mem_append_right _ (List.mem_append_right _ (List.mem_append_left _ h)))))))))))))))))))))))))))))
theorem kw_529 : Cond.constant RX4 146 (268435456) ∈ wsL_law := kR_23 (List.mem_of_getElem? (i := 0) rfl)
theorem kw_530 : Cond.methodLink RX4 147 yX4_layComes ∈ wsL_law := kR_23 (List.mem_of_getElem? (i := 1) rfl)
theorem kw_531 : Cond.instanceMethod yX4_layComes ∈ wsL_law := kR_23 (List.mem_of_getElem? (i := 2) rfl)
theorem kw_532 : Cond.selects RX4 yX4_layComes yX4_layComes ∈ wsL_law := kR_23 (List.mem_of_getElem? (i := 3) rfl)
theorem kw_533 : Cond.code yX4_layComes cX4_layComes 6 none ∈ wsL_law := kR_23 (List.mem_of_getElem? (i := 4) rfl)
theorem kw_534 : Cond.methodLink RX4 151 yX4_worstAt ∈ wsL_law := kR_23 (List.mem_of_getElem? (i := 5) rfl)
theorem kw_535 : Cond.instanceMethod yX4_worstAt ∈ wsL_law := kR_23 (List.mem_of_getElem? (i := 6) rfl)
theorem kw_536 : Cond.selects RX4 yX4_worstAt yX4_worstAt ∈ wsL_law := kR_23 (List.mem_of_getElem? (i := 7) rfl)
theorem kw_537 : Cond.code yX4_worstAt cX4_worstAt 7 (some .int) ∈ wsL_law := kR_23 (List.mem_of_getElem? (i := 8) rfl)
theorem kw_538 : Cond.methodLink RL 91 yX3_years ∈ wsL_law := kR_23 (List.mem_of_getElem? (i := 9) rfl)
theorem kw_539 : Cond.instanceMethod yX3_years ∈ wsL_law := kR_23 (List.mem_of_getElem? (i := 10) rfl)
theorem kw_540 : Cond.selects RX3 yX3_years yX3_years ∈ wsL_law := kR_23 (List.mem_of_getElem? (i := 11) rfl)
theorem kw_541 : Cond.code yX3_years cX3_years 6 (some .int) ∈ wsL_law := kR_23 (List.mem_of_getElem? (i := 12) rfl)
theorem kw_542 : Cond.constant RX3 170 (65536) ∈ wsL_law := kR_23 (List.mem_of_getElem? (i := 13) rfl)
theorem kw_543 : Cond.methodLink RX3 163 yX3_copyRow ∈ wsL_law := kR_23 (List.mem_of_getElem? (i := 14) rfl)
theorem kw_544 : Cond.static yX3_copyRow ∈ wsL_law := kR_23 (List.mem_of_getElem? (i := 15) rfl)
theorem kw_545 : Cond.code yX3_copyRow cX3_copyRow 3 none ∈ wsL_law := kR_23 (List.mem_of_getElem? (i := 16) rfl)
theorem kw_546 : Cond.methodLink RX3 167 yX3_seedAfter ∈ wsL_law := kR_23 (List.mem_of_getElem? (i := 17) rfl)
theorem kw_547 : Cond.static yX3_seedAfter ∈ wsL_law := kR_23 (List.mem_of_getElem? (i := 18) rfl)
theorem kw_548 : Cond.code yX3_seedAfter cX3_seedAfter 1 (some .int) ∈ wsL_law := kR_23 (List.mem_of_getElem? (i := 19) rfl)
theorem kw_549 : Cond.constantLong RX3 255 (1103515245) ∈ wsL_law := kR_23 (List.mem_of_getElem? (i := 20) rfl)
theorem kw_550 : Cond.constantLong RX3 257 (12345) ∈ wsL_law := kR_23 (List.mem_of_getElem? (i := 21) rfl)
theorem kw_551 : Cond.constantLong RX3 259 (2147483648) ∈ wsL_law := kR_23 (List.mem_of_getElem? (i := 22) rfl)
theorem kw_552 : Cond.methodLink RX3 171 yX3_inkIn ∈ wsL_law := kR_23 (List.mem_of_getElem? (i := 23) rfl)
theorem kR_24 {w : Cond} (h : w ∈ wsL_law_r24) : w ∈ wsL_law := (List.mem_append_left _ (List.mem_append_left _ (List.mem_append_left _ (List.mem_append_left _ (List.mem_append_left _ (List.mem_append_left _ (List.mem_append_right _ (List.mem_append_right _ (List.mem_append_right _ (List.mem_append_right _ (List.mem_append_right _ (List.mem_append_right _ (List.mem_append_right _ (List.mem_append_right _ (List.mem_append_right _ (List.mem_append_right _ (List.mem_append_right _ (List.mem_append_right _ (List.mem_append_right _ (List.mem_append_right _ (List.mem_append_right _ (List.mem_append_right _ (List.mem_append_right _ (List.mem_append_right _ (List.mem_append_right _ (List.mem_append_right _ (List.mem_append_right _ (List.mem_append_right _ (List.mem_append_right _ (List.mem_append_left _ h))))))))))))))))))))))))))))))
theorem kw_553 : Cond.static yX3_inkIn ∈ wsL_law := kR_24 (List.mem_of_getElem? (i := 0) rfl)
theorem kw_554 : Cond.code yX3_inkIn cX3_inkIn 3 (some .int) ∈ wsL_law := kR_24 (List.mem_of_getElem? (i := 1) rfl)
theorem kw_555 : Cond.methodLink RX3 175 yX3_dryIn ∈ wsL_law := kR_24 (List.mem_of_getElem? (i := 2) rfl)
theorem kw_556 : Cond.static yX3_dryIn ∈ wsL_law := kR_24 (List.mem_of_getElem? (i := 3) rfl)
theorem kw_557 : Cond.code yX3_dryIn cX3_dryIn 3 (some .int) ∈ wsL_law := kR_24 (List.mem_of_getElem? (i := 4) rfl)
theorem kw_558 : Cond.methodLink RL 94 yX4_years ∈ wsL_law := kR_24 (List.mem_of_getElem? (i := 5) rfl)
theorem kw_559 : Cond.instanceMethod yX4_years ∈ wsL_law := kR_24 (List.mem_of_getElem? (i := 6) rfl)
theorem kw_560 : Cond.selects RX4 yX4_years yX4_years ∈ wsL_law := kR_24 (List.mem_of_getElem? (i := 7) rfl)
theorem kw_561 : Cond.code yX4_years cX4_years 4 (some .int) ∈ wsL_law := kR_24 (List.mem_of_getElem? (i := 8) rfl)
theorem kw_562 : Cond.methodLink RX4 178 yX4_yearsNow ∈ wsL_law := kR_24 (List.mem_of_getElem? (i := 9) rfl)
theorem kw_563 : Cond.instanceMethod yX4_yearsNow ∈ wsL_law := kR_24 (List.mem_of_getElem? (i := 10) rfl)
theorem kw_564 : Cond.selects RX4 yX4_yearsNow yX4_yearsNow ∈ wsL_law := kR_24 (List.mem_of_getElem? (i := 11) rfl)
theorem kw_565 : Cond.code yX4_yearsNow cX4_yearsNow 7 (some .int) ∈ wsL_law := kR_24 (List.mem_of_getElem? (i := 12) rfl)
theorem kw_566 : Cond.fieldLink RX4 159 "BlotLandModel" "seedNow" "J" ∈ wsL_law := kR_24 (List.mem_of_getElem? (i := 13) rfl)
theorem kw_567 : Cond.methodLink RX4 169 yX4_draw ∈ wsL_law := kR_24 (List.mem_of_getElem? (i := 14) rfl)
theorem kw_568 : Cond.instanceMethod yX4_draw ∈ wsL_law := kR_24 (List.mem_of_getElem? (i := 15) rfl)
theorem kw_569 : Cond.selects RX4 yX4_draw yX4_draw ∈ wsL_law := kR_24 (List.mem_of_getElem? (i := 16) rfl)
theorem kw_570 : Cond.code yX4_draw cX4_draw 2 (some .int) ∈ wsL_law := kR_24 (List.mem_of_getElem? (i := 17) rfl)
theorem kw_571 : Cond.constantLong RX4 157 (1103515245) ∈ wsL_law := kR_24 (List.mem_of_getElem? (i := 18) rfl)
theorem kw_572 : Cond.constantLong RX4 163 (12345) ∈ wsL_law := kR_24 (List.mem_of_getElem? (i := 19) rfl)
theorem kw_573 : Cond.constantLong RX4 165 (2147483647) ∈ wsL_law := kR_24 (List.mem_of_getElem? (i := 20) rfl)
theorem kw_574 : Cond.constantLong RX4 167 (65536) ∈ wsL_law := kR_24 (List.mem_of_getElem? (i := 21) rfl)
theorem kw_575 : Cond.methodLink RX4 172 yX4_inkAll ∈ wsL_law := kR_24 (List.mem_of_getElem? (i := 22) rfl)
theorem kw_576 : Cond.instanceMethod yX4_inkAll ∈ wsL_law := kR_24 (List.mem_of_getElem? (i := 23) rfl)
theorem kR_25 {w : Cond} (h : w ∈ wsL_law_r25) : w ∈ wsL_law := (List.mem_append_left _ (List.mem_append_left _ (List.mem_append_left _ (List.mem_append_left _ (List.mem_append_left _ (List.mem_append_left _ (List.mem_append_right _ (List.mem_append_right _ (List.mem_append_right _ (List.mem_append_right _ (List.mem_append_right _ (List.mem_append_right _ (List.mem_append_right _ (List.mem_append_right _ (List.mem_append_right _ (List.mem_append_right _ (List.mem_append_right _ (List.mem_append_right _ (List.mem_append_right _ (List.mem_append_right _ (List.mem_append_right _ (List.mem_append_right _ (List.mem_append_right _ (List.mem_append_right _ (List.mem_append_right _ (List.mem_append_right _ (List.mem_append_right _ (List.mem_append_right _ (List.mem_append_right _ (List.mem_append_right _ (List.mem_append_left _ h)))))))))))))))))))))))))))))))
theorem kw_577 : Cond.selects RX4 yX4_inkAll yX4_inkAll ∈ wsL_law := kR_25 (List.mem_of_getElem? (i := 0) rfl)
theorem kw_578 : Cond.code yX4_inkAll cX4_inkAll 3 (some .int) ∈ wsL_law := kR_25 (List.mem_of_getElem? (i := 1) rfl)
theorem kw_579 : Cond.methodLink RX4 175 yX4_dry ∈ wsL_law := kR_25 (List.mem_of_getElem? (i := 2) rfl)
theorem kw_580 : Cond.instanceMethod yX4_dry ∈ wsL_law := kR_25 (List.mem_of_getElem? (i := 3) rfl)
theorem kw_581 : Cond.selects RX4 yX4_dry yX4_dry ∈ wsL_law := kR_25 (List.mem_of_getElem? (i := 4) rfl)
theorem kw_582 : Cond.code yX4_dry cX4_dry 3 (some .int) ∈ wsL_law := kR_25 (List.mem_of_getElem? (i := 5) rfl)
theorem kw_583 : Cond.methodLink RL 95 yX3_image ∈ wsL_law := kR_25 (List.mem_of_getElem? (i := 6) rfl)
theorem kw_584 : Cond.instanceMethod yX3_image ∈ wsL_law := kR_25 (List.mem_of_getElem? (i := 7) rfl)
theorem kw_585 : Cond.selects RX3 yX3_image yX3_image ∈ wsL_law := kR_25 (List.mem_of_getElem? (i := 8) rfl)
theorem kw_586 : Cond.code yX3_image cX3_image 1 (some .int) ∈ wsL_law := kR_25 (List.mem_of_getElem? (i := 9) rfl)
theorem kw_587 : Cond.methodLink RX3 178 yX1_copyFrom ∈ wsL_law := kR_25 (List.mem_of_getElem? (i := 10) rfl)
theorem kw_588 : Cond.instanceMethod yX1_copyFrom ∈ wsL_law := kR_25 (List.mem_of_getElem? (i := 11) rfl)
theorem kw_589 : Cond.selects RX1 yX1_copyFrom yX1_copyFrom ∈ wsL_law := kR_25 (List.mem_of_getElem? (i := 12) rfl)
theorem kw_590 : Cond.code yX1_copyFrom cX1_copyFrom 2 none ∈ wsL_law := kR_25 (List.mem_of_getElem? (i := 13) rfl)
theorem kw_591 : Cond.methodLink RL 98 yX4_image ∈ wsL_law := kR_25 (List.mem_of_getElem? (i := 14) rfl)
theorem kw_592 : Cond.instanceMethod yX4_image ∈ wsL_law := kR_25 (List.mem_of_getElem? (i := 15) rfl)
theorem kw_593 : Cond.selects RX4 yX4_image yX4_image ∈ wsL_law := kR_25 (List.mem_of_getElem? (i := 16) rfl)
theorem kw_594 : Cond.code yX4_image cX4_image 2 (some .int) ∈ wsL_law := kR_25 (List.mem_of_getElem? (i := 17) rfl)
theorem kw_595 : Cond.fieldLink RX4 181 "BlotLandModel" "isKept" "Z" ∈ wsL_law := kR_25 (List.mem_of_getElem? (i := 18) rfl)
theorem kw_596 : Cond.fieldLink RX4 185 "BlotLandModel" "keptLeaf" "I" ∈ wsL_law := kR_25 (List.mem_of_getElem? (i := 19) rfl)
theorem kw_597 : Cond.fieldLink RX4 188 "BlotLandModel" "keptStrokes" "I" ∈ wsL_law := kR_25 (List.mem_of_getElem? (i := 20) rfl)
theorem kw_598 : Cond.fieldLink RX4 191 "BlotLandModel" "keptSanded" "I" ∈ wsL_law := kR_25 (List.mem_of_getElem? (i := 21) rfl)
theorem kw_599 : Cond.fieldLink RX4 194 "BlotLandModel" "keptEvenings" "I" ∈ wsL_law := kR_25 (List.mem_of_getElem? (i := 22) rfl)
theorem kw_600 : Cond.fieldLink RX4 197 "BlotLandModel" "keptFound" "I" ∈ wsL_law := kR_25 (List.mem_of_getElem? (i := 23) rfl)
theorem kR_26 {w : Cond} (h : w ∈ wsL_law_r26) : w ∈ wsL_law := (List.mem_append_left _ (List.mem_append_left _ (List.mem_append_left _ (List.mem_append_left _ (List.mem_append_left _ (List.mem_append_left _ (List.mem_append_right _ (List.mem_append_right _ (List.mem_append_right _ (List.mem_append_right _ (List.mem_append_right _ (List.mem_append_right _ (List.mem_append_right _ (List.mem_append_right _ (List.mem_append_right _ (List.mem_append_right _ (List.mem_append_right _ (List.mem_append_right _ (List.mem_append_right _ (List.mem_append_right _ (List.mem_append_right _ (List.mem_append_right _ (List.mem_append_right _ (List.mem_append_right _ (List.mem_append_right _ (List.mem_append_right _ (List.mem_append_right _ (List.mem_append_right _ (List.mem_append_right _ (List.mem_append_right _ (List.mem_append_right _ (List.mem_append_left _ h))))))))))))))))))))))))))))))))
theorem kw_601 : Cond.methodLink RL 99 yX3_restore ∈ wsL_law := kR_26 (List.mem_of_getElem? (i := 0) rfl)
theorem kw_602 : Cond.instanceMethod yX3_restore ∈ wsL_law := kR_26 (List.mem_of_getElem? (i := 1) rfl)
theorem kw_603 : Cond.selects RX3 yX3_restore yX3_restore ∈ wsL_law := kR_26 (List.mem_of_getElem? (i := 2) rfl)
theorem kw_604 : Cond.code yX3_restore cX3_restore 1 (some .int) ∈ wsL_law := kR_26 (List.mem_of_getElem? (i := 3) rfl)
theorem kw_605 : Cond.methodLink RL 102 yX4_restore ∈ wsL_law := kR_26 (List.mem_of_getElem? (i := 4) rfl)
theorem kw_606 : Cond.instanceMethod yX4_restore ∈ wsL_law := kR_26 (List.mem_of_getElem? (i := 5) rfl)
theorem kw_607 : Cond.selects RX4 yX4_restore yX4_restore ∈ wsL_law := kR_26 (List.mem_of_getElem? (i := 6) rfl)
theorem kw_608 : Cond.code yX4_restore cX4_restore 2 (some .int) ∈ wsL_law := kR_26 (List.mem_of_getElem? (i := 7) rfl)
theorem kw_609 : Cond.methodLink RL 103 yX3_count ∈ wsL_law := kR_26 (List.mem_of_getElem? (i := 8) rfl)
theorem kw_610 : Cond.instanceMethod yX3_count ∈ wsL_law := kR_26 (List.mem_of_getElem? (i := 9) rfl)
theorem kw_611 : Cond.selects RX3 yX3_count yX3_count ∈ wsL_law := kR_26 (List.mem_of_getElem? (i := 10) rfl)
theorem kw_612 : Cond.code yX3_count cX3_count 2 (some .int) ∈ wsL_law := kR_26 (List.mem_of_getElem? (i := 11) rfl)
theorem kw_613 : Cond.methodLink RL 106 yX4_count ∈ wsL_law := kR_26 (List.mem_of_getElem? (i := 12) rfl)
theorem kw_614 : Cond.instanceMethod yX4_count ∈ wsL_law := kR_26 (List.mem_of_getElem? (i := 13) rfl)
theorem kw_615 : Cond.selects RX4 yX4_count yX4_count ∈ wsL_law := kR_26 (List.mem_of_getElem? (i := 14) rfl)
theorem kw_616 : Cond.code yX4_count cX4_count 2 (some .int) ∈ wsL_law := kR_26 (List.mem_of_getElem? (i := 15) rfl)
theorem kw_617 : Cond.methodLink RX4 200 yX4_howMany ∈ wsL_law := kR_26 (List.mem_of_getElem? (i := 16) rfl)
theorem kw_618 : Cond.instanceMethod yX4_howMany ∈ wsL_law := kR_26 (List.mem_of_getElem? (i := 17) rfl)
theorem kw_619 : Cond.selects RX4 yX4_howMany yX4_howMany ∈ wsL_law := kR_26 (List.mem_of_getElem? (i := 18) rfl)
theorem kw_620 : Cond.code yX4_howMany cX4_howMany 2 (some .int) ∈ wsL_law := kR_26 (List.mem_of_getElem? (i := 19) rfl)
theorem kw_621 : Cond.methodLink RL 107 yX3_digest ∈ wsL_law := kR_26 (List.mem_of_getElem? (i := 20) rfl)
theorem kw_622 : Cond.instanceMethod yX3_digest ∈ wsL_law := kR_26 (List.mem_of_getElem? (i := 21) rfl)
theorem kw_623 : Cond.selects RX3 yX3_digest yX3_digest ∈ wsL_law := kR_26 (List.mem_of_getElem? (i := 22) rfl)
theorem kw_624 : Cond.code yX3_digest cX3_digest 5 (some .long) ∈ wsL_law := kR_26 (List.mem_of_getElem? (i := 23) rfl)
theorem kR_27 {w : Cond} (h : w ∈ wsL_law_r27) : w ∈ wsL_law := (List.mem_append_left _ (List.mem_append_left _ (List.mem_append_left _ (List.mem_append_left _ (List.mem_append_left _ (List.mem_append_left _ (List.mem_append_right _ (List.mem_append_right _ (List.mem_append_right _ (List.mem_append_right _ (List.mem_append_right _ (List.mem_append_right _ (List.mem_append_right _ (List.mem_append_right _ (List.mem_append_right _ (List.mem_append_right _ (List.mem_append_right _ (List.mem_append_right _ (List.mem_append_right _ (List.mem_append_right _ (List.mem_append_right _ (List.mem_append_right _ (List.mem_append_right _ (List.mem_append_right _ (List.mem_append_right _ (List.mem_append_right _ (List.mem_append_right _ (List.mem_append_right _ (List.mem_append_right _ (List.mem_append_right _ (List.mem_append_right _ (List.mem_append_right _ (List.mem_append_left _ h)))))))))))))))))))))))))))))))))
theorem kw_625 : Cond.constantLong RX3 185 (1049) ∈ wsL_law := kR_27 (List.mem_of_getElem? (i := 0) rfl)
theorem kw_626 : Cond.methodLink RX3 187 yX3_about ∈ wsL_law := kR_27 (List.mem_of_getElem? (i := 1) rfl)
theorem kw_627 : Cond.methodLink RX3 190 yX3_mixed ∈ wsL_law := kR_27 (List.mem_of_getElem? (i := 2) rfl)
theorem kw_628 : Cond.static yX3_mixed ∈ wsL_law := kR_27 (List.mem_of_getElem? (i := 3) rfl)
theorem kw_629 : Cond.code yX3_mixed cX3_mixed 4 (some .long) ∈ wsL_law := kR_27 (List.mem_of_getElem? (i := 4) rfl)
theorem kw_630 : Cond.constantLong RX3 223 (31) ∈ wsL_law := kR_27 (List.mem_of_getElem? (i := 5) rfl)
theorem kw_631 : Cond.methodLink RX3 197 yX3_look ∈ wsL_law := kR_27 (List.mem_of_getElem? (i := 6) rfl)
theorem kw_632 : Cond.methodLink RX3 200 yX3_withLand ∈ wsL_law := kR_27 (List.mem_of_getElem? (i := 7) rfl)
theorem kw_633 : Cond.instanceMethod yX3_withLand ∈ wsL_law := kR_27 (List.mem_of_getElem? (i := 8) rfl)
theorem kw_634 : Cond.selects RX3 yX3_withLand yX3_withLand ∈ wsL_law := kR_27 (List.mem_of_getElem? (i := 9) rfl)
theorem kw_635 : Cond.code yX3_withLand cX3_withLand 6 (some .long) ∈ wsL_law := kR_27 (List.mem_of_getElem? (i := 10) rfl)
theorem kw_636 : Cond.methodLink RX3 210 yX3_ink ∈ wsL_law := kR_27 (List.mem_of_getElem? (i := 11) rfl)
theorem kw_637 : Cond.methodLink RX3 213 yX3_comes ∈ wsL_law := kR_27 (List.mem_of_getElem? (i := 12) rfl)
theorem kw_638 : Cond.methodLink RX3 216 yX3_hills ∈ wsL_law := kR_27 (List.mem_of_getElem? (i := 13) rfl)
theorem kw_639 : Cond.methodLink RX3 219 yX3_toSand ∈ wsL_law := kR_27 (List.mem_of_getElem? (i := 14) rfl)
theorem kw_640 : Cond.methodLink RX3 204 yX0_codeAt ∈ wsL_law := kR_27 (List.mem_of_getElem? (i := 15) rfl)
theorem kw_641 : Cond.methodLink RX3 207 yX3_count ∈ wsL_law := kR_27 (List.mem_of_getElem? (i := 16) rfl)
theorem kw_642 : Cond.methodLink RL 111 yX4_digest ∈ wsL_law := kR_27 (List.mem_of_getElem? (i := 17) rfl)
theorem kw_643 : Cond.instanceMethod yX4_digest ∈ wsL_law := kR_27 (List.mem_of_getElem? (i := 18) rfl)
theorem kw_644 : Cond.selects RX4 yX4_digest yX4_digest ∈ wsL_law := kR_27 (List.mem_of_getElem? (i := 19) rfl)
theorem kw_645 : Cond.code yX4_digest cX4_digest 3 (some .long) ∈ wsL_law := kR_27 (List.mem_of_getElem? (i := 20) rfl)
theorem kw_646 : Cond.constantLong RX4 208 (1049) ∈ wsL_law := kR_27 (List.mem_of_getElem? (i := 21) rfl)
theorem kw_647 : Cond.fieldLink RX4 205 "BlotLandModel" "h" "J" ∈ wsL_law := kR_27 (List.mem_of_getElem? (i := 22) rfl)
theorem kw_648 : Cond.methodLink RX4 210 yX4_mix ∈ wsL_law := kR_27 (List.mem_of_getElem? (i := 23) rfl)
theorem kR_28 {w : Cond} (h : w ∈ wsL_law_r28) : w ∈ wsL_law := (List.mem_append_left _ (List.mem_append_left _ (List.mem_append_left _ (List.mem_append_left _ (List.mem_append_left _ (List.mem_append_left _ (List.mem_append_right _ (List.mem_append_right _ (List.mem_append_right _ (List.mem_append_right _ (List.mem_append_right _ (List.mem_append_right _ (List.mem_append_right _ (List.mem_append_right _ (List.mem_append_right _ (List.mem_append_right _ (List.mem_append_right _ (List.mem_append_right _ (List.mem_append_right _ (List.mem_append_right _ (List.mem_append_right _ (List.mem_append_right _ (List.mem_append_right _ (List.mem_append_right _ (List.mem_append_right _ (List.mem_append_right _ (List.mem_append_right _ (List.mem_append_right _ (List.mem_append_right _ (List.mem_append_right _ (List.mem_append_right _ (List.mem_append_right _ (List.mem_append_right _ h)))))))))))))))))))))))))))))))))
theorem kw_649 : Cond.instanceMethod yX4_mix ∈ wsL_law := kR_28 (List.mem_of_getElem? (i := 0) rfl)
theorem kw_650 : Cond.selects RX4 yX4_mix yX4_mix ∈ wsL_law := kR_28 (List.mem_of_getElem? (i := 1) rfl)
theorem kw_651 : Cond.code yX4_mix cX4_mix 3 none ∈ wsL_law := kR_28 (List.mem_of_getElem? (i := 2) rfl)
theorem kw_652 : Cond.constantLong RX4 203 (31) ∈ wsL_law := kR_28 (List.mem_of_getElem? (i := 3) rfl)
