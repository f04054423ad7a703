section
-- ===== PART A: goes FIRST, ahead of the names: the tables' words, and 'selects' of the private methods out of them =====
/-- a private method of a class that the tables say can be made, by its rows of tables_1 -/
def lw_okq (q : MethodName × Nat) : Prop := (q.1.cls ≠ "java/lang/invoke/MethodHandle" ∧ q.1.cls ≠ "java/lang/invoke/VarHandle") ∧ Cond.instantiable q.1.cls q.2 ∈ tables_1 ∧ Cond.privateMethod q.1 ∈ tables_1 ∧ Cond.instanceMethod q.1 ∈ tables_1
theorem lw_p0 : lw_okq (⟨"BlotLand$Page", "canStandAt", "(I)Z"⟩, 2) := ⟨⟨by decide +kernel, by decide +kernel⟩, List.mem_of_getElem? (i := 22) (by decide +kernel), List.mem_of_getElem? (i := 148) (by decide +kernel), List.mem_of_getElem? (i := 149) (by decide +kernel)⟩
theorem lw_p1 : lw_okq (⟨"BlotLand", "isStroke", "(I)Z"⟩, 8) := ⟨⟨by decide +kernel, by decide +kernel⟩, List.mem_of_getElem? (i := 14) (by decide +kernel), List.mem_of_getElem? (i := 276) (by decide +kernel), List.mem_of_getElem? (i := 277) (by decide +kernel)⟩
theorem lw_p2 : lw_okq (⟨"BlotLand", "heavy", "(I)I"⟩, 8) := ⟨⟨by decide +kernel, by decide +kernel⟩, List.mem_of_getElem? (i := 14) (by decide +kernel), List.mem_of_getElem? (i := 284) (by decide +kernel), List.mem_of_getElem? (i := 285) (by decide +kernel)⟩
theorem lw_p3 : lw_okq (⟨"BlotLand", "isAllFoundWith", "(II)Z"⟩, 8) := ⟨⟨by decide +kernel, by decide +kernel⟩, List.mem_of_getElem? (i := 14) (by decide +kernel), List.mem_of_getElem? (i := 288) (by decide +kernel), List.mem_of_getElem? (i := 289) (by decide +kernel)⟩
theorem lw_p4 : lw_okq (⟨"BlotLand", "comesIf", "(IIII)I"⟩, 8) := ⟨⟨by decide +kernel, by decide +kernel⟩, List.mem_of_getElem? (i := 14) (by decide +kernel), List.mem_of_getElem? (i := 292) (by decide +kernel), List.mem_of_getElem? (i := 293) (by decide +kernel)⟩
theorem lw_p5 : lw_okq (⟨"BlotLand", "hasLeaf", "()Z"⟩, 8) := ⟨⟨by decide +kernel, by decide +kernel⟩, List.mem_of_getElem? (i := 14) (by decide +kernel), List.mem_of_getElem? (i := 324) (by decide +kernel), List.mem_of_getElem? (i := 325) (by decide +kernel)⟩
theorem lw_p6 : lw_okq (⟨"BlotLand", "isLand", "(I)Z"⟩, 8) := ⟨⟨by decide +kernel, by decide +kernel⟩, List.mem_of_getElem? (i := 14) (by decide +kernel), List.mem_of_getElem? (i := 347) (by decide +kernel), List.mem_of_getElem? (i := 348) (by decide +kernel)⟩
theorem lw_p7 : lw_okq (⟨"BlotLand", "comesNow", "(II)I"⟩, 8) := ⟨⟨by decide +kernel, by decide +kernel⟩, List.mem_of_getElem? (i := 14) (by decide +kernel), List.mem_of_getElem? (i := 355) (by decide +kernel), List.mem_of_getElem? (i := 356) (by decide +kernel)⟩
theorem lw_p8 : lw_okq (⟨"BlotLand", "pressOff", "([II)I"⟩, 8) := ⟨⟨by decide +kernel, by decide +kernel⟩, List.mem_of_getElem? (i := 14) (by decide +kernel), List.mem_of_getElem? (i := 363) (by decide +kernel), List.mem_of_getElem? (i := 364) (by decide +kernel)⟩
theorem lw_p9 : lw_okq (⟨"BlotLand", "reachesAny", "(III)Z"⟩, 8) := ⟨⟨by decide +kernel, by decide +kernel⟩, List.mem_of_getElem? (i := 14) (by decide +kernel), List.mem_of_getElem? (i := 383) (by decide +kernel), List.mem_of_getElem? (i := 384) (by decide +kernel)⟩
theorem lw_p10 : lw_okq (⟨"BlotLand", "leftAtWorst", "(IIII)I"⟩, 8) := ⟨⟨by decide +kernel, by decide +kernel⟩, List.mem_of_getElem? (i := 14) (by decide +kernel), List.mem_of_getElem? (i := 410) (by decide +kernel), List.mem_of_getElem? (i := 411) (by decide +kernel)⟩
theorem lw_p11 : lw_okq (⟨"BlotLand", "countLike", "(II)I"⟩, 8) := ⟨⟨by decide +kernel, by decide +kernel⟩, List.mem_of_getElem? (i := 14) (by decide +kernel), List.mem_of_getElem? (i := 414) (by decide +kernel), List.mem_of_getElem? (i := 415) (by decide +kernel)⟩
theorem lw_p12 : lw_okq (⟨"BlotLand", "withLand", "(J)J"⟩, 8) := ⟨⟨by decide +kernel, by decide +kernel⟩, List.mem_of_getElem? (i := 14) (by decide +kernel), List.mem_of_getElem? (i := 467) (by decide +kernel), List.mem_of_getElem? (i := 468) (by decide +kernel)⟩
theorem lw_p13 : lw_okq (⟨"BlotLandModel", "faultNow", "()I"⟩, 29) := ⟨⟨by decide +kernel, by decide +kernel⟩, List.mem_of_getElem? (i := 477) (by decide +kernel), List.mem_of_getElem? (i := 586) (by decide +kernel), List.mem_of_getElem? (i := 587) (by decide +kernel)⟩
theorem lw_p14 : lw_okq (⟨"BlotLandModel", "isGood", "(I)Z"⟩, 29) := ⟨⟨by decide +kernel, by decide +kernel⟩, List.mem_of_getElem? (i := 477) (by decide +kernel), List.mem_of_getElem? (i := 590) (by decide +kernel), List.mem_of_getElem? (i := 591) (by decide +kernel)⟩
theorem lw_p15 : lw_okq (⟨"BlotLandModel", "isStroke", "(I)Z"⟩, 29) := ⟨⟨by decide +kernel, by decide +kernel⟩, List.mem_of_getElem? (i := 477) (by decide +kernel), List.mem_of_getElem? (i := 608) (by decide +kernel), List.mem_of_getElem? (i := 609) (by decide +kernel)⟩
def lw_privs_1 : List (MethodName × Nat) := [(⟨"BlotLand$Page", "canStandAt", "(I)Z"⟩, 2), (⟨"BlotLand", "isStroke", "(I)Z"⟩, 8), (⟨"BlotLand", "heavy", "(I)I"⟩, 8), (⟨"BlotLand", "isAllFoundWith", "(II)Z"⟩, 8), (⟨"BlotLand", "comesIf", "(IIII)I"⟩, 8), (⟨"BlotLand", "hasLeaf", "()Z"⟩, 8), (⟨"BlotLand", "isLand", "(I)Z"⟩, 8), (⟨"BlotLand", "comesNow", "(II)I"⟩, 8), (⟨"BlotLand", "pressOff", "([II)I"⟩, 8), (⟨"BlotLand", "reachesAny", "(III)Z"⟩, 8), (⟨"BlotLand", "leftAtWorst", "(IIII)I"⟩, 8), (⟨"BlotLand", "countLike", "(II)I"⟩, 8), (⟨"BlotLand", "withLand", "(J)J"⟩, 8), (⟨"BlotLandModel", "faultNow", "()I"⟩, 29), (⟨"BlotLandModel", "isGood", "(I)Z"⟩, 29), (⟨"BlotLandModel", "isStroke", "(I)Z"⟩, 29)]
theorem lw_r1 : ∀ q ∈ lw_privs_1, lw_okq q := List.forall_mem_cons.mpr ⟨lw_p0, List.forall_mem_cons.mpr ⟨lw_p1, List.forall_mem_cons.mpr ⟨lw_p2, List.forall_mem_cons.mpr ⟨lw_p3, List.forall_mem_cons.mpr ⟨lw_p4, List.forall_mem_cons.mpr ⟨lw_p5, List.forall_mem_cons.mpr ⟨lw_p6, List.forall_mem_cons.mpr ⟨lw_p7, List.forall_mem_cons.mpr ⟨lw_p8, List.forall_mem_cons.mpr ⟨lw_p9, List.forall_mem_cons.mpr ⟨lw_p10, List.forall_mem_cons.mpr ⟨lw_p11, List.forall_mem_cons.mpr ⟨lw_p12, List.forall_mem_cons.mpr ⟨lw_p13, List.forall_mem_cons.mpr ⟨lw_p14, List.forall_mem_cons.mpr ⟨lw_p15, fun _ h => absurd h List.not_mem_nil⟩⟩⟩⟩⟩⟩⟩⟩⟩⟩⟩⟩⟩⟩⟩⟩
theorem lw_p16 : lw_okq (⟨"BlotLandModel", "strokeNow", "(II)I"⟩, 29) := ⟨⟨by decide +kernel, by decide +kernel⟩, List.mem_of_getElem? (i := 477) (by decide +kernel), List.mem_of_getElem? (i := 612) (by decide +kernel), List.mem_of_getElem? (i := 613) (by decide +kernel)⟩
theorem lw_p17 : lw_okq (⟨"BlotLandModel", "heavyOf", "(I)I"⟩, 29) := ⟨⟨by decide +kernel, by decide +kernel⟩, List.mem_of_getElem? (i := 477) (by decide +kernel), List.mem_of_getElem? (i := 616) (by decide +kernel), List.mem_of_getElem? (i := 617) (by decide +kernel)⟩
theorem lw_p18 : lw_okq (⟨"BlotLandModel", "isFound", "()Z"⟩, 29) := ⟨⟨by decide +kernel, by decide +kernel⟩, List.mem_of_getElem? (i := 477) (by decide +kernel), List.mem_of_getElem? (i := 620) (by decide +kernel), List.mem_of_getElem? (i := 621) (by decide +kernel)⟩
theorem lw_p19 : lw_okq (⟨"BlotLandModel", "comesTo", "(II)I"⟩, 29) := ⟨⟨by decide +kernel, by decide +kernel⟩, List.mem_of_getElem? (i := 477) (by decide +kernel), List.mem_of_getElem? (i := 624) (by decide +kernel), List.mem_of_getElem? (i := 625) (by decide +kernel)⟩
theorem lw_p20 : lw_okq (⟨"BlotLandModel", "comesOf", "(III)I"⟩, 29) := ⟨⟨by decide +kernel, by decide +kernel⟩, List.mem_of_getElem? (i := 477) (by decide +kernel), List.mem_of_getElem? (i := 628) (by decide +kernel), List.mem_of_getElem? (i := 629) (by decide +kernel)⟩
theorem lw_p21 : lw_okq (⟨"BlotLandModel", "wetAt", "(II)I"⟩, 29) := ⟨⟨by decide +kernel, by decide +kernel⟩, List.mem_of_getElem? (i := 477) (by decide +kernel), List.mem_of_getElem? (i := 632) (by decide +kernel), List.mem_of_getElem? (i := 633) (by decide +kernel)⟩
theorem lw_p22 : lw_okq (⟨"BlotLandModel", "isCell", "(I)Z"⟩, 29) := ⟨⟨by decide +kernel, by decide +kernel⟩, List.mem_of_getElem? (i := 477) (by decide +kernel), List.mem_of_getElem? (i := 662) (by decide +kernel), List.mem_of_getElem? (i := 663) (by decide +kernel)⟩
theorem lw_p23 : lw_okq (⟨"BlotLandModel", "press", "(I)I"⟩, 29) := ⟨⟨by decide +kernel, by decide +kernel⟩, List.mem_of_getElem? (i := 477) (by decide +kernel), List.mem_of_getElem? (i := 674) (by decide +kernel), List.mem_of_getElem? (i := 675) (by decide +kernel)⟩
theorem lw_p24 : lw_okq (⟨"BlotLandModel", "hillsNow", "(I)I"⟩, 29) := ⟨⟨by decide +kernel, by decide +kernel⟩, List.mem_of_getElem? (i := 477) (by decide +kernel), List.mem_of_getElem? (i := 682) (by decide +kernel), List.mem_of_getElem? (i := 683) (by decide +kernel)⟩
theorem lw_p25 : lw_okq (⟨"BlotLandModel", "closeNow", "(II)I"⟩, 29) := ⟨⟨by decide +kernel, by decide +kernel⟩, List.mem_of_getElem? (i := 477) (by decide +kernel), List.mem_of_getElem? (i := 690) (by decide +kernel), List.mem_of_getElem? (i := 691) (by decide +kernel)⟩
theorem lw_p26 : lw_okq (⟨"BlotLandModel", "sandNow", "(III)I"⟩, 29) := ⟨⟨by decide +kernel, by decide +kernel⟩, List.mem_of_getElem? (i := 477) (by decide +kernel), List.mem_of_getElem? (i := 698) (by decide +kernel), List.mem_of_getElem? (i := 699) (by decide +kernel)⟩
theorem lw_p27 : lw_okq (⟨"BlotLandModel", "isDryAt", "(II)Z"⟩, 29) := ⟨⟨by decide +kernel, by decide +kernel⟩, List.mem_of_getElem? (i := 477) (by decide +kernel), List.mem_of_getElem? (i := 705) (by decide +kernel), List.mem_of_getElem? (i := 706) (by decide +kernel)⟩
theorem lw_p28 : lw_okq (⟨"BlotLandModel", "lookNow", "(II)I"⟩, 29) := ⟨⟨by decide +kernel, by decide +kernel⟩, List.mem_of_getElem? (i := 477) (by decide +kernel), List.mem_of_getElem? (i := 721) (by decide +kernel), List.mem_of_getElem? (i := 722) (by decide +kernel)⟩
theorem lw_p29 : lw_okq (⟨"BlotLandModel", "layComes", "(II)V"⟩, 29) := ⟨⟨by decide +kernel, by decide +kernel⟩, List.mem_of_getElem? (i := 477) (by decide +kernel), List.mem_of_getElem? (i := 726) (by decide +kernel), List.mem_of_getElem? (i := 727) (by decide +kernel)⟩
theorem lw_p30 : lw_okq (⟨"BlotLandModel", "worstAt", "(II)I"⟩, 29) := ⟨⟨by decide +kernel, by decide +kernel⟩, List.mem_of_getElem? (i := 477) (by decide +kernel), List.mem_of_getElem? (i := 730) (by decide +kernel), List.mem_of_getElem? (i := 731) (by decide +kernel)⟩
theorem lw_p31 : lw_okq (⟨"BlotLandModel", "yearsNow", "(III)I"⟩, 29) := ⟨⟨by decide +kernel, by decide +kernel⟩, List.mem_of_getElem? (i := 477) (by decide +kernel), List.mem_of_getElem? (i := 738) (by decide +kernel), List.mem_of_getElem? (i := 739) (by decide +kernel)⟩
def lw_privs_2 : List (MethodName × Nat) := [(⟨"BlotLandModel", "strokeNow", "(II)I"⟩, 29), (⟨"BlotLandModel", "heavyOf", "(I)I"⟩, 29), (⟨"BlotLandModel", "isFound", "()Z"⟩, 29), (⟨"BlotLandModel", "comesTo", "(II)I"⟩, 29), (⟨"BlotLandModel", "comesOf", "(III)I"⟩, 29), (⟨"BlotLandModel", "wetAt", "(II)I"⟩, 29), (⟨"BlotLandModel", "isCell", "(I)Z"⟩, 29), (⟨"BlotLandModel", "press", "(I)I"⟩, 29), (⟨"BlotLandModel", "hillsNow", "(I)I"⟩, 29), (⟨"BlotLandModel", "closeNow", "(II)I"⟩, 29), (⟨"BlotLandModel", "sandNow", "(III)I"⟩, 29), (⟨"BlotLandModel", "isDryAt", "(II)Z"⟩, 29), (⟨"BlotLandModel", "lookNow", "(II)I"⟩, 29), (⟨"BlotLandModel", "layComes", "(II)V"⟩, 29), (⟨"BlotLandModel", "worstAt", "(II)I"⟩, 29), (⟨"BlotLandModel", "yearsNow", "(III)I"⟩, 29)]
theorem lw_r2 : ∀ q ∈ lw_privs_2, lw_okq q := List.forall_mem_cons.mpr ⟨lw_p16, List.forall_mem_cons.mpr ⟨lw_p17, List.forall_mem_cons.mpr ⟨lw_p18, List.forall_mem_cons.mpr ⟨lw_p19, List.forall_mem_cons.mpr ⟨lw_p20, List.forall_mem_cons.mpr ⟨lw_p21, List.forall_mem_cons.mpr ⟨lw_p22, List.forall_mem_cons.mpr ⟨lw_p23, List.forall_mem_cons.mpr ⟨lw_p24, List.forall_mem_cons.mpr ⟨lw_p25, List.forall_mem_cons.mpr ⟨lw_p26, List.forall_mem_cons.mpr ⟨lw_p27, List.forall_mem_cons.mpr ⟨lw_p28, List.forall_mem_cons.mpr ⟨lw_p29, List.forall_mem_cons.mpr ⟨lw_p30, List.forall_mem_cons.mpr ⟨lw_p31, fun _ h => absurd h List.not_mem_nil⟩⟩⟩⟩⟩⟩⟩⟩⟩⟩⟩⟩⟩⟩⟩⟩
theorem lw_p32 : lw_okq (⟨"BlotLandModel", "draw", "(I)I"⟩, 29) := ⟨⟨by decide +kernel, by decide +kernel⟩, List.mem_of_getElem? (i := 477) (by decide +kernel), List.mem_of_getElem? (i := 742) (by decide +kernel), List.mem_of_getElem? (i := 743) (by decide +kernel)⟩
theorem lw_p33 : lw_okq (⟨"BlotLandModel", "inkAll", "()I"⟩, 29) := ⟨⟨by decide +kernel, by decide +kernel⟩, List.mem_of_getElem? (i := 477) (by decide +kernel), List.mem_of_getElem? (i := 750) (by decide +kernel), List.mem_of_getElem? (i := 751) (by decide +kernel)⟩
theorem lw_p34 : lw_okq (⟨"BlotLandModel", "dry", "()I"⟩, 29) := ⟨⟨by decide +kernel, by decide +kernel⟩, List.mem_of_getElem? (i := 477) (by decide +kernel), List.mem_of_getElem? (i := 754) (by decide +kernel), List.mem_of_getElem? (i := 755) (by decide +kernel)⟩
theorem lw_p35 : lw_okq (⟨"BlotLandModel", "howMany", "(I)I"⟩, 29) := ⟨⟨by decide +kernel, by decide +kernel⟩, List.mem_of_getElem? (i := 477) (by decide +kernel), List.mem_of_getElem? (i := 770) (by decide +kernel), List.mem_of_getElem? (i := 771) (by decide +kernel)⟩
theorem lw_p36 : lw_okq (⟨"BlotLandModel", "mix", "(J)V"⟩, 29) := ⟨⟨by decide +kernel, by decide +kernel⟩, List.mem_of_getElem? (i := 477) (by decide +kernel), List.mem_of_getElem? (i := 779) (by decide +kernel), List.mem_of_getElem? (i := 780) (by decide +kernel)⟩
def lw_privs_3 : List (MethodName × Nat) := [(⟨"BlotLandModel", "draw", "(I)I"⟩, 29), (⟨"BlotLandModel", "inkAll", "()I"⟩, 29), (⟨"BlotLandModel", "dry", "()I"⟩, 29), (⟨"BlotLandModel", "howMany", "(I)I"⟩, 29), (⟨"BlotLandModel", "mix", "(J)V"⟩, 29)]
theorem lw_r3 : ∀ q ∈ lw_privs_3, lw_okq q := List.forall_mem_cons.mpr ⟨lw_p32, List.forall_mem_cons.mpr ⟨lw_p33, List.forall_mem_cons.mpr ⟨lw_p34, List.forall_mem_cons.mpr ⟨lw_p35, List.forall_mem_cons.mpr ⟨lw_p36, fun _ h => absurd h List.not_mem_nil⟩⟩⟩⟩⟩
def lw_privs : List (MethodName × Nat) := lw_privs_1 ++ (lw_privs_2 ++ (lw_privs_3))
def lw_tbl : List Cond := k2_sels lw_privs ++ tables_1
theorem lw_privs_ok : ∀ q ∈ lw_privs, lw_okq q := by
  show ∀ q ∈ lw_privs_1 ++ (lw_privs_2 ++ (lw_privs_3)), lw_okq q
  exact List.forall_mem_append.mpr ⟨lw_r1, List.forall_mem_append.mpr ⟨lw_r2, lw_r3⟩⟩
end
section
/-! ===== BEGIN words of one list among another's, by their places ===== -/
/-! ===== END ===== -/

/-! ===== BEGIN printed: names, fields, word lists, decode rows ===== -/
def RX0 : String := "BlotLand$Page"
def TX0 : u_T := fun k => match k with
  | 0 => ("BlotLand$Page", "codes", "[I", true)
  | _ => ("BlotLand$Page", "size", "I", false)
def tyX0 : Nat → FieldType := fun k => match k with
  | 0 => .array .int
  | _ => .int
abbrev wsX00 : List Cond := u_ws RX0 TX0 2
theorem nmX0 : ∀ a, a < 2 → ∀ b, b < 2 → a ≠ b → (TX0 a).2.1 ≠ (TX0 b).2.1 := by decide +kernel
theorem tyX0_ok : ∀ k, k < 2 → parseFieldDescriptor (TX0 k).2.2.1 = some (tyX0 k) := by decide +kernel
abbrev cX0_init : ByteArray := prog_2_method_1_code
def yX0_init : MethodName := ⟨RX0, "<init>", "()V"⟩
abbrev cX0_append : ByteArray := prog_2_method_2_code
def yX0_append : MethodName := ⟨RX0, "append", "(I)Z"⟩
abbrev cX0_codeAt : ByteArray := prog_2_method_3_code
def yX0_codeAt : MethodName := ⟨RX0, "codeAt", "(I)I"⟩
abbrev cX0_digitAt : ByteArray := prog_2_method_4_code
def yX0_digitAt : MethodName := ⟨RX0, "digitAt", "(I)I"⟩
abbrev cX0_kindAt : ByteArray := prog_2_method_5_code
def yX0_kindAt : MethodName := ⟨RX0, "kindAt", "(I)I"⟩
abbrev cX0_isLeaf : ByteArray := prog_2_method_6_code
def yX0_isLeaf : MethodName := ⟨RX0, "isLeaf", "()Z"⟩
abbrev cX0_firstFault : ByteArray := prog_2_method_7_code
def yX0_firstFault : MethodName := ⟨RX0, "firstFault", "()I"⟩
abbrev cX0_canStandAt : ByteArray := prog_2_method_8_code
def yX0_canStandAt : MethodName := ⟨RX0, "canStandAt", "(I)Z"⟩
def RX1 : String := "BlotLand$State"
def TX1 : u_T := fun k => match k with
  | 0 => ("BlotLand$State", "strokes", "I", false)
  | 1 => ("BlotLand$State", "sanded", "I", false)
  | 2 => ("BlotLand$State", "evenings", "I", false)
  | 3 => ("BlotLand$State", "found", "I", false)
  | 4 => ("BlotLand$State", "inkRow", "[I", true)
  | 5 => ("BlotLand$State", "foundCell", "[I", true)
  | 6 => ("BlotLand$State", "foundMinute", "[I", true)
  | _ => ("BlotLand$State", "foundMuch", "[I", true)
def tyX1 : Nat → FieldType := fun k => match k with
  | 0 => .int
  | 1 => .int
  | 2 => .int
  | 3 => .int
  | 4 => .array .int
  | 5 => .array .int
  | 6 => .array .int
  | _ => .array .int
abbrev wsX10 : List Cond := u_ws RX1 TX1 8
theorem nmX1 : ∀ a, a < 8 → ∀ b, b < 8 → a ≠ b → (TX1 a).2.1 ≠ (TX1 b).2.1 := by decide +kernel
theorem tyX1_ok : ∀ k, k < 8 → parseFieldDescriptor (TX1 k).2.2.1 = some (tyX1 k) := by decide +kernel
abbrev cX1_init : ByteArray := prog_3_method_1_code
def yX1_init : MethodName := ⟨RX1, "<init>", "()V"⟩
abbrev cX1_begin : ByteArray := prog_3_method_2_code
def yX1_begin : MethodName := ⟨RX1, "begin", "(I)V"⟩
abbrev cX1_isSanded : ByteArray := prog_3_method_3_code
def yX1_isSanded : MethodName := ⟨RX1, "isSanded", "(I)Z"⟩
abbrev cX1_putSanded : ByteArray := prog_3_method_4_code
def yX1_putSanded : MethodName := ⟨RX1, "putSanded", "(IZ)V"⟩
abbrev cX1_addFound : ByteArray := prog_3_method_5_code
def yX1_addFound : MethodName := ⟨RX1, "addFound", "(III)Z"⟩
abbrev cX1_copyFrom : ByteArray := prog_3_method_6_code
def yX1_copyFrom : MethodName := ⟨RX1, "copyFrom", "(LBlotLand$State;)V"⟩
def RX2 : String := "BlotLand$Stroke"
def TX2 : u_T := fun k => match k with
  | 0 => ("BlotLand$Stroke", "written", "I", true)
  | 1 => ("BlotLand$Stroke", "kind", "I", false)
  | 2 => ("BlotLand$Stroke", "first", "I", false)
  | 3 => ("BlotLand$Stroke", "cells", "I", false)
  | _ => ("BlotLand$Stroke", "press", "I", false)
def tyX2 : Nat → FieldType := fun k => match k with
  | 0 => .int
  | 1 => .int
  | 2 => .int
  | 3 => .int
  | _ => .int
abbrev wsX20 : List Cond := u_ws RX2 TX2 5
theorem nmX2 : ∀ a, a < 5 → ∀ b, b < 5 → a ≠ b → (TX2 a).2.1 ≠ (TX2 b).2.1 := by decide +kernel
theorem tyX2_ok : ∀ k, k < 5 → parseFieldDescriptor (TX2 k).2.2.1 = some (tyX2 k) := by decide +kernel
abbrev cX2_init : ByteArray := prog_4_method_1_code
def yX2_init : MethodName := ⟨RX2, "<init>", "(I)V"⟩
abbrev cX2_become : ByteArray := prog_4_method_2_code
def yX2_become : MethodName := ⟨RX2, "become", "(IIII)V"⟩
abbrev cX2_isA : ByteArray := prog_4_method_3_code
def yX2_isA : MethodName := ⟨RX2, "isA", "(I)Z"⟩
abbrev cX2_wetAt : ByteArray := prog_4_method_4_code
def yX2_wetAt : MethodName := ⟨RX2, "wetAt", "(II)I"⟩
abbrev cX2_givesTo : ByteArray := prog_4_method_5_code
def yX2_givesTo : MethodName := ⟨RX2, "givesTo", "(II)I"⟩
def RX3 : String := "BlotLand"
def TX3 : u_T := fun k => match k with
  | 0 => ("BlotLand", "page", "LBlotLand$Page;", true)
  | 1 => ("BlotLand", "strokes", "[LBlotLand$Stroke;", true)
  | 2 => ("BlotLand", "now", "LBlotLand$State;", true)
  | 3 => ("BlotLand", "kept", "LBlotLand$State;", true)
  | 4 => ("BlotLand", "isKept", "Z", false)
  | 5 => ("BlotLand", "leavesRead", "I", false)
  | 6 => ("BlotLand", "inkOfYears", "[I", true)
  | _ => ("BlotLand", "comesByPress", "[I", true)
def tyX3 : Nat → FieldType := fun k => match k with
  | 0 => .object "BlotLand$Page"
  | 1 => .array (.object "BlotLand$Stroke")
  | 2 => .object "BlotLand$State"
  | 3 => .object "BlotLand$State"
  | 4 => .boolean
  | 5 => .int
  | 6 => .array .int
  | _ => .array .int
abbrev wsX30 : List Cond := u_ws RX3 TX3 8
theorem nmX3 : ∀ a, a < 8 → ∀ b, b < 8 → a ≠ b → (TX3 a).2.1 ≠ (TX3 b).2.1 := by decide +kernel
theorem tyX3_ok : ∀ k, k < 8 → parseFieldDescriptor (TX3 k).2.2.1 = some (tyX3 k) := by decide +kernel
abbrev cX3_init : ByteArray := prog_1_method_1_code
def yX3_init : MethodName := ⟨RX3, "<init>", "()V"⟩
abbrev cX3_letter : ByteArray := prog_1_method_2_code
def yX3_letter : MethodName := ⟨RX3, "letter", "(I)I"⟩
abbrev cX3_blank : ByteArray := prog_1_method_3_code
def yX3_blank : MethodName := ⟨RX3, "blank", "()I"⟩
abbrev cX3_fault : ByteArray := prog_1_method_4_code
def yX3_fault : MethodName := ⟨RX3, "fault", "()I"⟩
abbrev cX3_leaf : ByteArray := prog_1_method_5_code
def yX3_leaf : MethodName := ⟨RX3, "leaf", "()I"⟩
abbrev cX3_about : ByteArray := prog_1_method_6_code
def yX3_about : MethodName := ⟨RX3, "about", "(II)I"⟩
abbrev cX3_as : ByteArray := prog_1_method_7_code
def yX3_as : MethodName := ⟨RX3, "as", "(II)I"⟩
abbrev cX3_write : ByteArray := prog_1_method_8_code
def yX3_write : MethodName := ⟨RX3, "write", "(IIII)I"⟩
abbrev cX3_sand : ByteArray := prog_1_method_9_code
def yX3_sand : MethodName := ⟨RX3, "sand", "(IZ)I"⟩
abbrev cX3_wet : ByteArray := prog_1_method_10_code
def yX3_wet : MethodName := ⟨RX3, "wet", "(II)I"⟩
abbrev cX3_ink : ByteArray := prog_1_method_11_code
def yX3_ink : MethodName := ⟨RX3, "ink", "(I)I"⟩
abbrev cX3_comes : ByteArray := prog_1_method_12_code
def yX3_comes : MethodName := ⟨RX3, "comes", "(II)I"⟩
abbrev cX3_evening : ByteArray := prog_1_method_13_code
def yX3_evening : MethodName := ⟨RX3, "evening", "(I)I"⟩
abbrev cX3_hills : ByteArray := prog_1_method_14_code
def yX3_hills : MethodName := ⟨RX3, "hills", "(I)I"⟩
abbrev cX3_close : ByteArray := prog_1_method_15_code
def yX3_close : MethodName := ⟨RX3, "close", "(II)I"⟩
abbrev cX3_toSand : ByteArray := prog_1_method_16_code
def yX3_toSand : MethodName := ⟨RX3, "toSand", "(III)I"⟩
abbrev cX3_found : ByteArray := prog_1_method_17_code
def yX3_found : MethodName := ⟨RX3, "found", "(III)I"⟩
abbrev cX3_forget : ByteArray := prog_1_method_18_code
def yX3_forget : MethodName := ⟨RX3, "forget", "()I"⟩
abbrev cX3_look : ByteArray := prog_1_method_19_code
def yX3_look : MethodName := ⟨RX3, "look", "(II)I"⟩
abbrev cX3_years : ByteArray := prog_1_method_20_code
def yX3_years : MethodName := ⟨RX3, "years", "(III)I"⟩
abbrev cX3_image : ByteArray := prog_1_method_21_code
def yX3_image : MethodName := ⟨RX3, "image", "()I"⟩
abbrev cX3_restore : ByteArray := prog_1_method_22_code
def yX3_restore : MethodName := ⟨RX3, "restore", "()I"⟩
abbrev cX3_count : ByteArray := prog_1_method_23_code
def yX3_count : MethodName := ⟨RX3, "count", "(I)I"⟩
abbrev cX3_digest : ByteArray := prog_1_method_24_code
def yX3_digest : MethodName := ⟨RX3, "digest", "()J"⟩
abbrev cX3_withLand : ByteArray := prog_1_method_25_code
def yX3_withLand : MethodName := ⟨RX3, "withLand", "(J)J"⟩
abbrev cX3_mixed : ByteArray := prog_1_method_26_code
def yX3_mixed : MethodName := ⟨RX3, "mixed", "(JJ)J"⟩
abbrev cX3_hasLeaf : ByteArray := prog_1_method_27_code
def yX3_hasLeaf : MethodName := ⟨RX3, "hasLeaf", "()Z"⟩
abbrev cX3_isStroke : ByteArray := prog_1_method_28_code
def yX3_isStroke : MethodName := ⟨RX3, "isStroke", "(I)Z"⟩
abbrev cX3_isLand : ByteArray := prog_1_method_29_code
def yX3_isLand : MethodName := ⟨RX3, "isLand", "(I)Z"⟩
abbrev cX3_isCell : ByteArray := prog_1_method_30_code
def yX3_isCell : MethodName := ⟨RX3, "isCell", "(I)Z"⟩
abbrev cX3_isKind : ByteArray := prog_1_method_31_code
def yX3_isKind : MethodName := ⟨RX3, "isKind", "(I)Z"⟩
abbrev cX3_isMinute : ByteArray := prog_1_method_32_code
def yX3_isMinute : MethodName := ⟨RX3, "isMinute", "(I)Z"⟩
abbrev cX3_isMuch : ByteArray := prog_1_method_33_code
def yX3_isMuch : MethodName := ⟨RX3, "isMuch", "(I)Z"⟩
abbrev cX3_comesNow : ByteArray := prog_1_method_34_code
def yX3_comesNow : MethodName := ⟨RX3, "comesNow", "(II)I"⟩
abbrev cX3_comesIf : ByteArray := prog_1_method_35_code
def yX3_comesIf : MethodName := ⟨RX3, "comesIf", "(IIII)I"⟩
abbrev cX3_pressOff : ByteArray := prog_1_method_36_code
def yX3_pressOff : MethodName := ⟨RX3, "pressOff", "([II)I"⟩
abbrev cX3_reachesAny : ByteArray := prog_1_method_37_code
def yX3_reachesAny : MethodName := ⟨RX3, "reachesAny", "(III)Z"⟩
abbrev cX3_heavy : ByteArray := prog_1_method_38_code
def yX3_heavy : MethodName := ⟨RX3, "heavy", "(I)I"⟩
abbrev cX3_isAllFoundWith : ByteArray := prog_1_method_39_code
def yX3_isAllFoundWith : MethodName := ⟨RX3, "isAllFoundWith", "(II)Z"⟩
abbrev cX3_leftAtWorst : ByteArray := prog_1_method_40_code
def yX3_leftAtWorst : MethodName := ⟨RX3, "leftAtWorst", "(IIII)I"⟩
abbrev cX3_countLike : ByteArray := prog_1_method_41_code
def yX3_countLike : MethodName := ⟨RX3, "countLike", "(II)I"⟩
abbrev cX3_seedAfter : ByteArray := prog_1_method_42_code
def yX3_seedAfter : MethodName := ⟨RX3, "seedAfter", "(I)I"⟩
abbrev cX3_inkIn : ByteArray := prog_1_method_43_code
def yX3_inkIn : MethodName := ⟨RX3, "inkIn", "([I)I"⟩
abbrev cX3_dryIn : ByteArray := prog_1_method_44_code
def yX3_dryIn : MethodName := ⟨RX3, "dryIn", "([I)I"⟩
abbrev cX3_copyRow : ByteArray := prog_1_method_45_code
def yX3_copyRow : MethodName := ⟨RX3, "copyRow", "([I[I)V"⟩
def RX4 : String := "BlotLandModel"
def TX4 : u_T := fun k => match k with
  | 0 => ("BlotLandModel", "leaves", "I", false)
  | 1 => ("BlotLandModel", "strokes", "I", false)
  | 2 => ("BlotLandModel", "kindOf", "[I", true)
  | 3 => ("BlotLandModel", "beginsOf", "[I", true)
  | 4 => ("BlotLandModel", "longOf", "[I", true)
  | 5 => ("BlotLandModel", "pressOf", "[I", true)
  | 6 => ("BlotLandModel", "sanded", "I", false)
  | 7 => ("BlotLandModel", "inkOf", "[I", true)
  | 8 => ("BlotLandModel", "evenings", "I", false)
  | 9 => ("BlotLandModel", "found", "I", false)
  | 10 => ("BlotLandModel", "foundCell", "[I", true)
  | 11 => ("BlotLandModel", "foundMinute", "[I", true)
  | 12 => ("BlotLandModel", "foundMuch", "[I", true)
  | 13 => ("BlotLandModel", "pageLength", "I", false)
  | 14 => ("BlotLandModel", "page", "[B", true)
  | 15 => ("BlotLandModel", "comesBy", "[I", true)
  | 16 => ("BlotLandModel", "seedNow", "J", false)
  | 17 => ("BlotLandModel", "savedInk", "[I", true)
  | 18 => ("BlotLandModel", "isKept", "Z", false)
  | 19 => ("BlotLandModel", "keptLeaf", "I", false)
  | 20 => ("BlotLandModel", "keptStrokes", "I", false)
  | 21 => ("BlotLandModel", "keptSanded", "I", false)
  | 22 => ("BlotLandModel", "keptEvenings", "I", false)
  | 23 => ("BlotLandModel", "keptFound", "I", false)
  | 24 => ("BlotLandModel", "keptInk", "[I", true)
  | 25 => ("BlotLandModel", "keptCell", "[I", true)
  | 26 => ("BlotLandModel", "keptMinute", "[I", true)
  | 27 => ("BlotLandModel", "keptMuch", "[I", true)
  | _ => ("BlotLandModel", "h", "J", false)
def tyX4 : Nat → FieldType := fun k => match k with
  | 0 => .int
  | 1 => .int
  | 2 => .array .int
  | 3 => .array .int
  | 4 => .array .int
  | 5 => .array .int
  | 6 => .int
  | 7 => .array .int
  | 8 => .int
  | 9 => .int
  | 10 => .array .int
  | 11 => .array .int
  | 12 => .array .int
  | 13 => .int
  | 14 => .array .byte
  | 15 => .array .int
  | 16 => .long
  | 17 => .array .int
  | 18 => .boolean
  | 19 => .int
  | 20 => .int
  | 21 => .int
  | 22 => .int
  | 23 => .int
  | 24 => .array .int
  | 25 => .array .int
  | 26 => .array .int
  | 27 => .array .int
  | _ => .long
abbrev wsX40 : List Cond := u_ws RX4 TX4 29
theorem nmX4 : ∀ a, a < 29 → ∀ b, b < 29 → a ≠ b → (TX4 a).2.1 ≠ (TX4 b).2.1 := by decide +kernel
theorem tyX4_ok : ∀ k, k < 29 → parseFieldDescriptor (TX4 k).2.2.1 = some (tyX4 k) := by decide +kernel
abbrev cX4_init : ByteArray := prog_6_method_1_code
def yX4_init : MethodName := ⟨RX4, "<init>", "()V"⟩
abbrev cX4_within : ByteArray := prog_6_method_3_code
def yX4_within : MethodName := ⟨RX4, "within", "(III)Z"⟩
abbrev cX4_isIn : ByteArray := prog_6_method_4_code
def yX4_isIn : MethodName := ⟨RX4, "isIn", "(II)Z"⟩
abbrev cX4_size : ByteArray := prog_6_method_5_code
def yX4_size : MethodName := ⟨RX4, "size", "(I)I"⟩
abbrev cX4_letter : ByteArray := prog_6_method_6_code
def yX4_letter : MethodName := ⟨RX4, "letter", "(I)I"⟩
abbrev cX4_blank : ByteArray := prog_6_method_7_code
def yX4_blank : MethodName := ⟨RX4, "blank", "()I"⟩
abbrev cX4_kindBy : ByteArray := prog_6_method_8_code
def yX4_kindBy : MethodName := ⟨RX4, "kindBy", "(I)I"⟩
abbrev cX4_isGood : ByteArray := prog_6_method_9_code
def yX4_isGood : MethodName := ⟨RX4, "isGood", "(I)Z"⟩
abbrev cX4_faultNow : ByteArray := prog_6_method_10_code
def yX4_faultNow : MethodName := ⟨RX4, "faultNow", "()I"⟩
abbrev cX4_fault : ByteArray := prog_6_method_11_code
def yX4_fault : MethodName := ⟨RX4, "fault", "()I"⟩
abbrev cX4_longAt : ByteArray := prog_6_method_12_code
def yX4_longAt : MethodName := ⟨RX4, "longAt", "(II)I"⟩
abbrev cX4_leaf : ByteArray := prog_6_method_13_code
def yX4_leaf : MethodName := ⟨RX4, "leaf", "()I"⟩
abbrev cX4_isStroke : ByteArray := prog_6_method_14_code
def yX4_isStroke : MethodName := ⟨RX4, "isStroke", "(I)Z"⟩
abbrev cX4_isCell : ByteArray := prog_6_method_15_code
def yX4_isCell : MethodName := ⟨RX4, "isCell", "(I)Z"⟩
abbrev cX4_isMinute : ByteArray := prog_6_method_16_code
def yX4_isMinute : MethodName := ⟨RX4, "isMinute", "(I)Z"⟩
abbrev cX4_wetAt : ByteArray := prog_6_method_17_code
def yX4_wetAt : MethodName := ⟨RX4, "wetAt", "(II)I"⟩
abbrev cX4_comesOf : ByteArray := prog_6_method_18_code
def yX4_comesOf : MethodName := ⟨RX4, "comesOf", "(III)I"⟩
abbrev cX4_comesTo : ByteArray := prog_6_method_19_code
def yX4_comesTo : MethodName := ⟨RX4, "comesTo", "(II)I"⟩
abbrev cX4_strokeNow : ByteArray := prog_6_method_20_code
def yX4_strokeNow : MethodName := ⟨RX4, "strokeNow", "(II)I"⟩
abbrev cX4_about : ByteArray := prog_6_method_21_code
def yX4_about : MethodName := ⟨RX4, "about", "(II)I"⟩
abbrev cX4_as : ByteArray := prog_6_method_22_code
def yX4_as : MethodName := ⟨RX4, "as", "(II)I"⟩
abbrev cX4_write : ByteArray := prog_6_method_23_code
def yX4_write : MethodName := ⟨RX4, "write", "(IIII)I"⟩
abbrev cX4_sand : ByteArray := prog_6_method_24_code
def yX4_sand : MethodName := ⟨RX4, "sand", "(IZ)I"⟩
abbrev cX4_wet : ByteArray := prog_6_method_25_code
def yX4_wet : MethodName := ⟨RX4, "wet", "(II)I"⟩
abbrev cX4_ink : ByteArray := prog_6_method_26_code
def yX4_ink : MethodName := ⟨RX4, "ink", "(I)I"⟩
abbrev cX4_comes : ByteArray := prog_6_method_27_code
def yX4_comes : MethodName := ⟨RX4, "comes", "(II)I"⟩
abbrev cX4_press : ByteArray := prog_6_method_28_code
def yX4_press : MethodName := ⟨RX4, "press", "(I)I"⟩
abbrev cX4_evening : ByteArray := prog_6_method_29_code
def yX4_evening : MethodName := ⟨RX4, "evening", "(I)I"⟩
abbrev cX4_hillsNow : ByteArray := prog_6_method_30_code
def yX4_hillsNow : MethodName := ⟨RX4, "hillsNow", "(I)I"⟩
abbrev cX4_hills : ByteArray := prog_6_method_31_code
def yX4_hills : MethodName := ⟨RX4, "hills", "(I)I"⟩
abbrev cX4_closeNow : ByteArray := prog_6_method_32_code
def yX4_closeNow : MethodName := ⟨RX4, "closeNow", "(II)I"⟩
abbrev cX4_close : ByteArray := prog_6_method_33_code
def yX4_close : MethodName := ⟨RX4, "close", "(II)I"⟩
abbrev cX4_isDryAt : ByteArray := prog_6_method_34_code
def yX4_isDryAt : MethodName := ⟨RX4, "isDryAt", "(II)Z"⟩
abbrev cX4_sandNow : ByteArray := prog_6_method_35_code
def yX4_sandNow : MethodName := ⟨RX4, "sandNow", "(III)I"⟩
abbrev cX4_toSand : ByteArray := prog_6_method_36_code
def yX4_toSand : MethodName := ⟨RX4, "toSand", "(III)I"⟩
abbrev cX4_found : ByteArray := prog_6_method_37_code
def yX4_found : MethodName := ⟨RX4, "found", "(III)I"⟩
abbrev cX4_forget : ByteArray := prog_6_method_38_code
def yX4_forget : MethodName := ⟨RX4, "forget", "()I"⟩
abbrev cX4_isFound : ByteArray := prog_6_method_39_code
def yX4_isFound : MethodName := ⟨RX4, "isFound", "()Z"⟩
abbrev cX4_heavyOf : ByteArray := prog_6_method_40_code
def yX4_heavyOf : MethodName := ⟨RX4, "heavyOf", "(I)I"⟩
abbrev cX4_layComes : ByteArray := prog_6_method_41_code
def yX4_layComes : MethodName := ⟨RX4, "layComes", "(II)V"⟩
abbrev cX4_worstAt : ByteArray := prog_6_method_42_code
def yX4_worstAt : MethodName := ⟨RX4, "worstAt", "(II)I"⟩
abbrev cX4_lookNow : ByteArray := prog_6_method_43_code
def yX4_lookNow : MethodName := ⟨RX4, "lookNow", "(II)I"⟩
abbrev cX4_look : ByteArray := prog_6_method_44_code
def yX4_look : MethodName := ⟨RX4, "look", "(II)I"⟩
abbrev cX4_draw : ByteArray := prog_6_method_45_code
def yX4_draw : MethodName := ⟨RX4, "draw", "(I)I"⟩
abbrev cX4_inkAll : ByteArray := prog_6_method_46_code
def yX4_inkAll : MethodName := ⟨RX4, "inkAll", "()I"⟩
abbrev cX4_dry : ByteArray := prog_6_method_47_code
def yX4_dry : MethodName := ⟨RX4, "dry", "()I"⟩
abbrev cX4_yearsNow : ByteArray := prog_6_method_48_code
def yX4_yearsNow : MethodName := ⟨RX4, "yearsNow", "(III)I"⟩
abbrev cX4_years : ByteArray := prog_6_method_49_code
def yX4_years : MethodName := ⟨RX4, "years", "(III)I"⟩
abbrev cX4_image : ByteArray := prog_6_method_50_code
def yX4_image : MethodName := ⟨RX4, "image", "()I"⟩
abbrev cX4_restore : ByteArray := prog_6_method_51_code
def yX4_restore : MethodName := ⟨RX4, "restore", "()I"⟩
abbrev cX4_howMany : ByteArray := prog_6_method_52_code
def yX4_howMany : MethodName := ⟨RX4, "howMany", "(I)I"⟩
abbrev cX4_count : ByteArray := prog_6_method_53_code
def yX4_count : MethodName := ⟨RX4, "count", "(I)I"⟩
abbrev cX4_mix : ByteArray := prog_6_method_54_code
def yX4_mix : MethodName := ⟨RX4, "mix", "(J)V"⟩
abbrev cX4_digest : ByteArray := prog_6_method_55_code
def yX4_digest : MethodName := ⟨RX4, "digest", "()J"⟩
def RJ11 : String := "java/lang/Character"
def TJ11 : u_T := fun k => match k with
  | _ => ("", "", "", false)
def tyJ11 : Nat → FieldType := fun k => match k with
  | _ => .int
abbrev cJ11_isValidCodePoint_9a6ad : ByteArray := prog_7_method_11_code
def yJ11_isValidCodePoint_9a6ad : MethodName := ⟨RJ11, "isValidCodePoint", "(I)Z"⟩
abbrev cJ11_highSurrogate_5068e : ByteArray := prog_7_method_28_code
def yJ11_highSurrogate_5068e : MethodName := ⟨RJ11, "highSurrogate", "(I)C"⟩
abbrev cJ11_lowSurrogate_5068e : ByteArray := prog_7_method_29_code
def yJ11_lowSurrogate_5068e : MethodName := ⟨RJ11, "lowSurrogate", "(I)C"⟩
def RJ6 : String := "java/lang/Integer"
def TJ6 : u_T := fun k => match k with
  | _ => ("", "", "", false)
def tyJ6 : Nat → FieldType := fun k => match k with
  | _ => .int
abbrev cJ6_bitCount_0f7a4 : ByteArray := prog_8_method_49_code
def yJ6_bitCount_0f7a4 : MethodName := ⟨RJ6, "bitCount", "(I)I"⟩
def RJ9 : String := "java/lang/Math"
def TJ9 : u_T := fun k => match k with
  | _ => ("", "", "", false)
def tyJ9 : Nat → FieldType := fun k => match k with
  | _ => .int
abbrev cJ9_max_7cf53 : ByteArray := prog_9_method_65_code
def yJ9_max_7cf53 : MethodName := ⟨RJ9, "max", "(II)I"⟩
abbrev cJ9_min_7cf53 : ByteArray := prog_9_method_69_code
def yJ9_min_7cf53 : MethodName := ⟨RJ9, "min", "(II)I"⟩
def RJ0 : String := "java/lang/String"
def TJ0 : u_T := fun k => match k with
  | _ => ("", "", "", false)
def tyJ0 : Nat → FieldType := fun k => match k with
  | _ => .int
abbrev cJ0_length_8abf5 : ByteArray := prog_10_method_54_code
def yJ0_length_8abf5 : MethodName := ⟨RJ0, "length", "()I"⟩
abbrev cJ0_indexOf_0f7a4 : ByteArray := prog_10_method_79_code
def yJ0_indexOf_0f7a4 : MethodName := ⟨RJ0, "indexOf", "(I)I"⟩
abbrev cJ0_indexOf_7cf53 : ByteArray := prog_10_method_80_code
def yJ0_indexOf_7cf53 : MethodName := ⟨RJ0, "indexOf", "(II)I"⟩
abbrev cJ0_coder_7d493 : ByteArray := prog_10_method_152_code
def yJ0_coder_7d493 : MethodName := ⟨RJ0, "coder", "()B"⟩
abbrev cJ0_isLatin1_aae02 : ByteArray := prog_10_method_154_code
def yJ0_isLatin1_aae02 : MethodName := ⟨RJ0, "isLatin1", "()Z"⟩
abbrev cJ0_checkBoundsBeginEnd_23922 : ByteArray := prog_10_method_158_code
def yJ0_checkBoundsBeginEnd_23922 : MethodName := ⟨RJ0, "checkBoundsBeginEnd", "(III)V"⟩
def RJ1 : String := "java/lang/StringLatin1"
def TJ1 : u_T := fun k => match k with
  | _ => ("", "", "", false)
def tyJ1 : Nat → FieldType := fun k => match k with
  | _ => .int
abbrev cJ1_canEncode_9a6ad : ByteArray := prog_11_method_4_code
def yJ1_canEncode_9a6ad : MethodName := ⟨RJ1, "canEncode", "(I)Z"⟩
abbrev cJ1_indexOf_4cfef : ByteArray := prog_11_method_22_code
def yJ1_indexOf_4cfef : MethodName := ⟨RJ1, "indexOf", "([BIII)I"⟩
abbrev cJ1_indexOfChar_4cfef : ByteArray := prog_11_method_23_code
def yJ1_indexOfChar_4cfef : MethodName := ⟨RJ1, "indexOfChar", "([BIII)I"⟩
def RJ2 : String := "java/lang/StringUTF16"
def TJ2 : u_T := fun k => match k with
  | _ => ("", "", "", false)
def tyJ2 : Nat → FieldType := fun k => match k with
  | _ => .int
abbrev cJ2_getChar_3b067 : ByteArray := prog_12_method_5_code
def yJ2_getChar_3b067 : MethodName := ⟨RJ2, "getChar", "([BI)C"⟩
abbrev cJ2_length_9d52b : ByteArray := prog_12_method_6_code
def yJ2_length_9d52b : MethodName := ⟨RJ2, "length", "([B)I"⟩
abbrev cJ2_indexOf_4cfef : ByteArray := prog_12_method_40_code
def yJ2_indexOf_4cfef : MethodName := ⟨RJ2, "indexOf", "([BIII)I"⟩
abbrev cJ2_indexOfChar_4cfef : ByteArray := prog_12_method_47_code
def yJ2_indexOfChar_4cfef : MethodName := ⟨RJ2, "indexOfChar", "([BIII)I"⟩
abbrev cJ2_indexOfCharUnsafe_4cfef : ByteArray := prog_12_method_48_code
def yJ2_indexOfCharUnsafe_4cfef : MethodName := ⟨RJ2, "indexOfCharUnsafe", "([BIII)I"⟩
abbrev cJ2_indexOfSupplementary_4cfef : ByteArray := prog_12_method_49_code
def yJ2_indexOfSupplementary_4cfef : MethodName := ⟨RJ2, "indexOfSupplementary", "([BIII)I"⟩
abbrev cJ2_checkBoundsBeginEnd_d044e : ByteArray := prog_12_method_93_code
def yJ2_checkBoundsBeginEnd_d044e : MethodName := ⟨RJ2, "checkBoundsBeginEnd", "(II[B)V"⟩
def RJ3 : String := "jdk/internal/util/Preconditions"
def TJ3 : u_T := fun k => match k with
  | _ => ("", "", "", false)
def tyJ3 : Nat → FieldType := fun k => match k with
  | _ => .int
abbrev cJ3_checkFromToIndex_8c36e : ByteArray := prog_13_method_12_code
def yJ3_checkFromToIndex_8c36e : MethodName := ⟨RJ3, "checkFromToIndex", "(IIILjava/util/function/BiFunction;)I"⟩
def RL : String := "BlotLandLaw"
abbrev cL_law : ByteArray := code
def yL_law : MethodName := ⟨RL, "law", "([I)Z"⟩
abbrev vwCl : List vw_C := [(RX0, TX0, 2), (RX1, TX1, 8), (RX2, TX2, 5), (RX3, TX3, 8), (RX4, TX4, 29)]

/-- every word of the tables that is kept -/
def wsG : List Cond := lw_tbl.filter goodWord
theorem wsG_tbl : ∀ w ∈ wsG, w ∈ lw_tbl := fun _ h => (List.mem_filter.mp h).1
theorem wsG_good : ∀ w ∈ wsG, goodWord w = true := fun _ h => (List.mem_filter.mp h).2
theorem kT_1 {w : Cond} (h : w ∈ tables_1_1) (g : goodWord w = true) : w ∈ wsG := List.mem_filter.mpr ⟨List.mem_append_right _ (List.mem_append_left _ h), g⟩
theorem kT_2 {w : Cond} (h : w ∈ tables_1_2) (g : goodWord w = true) : w ∈ wsG := List.mem_filter.mpr ⟨List.mem_append_right _ (List.mem_append_right _ (List.mem_append_left _ h)), g⟩
theorem kT_3 {w : Cond} (h : w ∈ tables_1_3) (g : goodWord w = true) : w ∈ wsG := List.mem_filter.mpr ⟨List.mem_append_right _ (List.mem_append_right _ (List.mem_append_right _ (List.mem_append_left _ h))), g⟩
theorem kT_4 {w : Cond} (h : w ∈ tables_1_4) (g : goodWord w = true) : w ∈ wsG := List.mem_filter.mpr ⟨List.mem_append_right _ (List.mem_append_right _ (List.mem_append_right _ (List.mem_append_right _ h))), g⟩
theorem kP_1 {q : MethodName × Nat} (h : q ∈ lw_privs_1) (g : goodWord (Cond.selects q.1.cls q.1 q.1) = true) : Cond.selects q.1.cls q.1 q.1 ∈ wsG := List.mem_filter.mpr ⟨List.mem_append_left _ (List.mem_map.mpr ⟨q, (List.mem_append_left _ h), rfl⟩), g⟩
theorem kP_2 {q : MethodName × Nat} (h : q ∈ lw_privs_2) (g : goodWord (Cond.selects q.1.cls q.1 q.1) = true) : Cond.selects q.1.cls q.1 q.1 ∈ wsG := List.mem_filter.mpr ⟨List.mem_append_left _ (List.mem_map.mpr ⟨q, (List.mem_append_right _ (List.mem_append_left _ h)), rfl⟩), g⟩
theorem kP_3 {q : MethodName × Nat} (h : q ∈ lw_privs_3) (g : goodWord (Cond.selects q.1.cls q.1 q.1) = true) : Cond.selects q.1.cls q.1 q.1 ∈ wsG := List.mem_filter.mpr ⟨List.mem_append_left _ (List.mem_map.mpr ⟨q, (List.mem_append_right _ (List.mem_append_right _ h)), rfl⟩), g⟩
theorem kw_1 : Cond.classLink RL 7 RX3 ∈ wsG := kT_1 (List.mem_of_getElem? (i := 13) rfl) rfl
theorem kw_2 : Cond.instantiable RX3 8 ∈ wsG := kT_1 (List.mem_of_getElem? (i := 14) rfl) rfl
theorem kw_3 : Cond.initialized RX3 ∈ wsG := kT_1 (List.mem_of_getElem? (i := 1) rfl) rfl
theorem kw_4 : Cond.classLink RL 10 RX4 ∈ wsG := kT_2 (List.mem_of_getElem? (i := 236) rfl) rfl
theorem kw_5 : Cond.instantiable RX4 29 ∈ wsG := kT_2 (List.mem_of_getElem? (i := 237) rfl) rfl
theorem kw_6 : Cond.initialized RX4 ∈ wsG := kT_1 (List.mem_of_getElem? (i := 5) rfl) rfl
theorem kw_7 : Cond.methodLink RL 9 yX3_init ∈ wsG := kT_1 (List.mem_of_getElem? (i := 15) rfl) rfl
theorem kw_8 : Cond.instanceMethod yX3_init ∈ wsG := kT_1 (List.mem_of_getElem? (i := 16) rfl) rfl
theorem kw_9 : Cond.code yX3_init cX3_init 2 none ∈ wsG := kT_1 (List.mem_of_getElem? (i := 17) rfl) rfl
theorem kw_10 : Cond.methodLink RX3 1 objectInit ∈ wsG := kT_1 (List.mem_of_getElem? (i := 18) rfl) rfl
theorem kw_11 : Cond.instanceMethod objectInit ∈ wsG := kT_1 (List.mem_of_getElem? (i := 19) rfl) rfl
theorem kw_12 : Cond.classLink RX3 7 RX0 ∈ wsG := kT_1 (List.mem_of_getElem? (i := 21) rfl) rfl
theorem kw_13 : Cond.instantiable RX0 2 ∈ wsG := kT_1 (List.mem_of_getElem? (i := 22) rfl) rfl
theorem kw_14 : Cond.initialized RX0 ∈ wsG := kT_1 (List.mem_of_getElem? (i := 2) rfl) rfl
theorem kw_15 : Cond.fieldLink RX3 10 "BlotLand" "page" "LBlotLand$Page;" ∈ wsG := kT_1 (List.mem_of_getElem? (i := 102) rfl) rfl
theorem kw_16 : Cond.classLink RX3 16 RX2 ∈ wsG := kT_1 (List.mem_of_getElem? (i := 36) rfl) rfl
theorem kw_17 : Cond.fieldLink RX3 18 "BlotLand" "strokes" "[LBlotLand$Stroke;" ∈ wsG := kT_1 (List.mem_of_getElem? (i := 103) rfl) rfl
theorem kw_18 : Cond.classLink RX3 22 RX1 ∈ wsG := kT_1 (List.mem_of_getElem? (i := 38) rfl) rfl
theorem kw_19 : Cond.instantiable RX1 8 ∈ wsG := kT_1 (List.mem_of_getElem? (i := 39) rfl) rfl
theorem kw_20 : Cond.initialized RX1 ∈ wsG := kT_1 (List.mem_of_getElem? (i := 3) rfl) rfl
theorem kw_21 : Cond.fieldLink RX3 25 "BlotLand" "now" "LBlotLand$State;" ∈ wsG := kT_1 (List.mem_of_getElem? (i := 104) rfl) rfl
theorem kw_22 : Cond.fieldLink RX3 29 "BlotLand" "kept" "LBlotLand$State;" ∈ wsG := kT_1 (List.mem_of_getElem? (i := 105) rfl) rfl
theorem kw_23 : Cond.fieldLink RX3 32 "BlotLand" "isKept" "Z" ∈ wsG := kT_1 (List.mem_of_getElem? (i := 106) rfl) rfl
theorem kw_24 : Cond.fieldLink RX3 36 "BlotLand" "leavesRead" "I" ∈ wsG := kT_1 (List.mem_of_getElem? (i := 107) rfl) rfl
theorem kw_25 : Cond.arrayClass .int ∈ wsG := kT_1 (List.mem_of_getElem? (i := 35) rfl) rfl
theorem kw_26 : Cond.fieldLink RX3 40 "BlotLand" "inkOfYears" "[I" ∈ wsG := kT_1 (List.mem_of_getElem? (i := 108) rfl) rfl
theorem kw_27 : Cond.fieldLink RX3 44 "BlotLand" "comesByPress" "[I" ∈ wsG := kT_1 (List.mem_of_getElem? (i := 109) rfl) rfl
theorem kw_28 : Cond.instantiable RX2 5 ∈ wsG := kT_1 (List.mem_of_getElem? (i := 77) rfl) rfl
theorem kw_29 : Cond.initialized RX2 ∈ wsG := kT_1 (List.mem_of_getElem? (i := 4) rfl) rfl
theorem kw_30 : Cond.instanceMethod yX0_init ∈ wsG := kT_1 (List.mem_of_getElem? (i := 24) rfl) rfl
theorem kw_31 : Cond.code yX0_init cX0_init 1 none ∈ wsG := kT_1 (List.mem_of_getElem? (i := 25) rfl) rfl
theorem kw_32 : Cond.methodLink RX0 3 objectInit ∈ wsG := kT_1 (List.mem_of_getElem? (i := 26) rfl) rfl
theorem kw_33 : Cond.fieldLink RX0 9 "BlotLand$Page" "codes" "[I" ∈ wsG := kT_1 (List.mem_of_getElem? (i := 27) rfl) rfl
theorem kw_34 : Cond.fieldLink RX0 15 "BlotLand$Page" "size" "I" ∈ wsG := kT_1 (List.mem_of_getElem? (i := 28) rfl) rfl
theorem kw_35 : Cond.instanceMethod yX1_init ∈ wsG := kT_1 (List.mem_of_getElem? (i := 41) rfl) rfl
theorem kw_36 : Cond.code yX1_init cX1_init 1 none ∈ wsG := kT_1 (List.mem_of_getElem? (i := 42) rfl) rfl
theorem kw_37 : Cond.methodLink RX1 3 objectInit ∈ wsG := kT_1 (List.mem_of_getElem? (i := 43) rfl) rfl
theorem kw_38 : Cond.fieldLink RX1 9 "BlotLand$State" "strokes" "I" ∈ wsG := kT_1 (List.mem_of_getElem? (i := 44) rfl) rfl
theorem kw_39 : Cond.fieldLink RX1 15 "BlotLand$State" "sanded" "I" ∈ wsG := kT_1 (List.mem_of_getElem? (i := 46) rfl) rfl
theorem kw_40 : Cond.fieldLink RX1 18 "BlotLand$State" "evenings" "I" ∈ wsG := kT_1 (List.mem_of_getElem? (i := 48) rfl) rfl
theorem kw_41 : Cond.fieldLink RX1 21 "BlotLand$State" "found" "I" ∈ wsG := kT_1 (List.mem_of_getElem? (i := 50) rfl) rfl
theorem kw_42 : Cond.fieldLink RX1 24 "BlotLand$State" "inkRow" "[I" ∈ wsG := kT_1 (List.mem_of_getElem? (i := 52) rfl) rfl
theorem kw_43 : Cond.fieldLink RX1 28 "BlotLand$State" "foundCell" "[I" ∈ wsG := kT_1 (List.mem_of_getElem? (i := 54) rfl) rfl
theorem kw_44 : Cond.fieldLink RX1 31 "BlotLand$State" "foundMinute" "[I" ∈ wsG := kT_1 (List.mem_of_getElem? (i := 56) rfl) rfl
theorem kw_45 : Cond.fieldLink RX1 34 "BlotLand$State" "foundMuch" "[I" ∈ wsG := kT_1 (List.mem_of_getElem? (i := 58) rfl) rfl
theorem kw_46 : Cond.methodLink RX3 47 yX2_init ∈ wsG := kT_1 (List.mem_of_getElem? (i := 78) rfl) rfl
theorem kw_47 : Cond.instanceMethod yX2_init ∈ wsG := kT_1 (List.mem_of_getElem? (i := 79) rfl) rfl
theorem kw_48 : Cond.code yX2_init cX2_init 2 none ∈ wsG := kT_1 (List.mem_of_getElem? (i := 80) rfl) rfl
theorem kw_49 : Cond.methodLink RX2 3 objectInit ∈ wsG := kT_1 (List.mem_of_getElem? (i := 81) rfl) rfl
theorem kw_50 : Cond.fieldLink RX2 9 "BlotLand$Stroke" "kind" "I" ∈ wsG := kT_1 (List.mem_of_getElem? (i := 83) rfl) rfl
theorem kw_51 : Cond.fieldLink RX2 15 "BlotLand$Stroke" "first" "I" ∈ wsG := kT_1 (List.mem_of_getElem? (i := 85) rfl) rfl
theorem kw_52 : Cond.fieldLink RX2 18 "BlotLand$Stroke" "cells" "I" ∈ wsG := kT_1 (List.mem_of_getElem? (i := 87) rfl) rfl
theorem kw_53 : Cond.fieldLink RX2 21 "BlotLand$Stroke" "press" "I" ∈ wsG := kT_1 (List.mem_of_getElem? (i := 89) rfl) rfl
theorem kw_54 : Cond.fieldLink RX2 24 "BlotLand$Stroke" "written" "I" ∈ wsG := kT_1 (List.mem_of_getElem? (i := 82) rfl) rfl
theorem kw_55 : Cond.methodLink RL 12 yX4_init ∈ wsG := kT_2 (List.mem_of_getElem? (i := 238) rfl) rfl
theorem kw_56 : Cond.instanceMethod yX4_init ∈ wsG := kT_2 (List.mem_of_getElem? (i := 239) rfl) rfl
theorem kw_57 : Cond.code yX4_init cX4_init 1 none ∈ wsG := kT_3 (List.mem_of_getElem? (i := 0) rfl) rfl
theorem kw_58 : Cond.methodLink RX4 1 objectInit ∈ wsG := kT_3 (List.mem_of_getElem? (i := 1) rfl) rfl
theorem kw_59 : Cond.fieldLink RX4 7 "BlotLandModel" "kindOf" "[I" ∈ wsG := kT_3 (List.mem_of_getElem? (i := 4) rfl) rfl
theorem kw_60 : Cond.fieldLink RX4 13 "BlotLandModel" "beginsOf" "[I" ∈ wsG := kT_3 (List.mem_of_getElem? (i := 5) rfl) rfl
theorem kw_61 : Cond.fieldLink RX4 16 "BlotLandModel" "longOf" "[I" ∈ wsG := kT_3 (List.mem_of_getElem? (i := 6) rfl) rfl
theorem kw_62 : Cond.fieldLink RX4 19 "BlotLandModel" "pressOf" "[I" ∈ wsG := kT_3 (List.mem_of_getElem? (i := 7) rfl) rfl
theorem kw_63 : Cond.fieldLink RX4 22 "BlotLandModel" "inkOf" "[I" ∈ wsG := kT_3 (List.mem_of_getElem? (i := 9) rfl) rfl
theorem kw_64 : Cond.fieldLink RX4 25 "BlotLandModel" "foundCell" "[I" ∈ wsG := kT_3 (List.mem_of_getElem? (i := 12) rfl) rfl
theorem kw_65 : Cond.fieldLink RX4 28 "BlotLandModel" "foundMinute" "[I" ∈ wsG := kT_3 (List.mem_of_getElem? (i := 13) rfl) rfl
theorem kw_66 : Cond.fieldLink RX4 31 "BlotLandModel" "foundMuch" "[I" ∈ wsG := kT_3 (List.mem_of_getElem? (i := 14) rfl) rfl
theorem kw_67 : Cond.arrayClass .byte ∈ wsG := kT_2 (List.mem_of_getElem? (i := 10) rfl) rfl
theorem kw_68 : Cond.fieldLink RX4 34 "BlotLandModel" "page" "[B" ∈ wsG := kT_3 (List.mem_of_getElem? (i := 16) rfl) rfl
theorem kw_69 : Cond.fieldLink RX4 38 "BlotLandModel" "comesBy" "[I" ∈ wsG := kT_3 (List.mem_of_getElem? (i := 17) rfl) rfl
theorem kw_70 : Cond.fieldLink RX4 41 "BlotLandModel" "savedInk" "[I" ∈ wsG := kT_3 (List.mem_of_getElem? (i := 19) rfl) rfl
theorem kw_71 : Cond.fieldLink RX4 44 "BlotLandModel" "keptInk" "[I" ∈ wsG := kT_3 (List.mem_of_getElem? (i := 26) rfl) rfl
theorem kw_72 : Cond.fieldLink RX4 47 "BlotLandModel" "keptCell" "[I" ∈ wsG := kT_3 (List.mem_of_getElem? (i := 27) rfl) rfl
theorem kw_73 : Cond.fieldLink RX4 50 "BlotLandModel" "keptMinute" "[I" ∈ wsG := kT_3 (List.mem_of_getElem? (i := 28) rfl) rfl
theorem kw_74 : Cond.fieldLink RX4 53 "BlotLandModel" "keptMuch" "[I" ∈ wsG := kT_3 (List.mem_of_getElem? (i := 29) rfl) rfl
theorem kw_75 : Cond.methodLink RL 13 yX3_letter ∈ wsG := kT_1 (List.mem_of_getElem? (i := 127) rfl) rfl
theorem kw_76 : Cond.instanceMethod yX3_letter ∈ wsG := kT_1 (List.mem_of_getElem? (i := 128) rfl) rfl
theorem kw_77 : Cond.selects RX3 yX3_letter yX3_letter ∈ wsG := kT_1 (List.mem_of_getElem? (i := 129) rfl) rfl
theorem kw_78 : Cond.code yX3_letter cX3_letter 2 (some .int) ∈ wsG := kT_1 (List.mem_of_getElem? (i := 130) rfl) rfl
theorem kw_79 : Cond.methodLink RX3 50 yX0_append ∈ wsG := kT_1 (List.mem_of_getElem? (i := 131) rfl) rfl
theorem kw_80 : Cond.instanceMethod yX0_append ∈ wsG := kT_1 (List.mem_of_getElem? (i := 132) rfl) rfl
theorem kw_81 : Cond.selects RX0 yX0_append yX0_append ∈ wsG := kT_1 (List.mem_of_getElem? (i := 133) rfl) rfl
theorem kw_82 : Cond.code yX0_append cX0_append 2 (some .boolean) ∈ wsG := kT_1 (List.mem_of_getElem? (i := 134) rfl) rfl
theorem kw_83 : Cond.methodLink RL 17 yX4_letter ∈ wsG := kT_3 (List.mem_of_getElem? (i := 90) rfl) rfl
theorem kw_84 : Cond.instanceMethod yX4_letter ∈ wsG := kT_3 (List.mem_of_getElem? (i := 91) rfl) rfl
theorem kw_85 : Cond.selects RX4 yX4_letter yX4_letter ∈ wsG := kT_3 (List.mem_of_getElem? (i := 92) rfl) rfl
theorem kw_86 : Cond.code yX4_letter cX4_letter 2 (some .int) ∈ wsG := kT_3 (List.mem_of_getElem? (i := 93) rfl) rfl
theorem kw_87 : Cond.fieldLink RX4 60 "BlotLandModel" "pageLength" "I" ∈ wsG := kT_3 (List.mem_of_getElem? (i := 15) rfl) rfl
theorem kw_88 : Cond.methodLink RX4 56 yX4_within ∈ wsG := kT_3 (List.mem_of_getElem? (i := 94) rfl) rfl
theorem kw_89 : Cond.static yX4_within ∈ wsG := kT_3 (List.mem_of_getElem? (i := 95) rfl) rfl
theorem kw_90 : Cond.code yX4_within cX4_within 3 (some .boolean) ∈ wsG := kT_3 (List.mem_of_getElem? (i := 96) rfl) rfl
theorem kw_91 : Cond.methodLink RL 18 yX3_blank ∈ wsG := kT_1 (List.mem_of_getElem? (i := 135) rfl) rfl
theorem kw_92 : Cond.instanceMethod yX3_blank ∈ wsG := kT_1 (List.mem_of_getElem? (i := 136) rfl) rfl
theorem kw_93 : Cond.selects RX3 yX3_blank yX3_blank ∈ wsG := kT_1 (List.mem_of_getElem? (i := 137) rfl) rfl
theorem kw_94 : Cond.code yX3_blank cX3_blank 2 (some .int) ∈ wsG := kT_1 (List.mem_of_getElem? (i := 138) rfl) rfl
theorem kw_95 : Cond.methodLink RL 22 yX4_blank ∈ wsG := kT_3 (List.mem_of_getElem? (i := 97) rfl) rfl
theorem kw_96 : Cond.instanceMethod yX4_blank ∈ wsG := kT_3 (List.mem_of_getElem? (i := 98) rfl) rfl
theorem kw_97 : Cond.selects RX4 yX4_blank yX4_blank ∈ wsG := kT_3 (List.mem_of_getElem? (i := 99) rfl) rfl
theorem kw_98 : Cond.code yX4_blank cX4_blank 2 (some .int) ∈ wsG := kT_3 (List.mem_of_getElem? (i := 100) rfl) rfl
theorem kw_99 : Cond.methodLink RL 23 yX3_fault ∈ wsG := kT_1 (List.mem_of_getElem? (i := 139) rfl) rfl
theorem kw_100 : Cond.instanceMethod yX3_fault ∈ wsG := kT_1 (List.mem_of_getElem? (i := 140) rfl) rfl
theorem kw_101 : Cond.selects RX3 yX3_fault yX3_fault ∈ wsG := kT_1 (List.mem_of_getElem? (i := 141) rfl) rfl
theorem kw_102 : Cond.code yX3_fault cX3_fault 1 (some .int) ∈ wsG := kT_1 (List.mem_of_getElem? (i := 142) rfl) rfl
theorem kw_103 : Cond.methodLink RX3 57 yX0_firstFault ∈ wsG := kT_1 (List.mem_of_getElem? (i := 143) rfl) rfl
theorem kw_104 : Cond.instanceMethod yX0_firstFault ∈ wsG := kT_1 (List.mem_of_getElem? (i := 144) rfl) rfl
theorem kw_105 : Cond.selects RX0 yX0_firstFault yX0_firstFault ∈ wsG := kT_1 (List.mem_of_getElem? (i := 145) rfl) rfl
theorem kw_106 : Cond.code yX0_firstFault cX0_firstFault 2 (some .int) ∈ wsG := kT_1 (List.mem_of_getElem? (i := 146) rfl) rfl
theorem kw_107 : Cond.methodLink RX0 34 yX0_canStandAt ∈ wsG := kT_1 (List.mem_of_getElem? (i := 147) rfl) rfl
theorem kw_108 : Cond.instanceMethod yX0_canStandAt ∈ wsG := kT_1 (List.mem_of_getElem? (i := 149) rfl) rfl
theorem kw_109 : Cond.selects RX0 yX0_canStandAt yX0_canStandAt ∈ wsG := kP_1 (List.mem_of_getElem? (i := 0) rfl) rfl
theorem kw_110 : Cond.code yX0_canStandAt cX0_canStandAt 3 (some .boolean) ∈ wsG := kT_1 (List.mem_of_getElem? (i := 150) rfl) rfl
theorem kw_111 : Cond.methodLink RX0 38 yX0_digitAt ∈ wsG := kT_1 (List.mem_of_getElem? (i := 151) rfl) rfl
theorem kw_112 : Cond.instanceMethod yX0_digitAt ∈ wsG := kT_1 (List.mem_of_getElem? (i := 152) rfl) rfl
theorem kw_113 : Cond.selects RX0 yX0_digitAt yX0_digitAt ∈ wsG := kT_1 (List.mem_of_getElem? (i := 153) rfl) rfl
theorem kw_114 : Cond.code yX0_digitAt cX0_digitAt 2 (some .int) ∈ wsG := kT_1 (List.mem_of_getElem? (i := 154) rfl) rfl
theorem kw_115 : Cond.methodLink RX0 19 yX0_codeAt ∈ wsG := kT_1 (List.mem_of_getElem? (i := 155) rfl) rfl
theorem kw_116 : Cond.instanceMethod yX0_codeAt ∈ wsG := kT_1 (List.mem_of_getElem? (i := 156) rfl) rfl
theorem kw_117 : Cond.selects RX0 yX0_codeAt yX0_codeAt ∈ wsG := kT_1 (List.mem_of_getElem? (i := 157) rfl) rfl
theorem kw_118 : Cond.code yX0_codeAt cX0_codeAt 2 (some .int) ∈ wsG := kT_1 (List.mem_of_getElem? (i := 158) rfl) rfl
theorem kw_119 : Cond.methodLink RX0 41 yX0_kindAt ∈ wsG := kT_1 (List.mem_of_getElem? (i := 159) rfl) rfl
theorem kw_120 : Cond.instanceMethod yX0_kindAt ∈ wsG := kT_1 (List.mem_of_getElem? (i := 160) rfl) rfl
theorem kw_121 : Cond.selects RX0 yX0_kindAt yX0_kindAt ∈ wsG := kT_1 (List.mem_of_getElem? (i := 161) rfl) rfl
theorem kw_122 : Cond.code yX0_kindAt cX0_kindAt 2 (some .int) ∈ wsG := kT_1 (List.mem_of_getElem? (i := 162) rfl) rfl
theorem kw_123 : Cond.methodLink RX0 25 yJ0_indexOf_0f7a4 ∈ wsG := kT_1 (List.mem_of_getElem? (i := 164) rfl) rfl
theorem kw_124 : Cond.instanceMethod yJ0_indexOf_0f7a4 ∈ wsG := kT_1 (List.mem_of_getElem? (i := 165) rfl) rfl
theorem kw_125 : Cond.selects RJ0 yJ0_indexOf_0f7a4 yJ0_indexOf_0f7a4 ∈ wsG := kT_1 (List.mem_of_getElem? (i := 166) rfl) rfl
theorem kw_126 : Cond.initialized RJ0 ∈ wsG := kT_1 (List.mem_of_getElem? (i := 6) rfl) rfl
theorem kw_127 : Cond.code yJ0_indexOf_0f7a4 cJ0_indexOf_0f7a4 2 (some .int) ∈ wsG := kT_1 (List.mem_of_getElem? (i := 167) rfl) rfl
theorem kw_128 : Cond.methodLink RJ0 633 yJ0_indexOf_7cf53 ∈ wsG := kT_1 (List.mem_of_getElem? (i := 168) rfl) rfl
theorem kw_129 : Cond.instanceMethod yJ0_indexOf_7cf53 ∈ wsG := kT_1 (List.mem_of_getElem? (i := 169) rfl) rfl
theorem kw_130 : Cond.selects RJ0 yJ0_indexOf_7cf53 yJ0_indexOf_7cf53 ∈ wsG := kT_1 (List.mem_of_getElem? (i := 170) rfl) rfl
theorem kw_131 : Cond.code yJ0_indexOf_7cf53 cJ0_indexOf_7cf53 3 (some .int) ∈ wsG := kT_1 (List.mem_of_getElem? (i := 171) rfl) rfl
theorem kw_132 : Cond.fieldLink RJ0 9 "java/lang/String" "value" "[B" ∈ wsG := kT_4 (List.mem_of_getElem? (i := 64) rfl) rfl
theorem kw_133 : Cond.methodLink RJ0 492 yJ0_isLatin1_aae02 ∈ wsG := kT_1 (List.mem_of_getElem? (i := 172) rfl) rfl
theorem kw_134 : Cond.instanceMethod yJ0_isLatin1_aae02 ∈ wsG := kT_1 (List.mem_of_getElem? (i := 173) rfl) rfl
theorem kw_135 : Cond.selects RJ0 yJ0_isLatin1_aae02 yJ0_isLatin1_aae02 ∈ wsG := kT_1 (List.mem_of_getElem? (i := 174) rfl) rfl
theorem kw_136 : Cond.code yJ0_isLatin1_aae02 cJ0_isLatin1_aae02 1 (some .boolean) ∈ wsG := kT_1 (List.mem_of_getElem? (i := 175) rfl) rfl
theorem kw_137 : Cond.fieldLink RJ0 38 "java/lang/String" "COMPACT_STRINGS" "Z" ∈ wsG := kT_1 (List.mem_of_getElem? (i := 176) rfl) rfl
theorem kw_138 : Cond.fieldLink RJ0 15 "java/lang/String" "coder" "B" ∈ wsG := kT_4 (List.mem_of_getElem? (i := 63) rfl) rfl
theorem kw_139 : Cond.methodLink RJ0 505 yJ0_length_8abf5 ∈ wsG := kT_1 (List.mem_of_getElem? (i := 178) rfl) rfl
theorem kw_140 : Cond.instanceMethod yJ0_length_8abf5 ∈ wsG := kT_1 (List.mem_of_getElem? (i := 179) rfl) rfl
theorem kw_141 : Cond.selects RJ0 yJ0_length_8abf5 yJ0_length_8abf5 ∈ wsG := kT_1 (List.mem_of_getElem? (i := 180) rfl) rfl
theorem kw_142 : Cond.code yJ0_length_8abf5 cJ0_length_8abf5 1 (some .int) ∈ wsG := kT_1 (List.mem_of_getElem? (i := 181) rfl) rfl
theorem kw_143 : Cond.methodLink RJ0 335 yJ0_coder_7d493 ∈ wsG := kT_1 (List.mem_of_getElem? (i := 182) rfl) rfl
theorem kw_144 : Cond.instanceMethod yJ0_coder_7d493 ∈ wsG := kT_1 (List.mem_of_getElem? (i := 183) rfl) rfl
theorem kw_145 : Cond.selects RJ0 yJ0_coder_7d493 yJ0_coder_7d493 ∈ wsG := kT_1 (List.mem_of_getElem? (i := 184) rfl) rfl
theorem kw_146 : Cond.code yJ0_coder_7d493 cJ0_coder_7d493 1 (some .byte) ∈ wsG := kT_1 (List.mem_of_getElem? (i := 185) rfl) rfl
theorem kw_147 : Cond.methodLink RJ0 637 yJ1_indexOf_4cfef ∈ wsG := kT_1 (List.mem_of_getElem? (i := 186) rfl) rfl
theorem kw_148 : Cond.static yJ1_indexOf_4cfef ∈ wsG := kT_1 (List.mem_of_getElem? (i := 187) rfl) rfl
theorem kw_149 : Cond.initialized RJ1 ∈ wsG := kT_1 (List.mem_of_getElem? (i := 7) rfl) rfl
theorem kw_150 : Cond.code yJ1_indexOf_4cfef cJ1_indexOf_4cfef 4 (some .int) ∈ wsG := kT_1 (List.mem_of_getElem? (i := 188) rfl) rfl
theorem kw_151 : Cond.methodLink RJ1 92 Lib.Math.max.name ∈ wsG := kT_1 (List.mem_of_getElem? (i := 192) rfl) rfl
theorem kw_152 : Cond.static Lib.Math.max.name ∈ wsG := kT_1 (List.mem_of_getElem? (i := 193) rfl) rfl
theorem kw_153 : Cond.initialized "java/lang/Math" ∈ wsG := kT_1 (List.mem_of_getElem? (i := 8) rfl) rfl
theorem kw_154 : Cond.code Lib.Math.max.name Lib.Math.max.code 2 (some .int) ∈ wsG := kT_1 (List.mem_of_getElem? (i := 194) rfl) rfl
theorem kw_155 : Cond.methodLink RJ1 38 Lib.Math.min.name ∈ wsG := kT_1 (List.mem_of_getElem? (i := 195) rfl) rfl
theorem kw_156 : Cond.static Lib.Math.min.name ∈ wsG := kT_1 (List.mem_of_getElem? (i := 196) rfl) rfl
theorem kw_157 : Cond.code Lib.Math.min.name Lib.Math.min.code 2 (some .int) ∈ wsG := kT_1 (List.mem_of_getElem? (i := 197) rfl) rfl
theorem kw_158 : Cond.methodLink RJ1 88 yJ1_canEncode_9a6ad ∈ wsG := kT_1 (List.mem_of_getElem? (i := 189) rfl) rfl
theorem kw_159 : Cond.static yJ1_canEncode_9a6ad ∈ wsG := kT_1 (List.mem_of_getElem? (i := 190) rfl) rfl
theorem kw_160 : Cond.code yJ1_canEncode_9a6ad cJ1_canEncode_9a6ad 1 (some .boolean) ∈ wsG := kT_1 (List.mem_of_getElem? (i := 191) rfl) rfl
theorem kw_161 : Cond.methodLink RJ1 95 yJ1_indexOfChar_4cfef ∈ wsG := kT_1 (List.mem_of_getElem? (i := 198) rfl) rfl
theorem kw_162 : Cond.static yJ1_indexOfChar_4cfef ∈ wsG := kT_1 (List.mem_of_getElem? (i := 199) rfl) rfl
theorem kw_163 : Cond.code yJ1_indexOfChar_4cfef cJ1_indexOfChar_4cfef 6 (some .int) ∈ wsG := kT_1 (List.mem_of_getElem? (i := 200) rfl) rfl
theorem kw_164 : Cond.methodLink RJ0 640 yJ2_indexOf_4cfef ∈ wsG := kT_1 (List.mem_of_getElem? (i := 201) rfl) rfl
theorem kw_165 : Cond.static yJ2_indexOf_4cfef ∈ wsG := kT_1 (List.mem_of_getElem? (i := 202) rfl) rfl
theorem kw_166 : Cond.initialized RJ2 ∈ wsG := kT_1 (List.mem_of_getElem? (i := 9) rfl) rfl
theorem kw_167 : Cond.code yJ2_indexOf_4cfef cJ2_indexOf_4cfef 4 (some .int) ∈ wsG := kT_1 (List.mem_of_getElem? (i := 203) rfl) rfl
theorem kw_168 : Cond.methodLink RJ2 224 Lib.Math.max.name ∈ wsG := kT_1 (List.mem_of_getElem? (i := 204) rfl) rfl
theorem kw_169 : Cond.methodLink RJ2 183 Lib.Math.min.name ∈ wsG := kT_1 (List.mem_of_getElem? (i := 205) rfl) rfl
theorem kw_170 : Cond.constant RJ2 227 (65536) ∈ wsG := kT_1 (List.mem_of_getElem? (i := 206) rfl) rfl
theorem kw_171 : Cond.methodLink RJ2 228 yJ2_indexOfChar_4cfef ∈ wsG := kT_1 (List.mem_of_getElem? (i := 207) rfl) rfl
theorem kw_172 : Cond.static yJ2_indexOfChar_4cfef ∈ wsG := kT_1 (List.mem_of_getElem? (i := 208) rfl) rfl
theorem kw_173 : Cond.code yJ2_indexOfChar_4cfef cJ2_indexOfChar_4cfef 4 (some .int) ∈ wsG := kT_1 (List.mem_of_getElem? (i := 209) rfl) rfl
theorem kw_174 : Cond.methodLink RJ2 96 yJ2_checkBoundsBeginEnd_d044e ∈ wsG := kT_1 (List.mem_of_getElem? (i := 210) rfl) rfl
theorem kw_175 : Cond.static yJ2_checkBoundsBeginEnd_d044e ∈ wsG := kT_1 (List.mem_of_getElem? (i := 211) rfl) rfl
theorem kw_176 : Cond.code yJ2_checkBoundsBeginEnd_d044e cJ2_checkBoundsBeginEnd_d044e 3 none ∈ wsG := kT_1 (List.mem_of_getElem? (i := 212) rfl) rfl
theorem kw_177 : Cond.methodLink RJ2 48 yJ2_length_9d52b ∈ wsG := kT_1 (List.mem_of_getElem? (i := 213) rfl) rfl
theorem kw_178 : Cond.static yJ2_length_9d52b ∈ wsG := kT_1 (List.mem_of_getElem? (i := 214) rfl) rfl
theorem kw_179 : Cond.code yJ2_length_9d52b cJ2_length_9d52b 1 (some .int) ∈ wsG := kT_1 (List.mem_of_getElem? (i := 215) rfl) rfl
theorem kw_180 : Cond.methodLink RJ2 241 yJ0_checkBoundsBeginEnd_23922 ∈ wsG := kT_1 (List.mem_of_getElem? (i := 216) rfl) rfl
theorem kw_181 : Cond.static yJ0_checkBoundsBeginEnd_23922 ∈ wsG := kT_1 (List.mem_of_getElem? (i := 217) rfl) rfl
theorem kw_182 : Cond.code yJ0_checkBoundsBeginEnd_23922 cJ0_checkBoundsBeginEnd_23922 3 none ∈ wsG := kT_1 (List.mem_of_getElem? (i := 218) rfl) rfl
theorem kw_183 : Cond.fieldLink RJ0 1053 "jdk/internal/util/Preconditions" "SIOOBE_FORMATTER" "Ljava/util/function/BiFunction;" ∈ wsG := kT_1 (List.mem_of_getElem? (i := 219) rfl) rfl
theorem kw_184 : Cond.methodLink RJ0 1062 yJ3_checkFromToIndex_8c36e ∈ wsG := kT_1 (List.mem_of_getElem? (i := 221) rfl) rfl
theorem kw_185 : Cond.static yJ3_checkFromToIndex_8c36e ∈ wsG := kT_1 (List.mem_of_getElem? (i := 222) rfl) rfl
theorem kw_186 : Cond.initialized RJ3 ∈ wsG := kT_1 (List.mem_of_getElem? (i := 10) rfl) rfl
theorem kw_187 : Cond.code yJ3_checkFromToIndex_8c36e cJ3_checkFromToIndex_8c36e 4 (some .int) ∈ wsG := kT_1 (List.mem_of_getElem? (i := 223) rfl) rfl
theorem kw_188 : Cond.methodLink RJ2 244 yJ2_indexOfCharUnsafe_4cfef ∈ wsG := kT_1 (List.mem_of_getElem? (i := 224) rfl) rfl
theorem kw_189 : Cond.static yJ2_indexOfCharUnsafe_4cfef ∈ wsG := kT_1 (List.mem_of_getElem? (i := 225) rfl) rfl
theorem kw_190 : Cond.code yJ2_indexOfCharUnsafe_4cfef cJ2_indexOfCharUnsafe_4cfef 5 (some .int) ∈ wsG := kT_1 (List.mem_of_getElem? (i := 226) rfl) rfl
theorem kw_191 : Cond.methodLink RJ2 71 yJ2_getChar_3b067 ∈ wsG := kT_1 (List.mem_of_getElem? (i := 227) rfl) rfl
theorem kw_192 : Cond.static yJ2_getChar_3b067 ∈ wsG := kT_1 (List.mem_of_getElem? (i := 228) rfl) rfl
theorem kw_193 : Cond.code yJ2_getChar_3b067 cJ2_getChar_3b067 2 (some .char) ∈ wsG := kT_1 (List.mem_of_getElem? (i := 229) rfl) rfl
theorem kw_194 : Cond.fieldLink RJ2 44 "java/lang/StringUTF16" "$assertionsDisabled" "Z" ∈ wsG := kT_1 (List.mem_of_getElem? (i := 230) rfl) rfl
theorem kw_195 : Cond.fieldLink RJ2 59 "java/lang/StringUTF16" "HI_BYTE_SHIFT" "I" ∈ wsG := kT_1 (List.mem_of_getElem? (i := 232) rfl) rfl
theorem kw_196 : Cond.fieldLink RJ2 63 "java/lang/StringUTF16" "LO_BYTE_SHIFT" "I" ∈ wsG := kT_1 (List.mem_of_getElem? (i := 234) rfl) rfl
theorem kw_197 : Cond.methodLink RJ2 232 yJ2_indexOfSupplementary_4cfef ∈ wsG := kT_1 (List.mem_of_getElem? (i := 236) rfl) rfl
theorem kw_198 : Cond.static yJ2_indexOfSupplementary_4cfef ∈ wsG := kT_1 (List.mem_of_getElem? (i := 237) rfl) rfl
theorem kw_199 : Cond.code yJ2_indexOfSupplementary_4cfef cJ2_indexOfSupplementary_4cfef 7 (some .int) ∈ wsG := kT_1 (List.mem_of_getElem? (i := 238) rfl) rfl
theorem kw_200 : Cond.methodLink RJ2 164 yJ11_isValidCodePoint_9a6ad ∈ wsG := kT_1 (List.mem_of_getElem? (i := 239) rfl) rfl
theorem kw_201 : Cond.static yJ11_isValidCodePoint_9a6ad ∈ wsG := kT_2 (List.mem_of_getElem? (i := 0) rfl) rfl
theorem kw_202 : Cond.initialized RJ11 ∈ wsG := kT_1 (List.mem_of_getElem? (i := 11) rfl) rfl
theorem kw_203 : Cond.code yJ11_isValidCodePoint_9a6ad cJ11_isValidCodePoint_9a6ad 2 (some .boolean) ∈ wsG := kT_2 (List.mem_of_getElem? (i := 1) rfl) rfl
theorem kw_204 : Cond.methodLink RJ2 157 yJ11_highSurrogate_5068e ∈ wsG := kT_2 (List.mem_of_getElem? (i := 2) rfl) rfl
theorem kw_205 : Cond.static yJ11_highSurrogate_5068e ∈ wsG := kT_2 (List.mem_of_getElem? (i := 3) rfl) rfl
theorem kw_206 : Cond.code yJ11_highSurrogate_5068e cJ11_highSurrogate_5068e 1 (some .char) ∈ wsG := kT_2 (List.mem_of_getElem? (i := 4) rfl) rfl
theorem kw_207 : Cond.constant RJ11 110 (55232) ∈ wsG := kT_2 (List.mem_of_getElem? (i := 5) rfl) rfl
theorem kw_208 : Cond.methodLink RJ2 161 yJ11_lowSurrogate_5068e ∈ wsG := kT_2 (List.mem_of_getElem? (i := 6) rfl) rfl
theorem kw_209 : Cond.static yJ11_lowSurrogate_5068e ∈ wsG := kT_2 (List.mem_of_getElem? (i := 7) rfl) rfl
theorem kw_210 : Cond.code yJ11_lowSurrogate_5068e cJ11_lowSurrogate_5068e 1 (some .char) ∈ wsG := kT_2 (List.mem_of_getElem? (i := 8) rfl) rfl
theorem kw_211 : Cond.constant RJ11 76 (56320) ∈ wsG := kT_2 (List.mem_of_getElem? (i := 9) rfl) rfl
theorem kw_212 : Cond.methodLink RL 26 yX4_fault ∈ wsG := kT_3 (List.mem_of_getElem? (i := 101) rfl) rfl
theorem kw_213 : Cond.instanceMethod yX4_fault ∈ wsG := kT_3 (List.mem_of_getElem? (i := 102) rfl) rfl
theorem kw_214 : Cond.selects RX4 yX4_fault yX4_fault ∈ wsG := kT_3 (List.mem_of_getElem? (i := 103) rfl) rfl
theorem kw_215 : Cond.code yX4_fault cX4_fault 1 (some .int) ∈ wsG := kT_3 (List.mem_of_getElem? (i := 104) rfl) rfl
theorem kw_216 : Cond.methodLink RX4 72 yX4_faultNow ∈ wsG := kT_3 (List.mem_of_getElem? (i := 105) rfl) rfl
theorem kw_217 : Cond.instanceMethod yX4_faultNow ∈ wsG := kT_3 (List.mem_of_getElem? (i := 107) rfl) rfl
theorem kw_218 : Cond.selects RX4 yX4_faultNow yX4_faultNow ∈ wsG := kP_1 (List.mem_of_getElem? (i := 13) rfl) rfl
theorem kw_219 : Cond.code yX4_faultNow cX4_faultNow 2 (some .int) ∈ wsG := kT_3 (List.mem_of_getElem? (i := 108) rfl) rfl
theorem kw_220 : Cond.methodLink RX4 68 yX4_isGood ∈ wsG := kT_3 (List.mem_of_getElem? (i := 109) rfl) rfl
theorem kw_221 : Cond.instanceMethod yX4_isGood ∈ wsG := kT_3 (List.mem_of_getElem? (i := 111) rfl) rfl
theorem kw_222 : Cond.selects RX4 yX4_isGood yX4_isGood ∈ wsG := kP_1 (List.mem_of_getElem? (i := 14) rfl) rfl
theorem kw_223 : Cond.code yX4_isGood cX4_isGood 3 (some .boolean) ∈ wsG := kT_3 (List.mem_of_getElem? (i := 112) rfl) rfl
theorem kw_224 : Cond.methodLink RX4 64 yX4_kindBy ∈ wsG := kT_3 (List.mem_of_getElem? (i := 113) rfl) rfl
theorem kw_225 : Cond.static yX4_kindBy ∈ wsG := kT_3 (List.mem_of_getElem? (i := 114) rfl) rfl
theorem kw_226 : Cond.code yX4_kindBy cX4_kindBy 1 (some .int) ∈ wsG := kT_3 (List.mem_of_getElem? (i := 115) rfl) rfl
theorem kw_227 : Cond.methodLink RL 27 yX3_leaf ∈ wsG := kT_2 (List.mem_of_getElem? (i := 11) rfl) rfl
theorem kw_228 : Cond.instanceMethod yX3_leaf ∈ wsG := kT_2 (List.mem_of_getElem? (i := 12) rfl) rfl
theorem kw_229 : Cond.selects RX3 yX3_leaf yX3_leaf ∈ wsG := kT_2 (List.mem_of_getElem? (i := 13) rfl) rfl
theorem kw_230 : Cond.code yX3_leaf cX3_leaf 3 (some .int) ∈ wsG := kT_2 (List.mem_of_getElem? (i := 14) rfl) rfl
theorem kw_231 : Cond.methodLink RX3 61 yX0_isLeaf ∈ wsG := kT_2 (List.mem_of_getElem? (i := 15) rfl) rfl
theorem kw_232 : Cond.instanceMethod yX0_isLeaf ∈ wsG := kT_2 (List.mem_of_getElem? (i := 16) rfl) rfl
theorem kw_233 : Cond.selects RX0 yX0_isLeaf yX0_isLeaf ∈ wsG := kT_2 (List.mem_of_getElem? (i := 17) rfl) rfl
theorem kw_234 : Cond.code yX0_isLeaf cX0_isLeaf 1 (some .boolean) ∈ wsG := kT_2 (List.mem_of_getElem? (i := 18) rfl) rfl
theorem kw_235 : Cond.methodLink RX0 30 yX0_firstFault ∈ wsG := kT_2 (List.mem_of_getElem? (i := 19) rfl) rfl
theorem kw_236 : Cond.methodLink RX3 65 yX0_kindAt ∈ wsG := kT_2 (List.mem_of_getElem? (i := 20) rfl) rfl
theorem kw_237 : Cond.methodLink RX3 69 yX0_digitAt ∈ wsG := kT_2 (List.mem_of_getElem? (i := 21) rfl) rfl
theorem kw_238 : Cond.methodLink RX3 72 yX2_become ∈ wsG := kT_2 (List.mem_of_getElem? (i := 22) rfl) rfl
theorem kw_239 : Cond.instanceMethod yX2_become ∈ wsG := kT_2 (List.mem_of_getElem? (i := 23) rfl) rfl
theorem kw_240 : Cond.selects RX2 yX2_become yX2_become ∈ wsG := kT_2 (List.mem_of_getElem? (i := 24) rfl) rfl
theorem kw_241 : Cond.code yX2_become cX2_become 5 none ∈ wsG := kT_2 (List.mem_of_getElem? (i := 25) rfl) rfl
theorem kw_242 : Cond.methodLink RX2 27 Lib.Math.min.name ∈ wsG := kT_2 (List.mem_of_getElem? (i := 26) rfl) rfl
theorem kw_243 : Cond.methodLink RX3 76 yX1_begin ∈ wsG := kT_2 (List.mem_of_getElem? (i := 27) rfl) rfl
theorem kw_244 : Cond.instanceMethod yX1_begin ∈ wsG := kT_2 (List.mem_of_getElem? (i := 28) rfl) rfl
theorem kw_245 : Cond.selects RX1 yX1_begin yX1_begin ∈ wsG := kT_2 (List.mem_of_getElem? (i := 29) rfl) rfl
theorem kw_246 : Cond.code yX1_begin cX1_begin 3 none ∈ wsG := kT_2 (List.mem_of_getElem? (i := 30) rfl) rfl
theorem kw_247 : Cond.methodLink RL 30 yX4_leaf ∈ wsG := kT_3 (List.mem_of_getElem? (i := 116) rfl) rfl
theorem kw_248 : Cond.instanceMethod yX4_leaf ∈ wsG := kT_3 (List.mem_of_getElem? (i := 117) rfl) rfl
theorem kw_249 : Cond.selects RX4 yX4_leaf yX4_leaf ∈ wsG := kT_3 (List.mem_of_getElem? (i := 118) rfl) rfl
theorem kw_250 : Cond.code yX4_leaf cX4_leaf 2 (some .int) ∈ wsG := kT_3 (List.mem_of_getElem? (i := 119) rfl) rfl
theorem kw_251 : Cond.fieldLink RX4 76 "BlotLandModel" "strokes" "I" ∈ wsG := kT_3 (List.mem_of_getElem? (i := 3) rfl) rfl
theorem kw_252 : Cond.fieldLink RX4 83 "BlotLandModel" "leaves" "I" ∈ wsG := kT_3 (List.mem_of_getElem? (i := 2) rfl) rfl
theorem kw_253 : Cond.fieldLink RX4 86 "BlotLandModel" "sanded" "I" ∈ wsG := kT_3 (List.mem_of_getElem? (i := 8) rfl) rfl
theorem kw_254 : Cond.fieldLink RX4 89 "BlotLandModel" "evenings" "I" ∈ wsG := kT_3 (List.mem_of_getElem? (i := 10) rfl) rfl
theorem kw_255 : Cond.fieldLink RX4 92 "BlotLandModel" "found" "I" ∈ wsG := kT_3 (List.mem_of_getElem? (i := 11) rfl) rfl
theorem kw_256 : Cond.methodLink RX4 79 yX4_longAt ∈ wsG := kT_3 (List.mem_of_getElem? (i := 120) rfl) rfl
theorem kw_257 : Cond.static yX4_longAt ∈ wsG := kT_3 (List.mem_of_getElem? (i := 121) rfl) rfl
theorem kw_258 : Cond.code yX4_longAt cX4_longAt 2 (some .int) ∈ wsG := kT_3 (List.mem_of_getElem? (i := 122) rfl) rfl
theorem kw_259 : Cond.methodLink RL 31 yX3_about ∈ wsG := kT_2 (List.mem_of_getElem? (i := 31) rfl) rfl
theorem kw_260 : Cond.instanceMethod yX3_about ∈ wsG := kT_2 (List.mem_of_getElem? (i := 32) rfl) rfl
theorem kw_261 : Cond.selects RX3 yX3_about yX3_about ∈ wsG := kT_2 (List.mem_of_getElem? (i := 33) rfl) rfl
theorem kw_262 : Cond.code yX3_about cX3_about 3 (some .int) ∈ wsG := kT_2 (List.mem_of_getElem? (i := 34) rfl) rfl
theorem kw_263 : Cond.methodLink RX3 79 yX3_isStroke ∈ wsG := kT_2 (List.mem_of_getElem? (i := 35) rfl) rfl
theorem kw_264 : Cond.instanceMethod yX3_isStroke ∈ wsG := kT_2 (List.mem_of_getElem? (i := 37) rfl) rfl
theorem kw_265 : Cond.selects RX3 yX3_isStroke yX3_isStroke ∈ wsG := kP_1 (List.mem_of_getElem? (i := 1) rfl) rfl
theorem kw_266 : Cond.code yX3_isStroke cX3_isStroke 2 (some .boolean) ∈ wsG := kT_2 (List.mem_of_getElem? (i := 38) rfl) rfl
theorem kw_267 : Cond.methodLink RX3 94 yX1_isSanded ∈ wsG := kT_2 (List.mem_of_getElem? (i := 39) rfl) rfl
theorem kw_268 : Cond.instanceMethod yX1_isSanded ∈ wsG := kT_2 (List.mem_of_getElem? (i := 40) rfl) rfl
theorem kw_269 : Cond.selects RX1 yX1_isSanded yX1_isSanded ∈ wsG := kT_2 (List.mem_of_getElem? (i := 41) rfl) rfl
theorem kw_270 : Cond.code yX1_isSanded cX1_isSanded 2 (some .boolean) ∈ wsG := kT_2 (List.mem_of_getElem? (i := 42) rfl) rfl
theorem kw_271 : Cond.methodLink RX3 97 yX3_heavy ∈ wsG := kT_2 (List.mem_of_getElem? (i := 43) rfl) rfl
theorem kw_272 : Cond.instanceMethod yX3_heavy ∈ wsG := kT_2 (List.mem_of_getElem? (i := 45) rfl) rfl
theorem kw_273 : Cond.selects RX3 yX3_heavy yX3_heavy ∈ wsG := kP_1 (List.mem_of_getElem? (i := 2) rfl) rfl
theorem kw_274 : Cond.code yX3_heavy cX3_heavy 4 (some .int) ∈ wsG := kT_2 (List.mem_of_getElem? (i := 46) rfl) rfl
theorem kw_275 : Cond.methodLink RX3 236 yX3_isAllFoundWith ∈ wsG := kT_2 (List.mem_of_getElem? (i := 47) rfl) rfl
theorem kw_276 : Cond.instanceMethod yX3_isAllFoundWith ∈ wsG := kT_2 (List.mem_of_getElem? (i := 49) rfl) rfl
theorem kw_277 : Cond.selects RX3 yX3_isAllFoundWith yX3_isAllFoundWith ∈ wsG := kP_1 (List.mem_of_getElem? (i := 3) rfl) rfl
theorem kw_278 : Cond.code yX3_isAllFoundWith cX3_isAllFoundWith 4 (some .boolean) ∈ wsG := kT_2 (List.mem_of_getElem? (i := 50) rfl) rfl
theorem kw_279 : Cond.methodLink RX3 225 yX3_comesIf ∈ wsG := kT_2 (List.mem_of_getElem? (i := 51) rfl) rfl
theorem kw_280 : Cond.instanceMethod yX3_comesIf ∈ wsG := kT_2 (List.mem_of_getElem? (i := 53) rfl) rfl
theorem kw_281 : Cond.selects RX3 yX3_comesIf yX3_comesIf ∈ wsG := kP_1 (List.mem_of_getElem? (i := 4) rfl) rfl
theorem kw_282 : Cond.code yX3_comesIf cX3_comesIf 10 (some .int) ∈ wsG := kT_2 (List.mem_of_getElem? (i := 54) rfl) rfl
theorem kw_283 : Cond.methodLink RX3 121 yX2_wetAt ∈ wsG := kT_2 (List.mem_of_getElem? (i := 55) rfl) rfl
theorem kw_284 : Cond.instanceMethod yX2_wetAt ∈ wsG := kT_2 (List.mem_of_getElem? (i := 56) rfl) rfl
theorem kw_285 : Cond.selects RX2 yX2_wetAt yX2_wetAt ∈ wsG := kT_2 (List.mem_of_getElem? (i := 57) rfl) rfl
theorem kw_286 : Cond.code yX2_wetAt cX2_wetAt 4 (some .int) ∈ wsG := kT_2 (List.mem_of_getElem? (i := 58) rfl) rfl
theorem kw_287 : Cond.methodLink RX2 33 Lib.Math.max.name ∈ wsG := kT_2 (List.mem_of_getElem? (i := 59) rfl) rfl
theorem kw_288 : Cond.methodLink RX3 228 yX2_givesTo ∈ wsG := kT_2 (List.mem_of_getElem? (i := 60) rfl) rfl
theorem kw_289 : Cond.instanceMethod yX2_givesTo ∈ wsG := kT_2 (List.mem_of_getElem? (i := 61) rfl) rfl
theorem kw_290 : Cond.selects RX2 yX2_givesTo yX2_givesTo ∈ wsG := kT_2 (List.mem_of_getElem? (i := 62) rfl) rfl
theorem kw_291 : Cond.code yX2_givesTo cX2_givesTo 5 (some .int) ∈ wsG := kT_2 (List.mem_of_getElem? (i := 63) rfl) rfl
theorem kw_292 : Cond.methodLink RX2 36 yX2_isA ∈ wsG := kT_2 (List.mem_of_getElem? (i := 64) rfl) rfl
theorem kw_293 : Cond.instanceMethod yX2_isA ∈ wsG := kT_2 (List.mem_of_getElem? (i := 65) rfl) rfl
theorem kw_294 : Cond.selects RX2 yX2_isA yX2_isA ∈ wsG := kT_2 (List.mem_of_getElem? (i := 66) rfl) rfl
theorem kw_295 : Cond.code yX2_isA cX2_isA 2 (some .boolean) ∈ wsG := kT_2 (List.mem_of_getElem? (i := 67) rfl) rfl
theorem kw_296 : Cond.methodLink RL 35 yX4_about ∈ wsG := kT_3 (List.mem_of_getElem? (i := 123) rfl) rfl
theorem kw_297 : Cond.instanceMethod yX4_about ∈ wsG := kT_3 (List.mem_of_getElem? (i := 124) rfl) rfl
theorem kw_298 : Cond.selects RX4 yX4_about yX4_about ∈ wsG := kT_3 (List.mem_of_getElem? (i := 125) rfl) rfl
theorem kw_299 : Cond.code yX4_about cX4_about 3 (some .int) ∈ wsG := kT_3 (List.mem_of_getElem? (i := 126) rfl) rfl
theorem kw_300 : Cond.methodLink RX4 109 yX4_isStroke ∈ wsG := kT_3 (List.mem_of_getElem? (i := 127) rfl) rfl
theorem kw_301 : Cond.instanceMethod yX4_isStroke ∈ wsG := kT_3 (List.mem_of_getElem? (i := 129) rfl) rfl
theorem kw_302 : Cond.selects RX4 yX4_isStroke yX4_isStroke ∈ wsG := kP_1 (List.mem_of_getElem? (i := 15) rfl) rfl
theorem kw_303 : Cond.code yX4_isStroke cX4_isStroke 2 (some .boolean) ∈ wsG := kT_3 (List.mem_of_getElem? (i := 130) rfl) rfl
theorem kw_304 : Cond.methodLink RX4 112 yX4_strokeNow ∈ wsG := kT_3 (List.mem_of_getElem? (i := 131) rfl) rfl
theorem kw_305 : Cond.instanceMethod yX4_strokeNow ∈ wsG := kT_3 (List.mem_of_getElem? (i := 133) rfl) rfl
theorem kw_306 : Cond.selects RX4 yX4_strokeNow yX4_strokeNow ∈ wsG := kP_2 (List.mem_of_getElem? (i := 0) rfl) rfl
theorem kw_307 : Cond.code yX4_strokeNow cX4_strokeNow 3 (some .int) ∈ wsG := kT_3 (List.mem_of_getElem? (i := 134) rfl) rfl
theorem kw_308 : Cond.methodLink RX4 106 yX4_heavyOf ∈ wsG := kT_3 (List.mem_of_getElem? (i := 135) rfl) rfl
theorem kw_309 : Cond.instanceMethod yX4_heavyOf ∈ wsG := kT_3 (List.mem_of_getElem? (i := 137) rfl) rfl
theorem kw_310 : Cond.selects RX4 yX4_heavyOf yX4_heavyOf ∈ wsG := kP_2 (List.mem_of_getElem? (i := 1) rfl) rfl
theorem kw_311 : Cond.code yX4_heavyOf cX4_heavyOf 5 (some .int) ∈ wsG := kT_3 (List.mem_of_getElem? (i := 138) rfl) rfl
theorem kw_312 : Cond.methodLink RX4 142 yX4_isFound ∈ wsG := kT_3 (List.mem_of_getElem? (i := 139) rfl) rfl
theorem kw_313 : Cond.instanceMethod yX4_isFound ∈ wsG := kT_3 (List.mem_of_getElem? (i := 141) rfl) rfl
theorem kw_314 : Cond.selects RX4 yX4_isFound yX4_isFound ∈ wsG := kP_2 (List.mem_of_getElem? (i := 2) rfl) rfl
theorem kw_315 : Cond.code yX4_isFound cX4_isFound 3 (some .boolean) ∈ wsG := kT_3 (List.mem_of_getElem? (i := 142) rfl) rfl
theorem kw_316 : Cond.methodLink RX4 121 yX4_comesTo ∈ wsG := kT_3 (List.mem_of_getElem? (i := 143) rfl) rfl
theorem kw_317 : Cond.instanceMethod yX4_comesTo ∈ wsG := kT_3 (List.mem_of_getElem? (i := 145) rfl) rfl
theorem kw_318 : Cond.selects RX4 yX4_comesTo yX4_comesTo ∈ wsG := kP_2 (List.mem_of_getElem? (i := 3) rfl) rfl
theorem kw_319 : Cond.code yX4_comesTo cX4_comesTo 5 (some .int) ∈ wsG := kT_3 (List.mem_of_getElem? (i := 146) rfl) rfl
theorem kw_320 : Cond.methodLink RX4 102 yX4_comesOf ∈ wsG := kT_3 (List.mem_of_getElem? (i := 147) rfl) rfl
theorem kw_321 : Cond.instanceMethod yX4_comesOf ∈ wsG := kT_3 (List.mem_of_getElem? (i := 149) rfl) rfl
theorem kw_322 : Cond.selects RX4 yX4_comesOf yX4_comesOf ∈ wsG := kP_2 (List.mem_of_getElem? (i := 4) rfl) rfl
theorem kw_323 : Cond.code yX4_comesOf cX4_comesOf 8 (some .int) ∈ wsG := kT_3 (List.mem_of_getElem? (i := 150) rfl) rfl
theorem kw_324 : Cond.methodLink RX4 99 yX4_wetAt ∈ wsG := kT_3 (List.mem_of_getElem? (i := 151) rfl) rfl
theorem kw_325 : Cond.instanceMethod yX4_wetAt ∈ wsG := kT_3 (List.mem_of_getElem? (i := 153) rfl) rfl
theorem kw_326 : Cond.selects RX4 yX4_wetAt yX4_wetAt ∈ wsG := kP_2 (List.mem_of_getElem? (i := 5) rfl) rfl
theorem kw_327 : Cond.code yX4_wetAt cX4_wetAt 5 (some .int) ∈ wsG := kT_3 (List.mem_of_getElem? (i := 154) rfl) rfl
theorem kw_328 : Cond.methodLink RX4 95 yX4_isIn ∈ wsG := kT_3 (List.mem_of_getElem? (i := 155) rfl) rfl
theorem kw_329 : Cond.static yX4_isIn ∈ wsG := kT_3 (List.mem_of_getElem? (i := 156) rfl) rfl
theorem kw_330 : Cond.code yX4_isIn cX4_isIn 2 (some .boolean) ∈ wsG := kT_3 (List.mem_of_getElem? (i := 157) rfl) rfl
theorem kw_331 : Cond.methodLink RL 36 yX3_as ∈ wsG := kT_2 (List.mem_of_getElem? (i := 68) rfl) rfl
theorem kw_332 : Cond.instanceMethod yX3_as ∈ wsG := kT_2 (List.mem_of_getElem? (i := 69) rfl) rfl
theorem kw_333 : Cond.selects RX3 yX3_as yX3_as ∈ wsG := kT_2 (List.mem_of_getElem? (i := 70) rfl) rfl
theorem kw_334 : Cond.code yX3_as cX3_as 3 (some .int) ∈ wsG := kT_2 (List.mem_of_getElem? (i := 71) rfl) rfl
theorem kw_335 : Cond.methodLink RX3 100 yX3_isKind ∈ wsG := kT_2 (List.mem_of_getElem? (i := 72) rfl) rfl
theorem kw_336 : Cond.static yX3_isKind ∈ wsG := kT_2 (List.mem_of_getElem? (i := 73) rfl) rfl
theorem kw_337 : Cond.code yX3_isKind cX3_isKind 1 (some .boolean) ∈ wsG := kT_2 (List.mem_of_getElem? (i := 74) rfl) rfl
theorem kw_338 : Cond.methodLink RX3 103 yX2_isA ∈ wsG := kT_2 (List.mem_of_getElem? (i := 75) rfl) rfl
theorem kw_339 : Cond.methodLink RL 39 yX4_as ∈ wsG := kT_3 (List.mem_of_getElem? (i := 158) rfl) rfl
theorem kw_340 : Cond.instanceMethod yX4_as ∈ wsG := kT_3 (List.mem_of_getElem? (i := 159) rfl) rfl
theorem kw_341 : Cond.selects RX4 yX4_as yX4_as ∈ wsG := kT_3 (List.mem_of_getElem? (i := 160) rfl) rfl
theorem kw_342 : Cond.code yX4_as cX4_as 4 (some .int) ∈ wsG := kT_3 (List.mem_of_getElem? (i := 161) rfl) rfl
theorem kw_343 : Cond.methodLink RL 40 yX3_write ∈ wsG := kT_2 (List.mem_of_getElem? (i := 76) rfl) rfl
theorem kw_344 : Cond.instanceMethod yX3_write ∈ wsG := kT_2 (List.mem_of_getElem? (i := 77) rfl) rfl
theorem kw_345 : Cond.selects RX3 yX3_write yX3_write ∈ wsG := kT_2 (List.mem_of_getElem? (i := 78) rfl) rfl
theorem kw_346 : Cond.code yX3_write cX3_write 6 (some .int) ∈ wsG := kT_2 (List.mem_of_getElem? (i := 79) rfl) rfl
theorem kw_347 : Cond.methodLink RX3 106 yX3_isCell ∈ wsG := kT_2 (List.mem_of_getElem? (i := 80) rfl) rfl
theorem kw_348 : Cond.static yX3_isCell ∈ wsG := kT_2 (List.mem_of_getElem? (i := 81) rfl) rfl
theorem kw_349 : Cond.code yX3_isCell cX3_isCell 1 (some .boolean) ∈ wsG := kT_2 (List.mem_of_getElem? (i := 82) rfl) rfl
theorem kw_350 : Cond.methodLink RX3 109 yX3_hasLeaf ∈ wsG := kT_2 (List.mem_of_getElem? (i := 83) rfl) rfl
theorem kw_351 : Cond.instanceMethod yX3_hasLeaf ∈ wsG := kT_2 (List.mem_of_getElem? (i := 85) rfl) rfl
theorem kw_352 : Cond.selects RX3 yX3_hasLeaf yX3_hasLeaf ∈ wsG := kP_1 (List.mem_of_getElem? (i := 5) rfl) rfl
theorem kw_353 : Cond.code yX3_hasLeaf cX3_hasLeaf 1 (some .boolean) ∈ wsG := kT_2 (List.mem_of_getElem? (i := 86) rfl) rfl
theorem kw_354 : Cond.methodLink RL 44 yX4_write ∈ wsG := kT_3 (List.mem_of_getElem? (i := 162) rfl) rfl
theorem kw_355 : Cond.instanceMethod yX4_write ∈ wsG := kT_3 (List.mem_of_getElem? (i := 163) rfl) rfl
theorem kw_356 : Cond.selects RX4 yX4_write yX4_write ∈ wsG := kT_3 (List.mem_of_getElem? (i := 164) rfl) rfl
theorem kw_357 : Cond.code yX4_write cX4_write 5 (some .int) ∈ wsG := kT_3 (List.mem_of_getElem? (i := 165) rfl) rfl
theorem kw_358 : Cond.methodLink RL 45 yX3_sand ∈ wsG := kT_2 (List.mem_of_getElem? (i := 87) rfl) rfl
theorem kw_359 : Cond.instanceMethod yX3_sand ∈ wsG := kT_2 (List.mem_of_getElem? (i := 88) rfl) rfl
theorem kw_360 : Cond.selects RX3 yX3_sand yX3_sand ∈ wsG := kT_2 (List.mem_of_getElem? (i := 89) rfl) rfl
theorem kw_361 : Cond.code yX3_sand cX3_sand 4 (some .int) ∈ wsG := kT_2 (List.mem_of_getElem? (i := 90) rfl) rfl
theorem kw_362 : Cond.methodLink RX3 114 yX1_putSanded ∈ wsG := kT_2 (List.mem_of_getElem? (i := 91) rfl) rfl
theorem kw_363 : Cond.instanceMethod yX1_putSanded ∈ wsG := kT_2 (List.mem_of_getElem? (i := 92) rfl) rfl
theorem kw_364 : Cond.selects RX1 yX1_putSanded yX1_putSanded ∈ wsG := kT_2 (List.mem_of_getElem? (i := 93) rfl) rfl
theorem kw_365 : Cond.code yX1_putSanded cX1_putSanded 4 none ∈ wsG := kT_2 (List.mem_of_getElem? (i := 94) rfl) rfl
theorem kw_366 : Cond.methodLink RL 49 yX4_sand ∈ wsG := kT_3 (List.mem_of_getElem? (i := 166) rfl) rfl
theorem kw_367 : Cond.instanceMethod yX4_sand ∈ wsG := kT_3 (List.mem_of_getElem? (i := 167) rfl) rfl
theorem kw_368 : Cond.selects RX4 yX4_sand yX4_sand ∈ wsG := kT_3 (List.mem_of_getElem? (i := 168) rfl) rfl
theorem kw_369 : Cond.code yX4_sand cX4_sand 4 (some .int) ∈ wsG := kT_3 (List.mem_of_getElem? (i := 169) rfl) rfl
theorem kw_370 : Cond.methodLink RL 50 yX3_wet ∈ wsG := kT_2 (List.mem_of_getElem? (i := 95) rfl) rfl
theorem kw_371 : Cond.instanceMethod yX3_wet ∈ wsG := kT_2 (List.mem_of_getElem? (i := 96) rfl) rfl
theorem kw_372 : Cond.selects RX3 yX3_wet yX3_wet ∈ wsG := kT_2 (List.mem_of_getElem? (i := 97) rfl) rfl
theorem kw_373 : Cond.code yX3_wet cX3_wet 3 (some .int) ∈ wsG := kT_2 (List.mem_of_getElem? (i := 98) rfl) rfl
theorem kw_374 : Cond.methodLink RX3 118 yX3_isMinute ∈ wsG := kT_2 (List.mem_of_getElem? (i := 99) rfl) rfl
theorem kw_375 : Cond.static yX3_isMinute ∈ wsG := kT_2 (List.mem_of_getElem? (i := 100) rfl) rfl
theorem kw_376 : Cond.code yX3_isMinute cX3_isMinute 1 (some .boolean) ∈ wsG := kT_2 (List.mem_of_getElem? (i := 101) rfl) rfl
theorem kw_377 : Cond.methodLink RL 53 yX4_wet ∈ wsG := kT_3 (List.mem_of_getElem? (i := 170) rfl) rfl
theorem kw_378 : Cond.instanceMethod yX4_wet ∈ wsG := kT_3 (List.mem_of_getElem? (i := 171) rfl) rfl
theorem kw_379 : Cond.selects RX4 yX4_wet yX4_wet ∈ wsG := kT_3 (List.mem_of_getElem? (i := 172) rfl) rfl
theorem kw_380 : Cond.code yX4_wet cX4_wet 3 (some .int) ∈ wsG := kT_3 (List.mem_of_getElem? (i := 173) rfl) rfl
theorem kw_381 : Cond.methodLink RX4 115 yX4_isMinute ∈ wsG := kT_3 (List.mem_of_getElem? (i := 174) rfl) rfl
theorem kw_382 : Cond.static yX4_isMinute ∈ wsG := kT_3 (List.mem_of_getElem? (i := 175) rfl) rfl
theorem kw_383 : Cond.code yX4_isMinute cX4_isMinute 1 (some .boolean) ∈ wsG := kT_3 (List.mem_of_getElem? (i := 176) rfl) rfl
theorem kw_384 : Cond.methodLink RL 54 yX3_ink ∈ wsG := kT_2 (List.mem_of_getElem? (i := 102) rfl) rfl
theorem kw_385 : Cond.instanceMethod yX3_ink ∈ wsG := kT_2 (List.mem_of_getElem? (i := 103) rfl) rfl
theorem kw_386 : Cond.selects RX3 yX3_ink yX3_ink ∈ wsG := kT_2 (List.mem_of_getElem? (i := 104) rfl) rfl
theorem kw_387 : Cond.code yX3_ink cX3_ink 2 (some .int) ∈ wsG := kT_2 (List.mem_of_getElem? (i := 105) rfl) rfl
theorem kw_388 : Cond.methodLink RX3 125 yX3_isLand ∈ wsG := kT_2 (List.mem_of_getElem? (i := 106) rfl) rfl
theorem kw_389 : Cond.instanceMethod yX3_isLand ∈ wsG := kT_2 (List.mem_of_getElem? (i := 108) rfl) rfl
theorem kw_390 : Cond.selects RX3 yX3_isLand yX3_isLand ∈ wsG := kP_1 (List.mem_of_getElem? (i := 6) rfl) rfl
theorem kw_391 : Cond.code yX3_isLand cX3_isLand 2 (some .boolean) ∈ wsG := kT_2 (List.mem_of_getElem? (i := 109) rfl) rfl
theorem kw_392 : Cond.methodLink RL 57 yX4_ink ∈ wsG := kT_3 (List.mem_of_getElem? (i := 177) rfl) rfl
theorem kw_393 : Cond.instanceMethod yX4_ink ∈ wsG := kT_3 (List.mem_of_getElem? (i := 178) rfl) rfl
theorem kw_394 : Cond.selects RX4 yX4_ink yX4_ink ∈ wsG := kT_3 (List.mem_of_getElem? (i := 179) rfl) rfl
theorem kw_395 : Cond.code yX4_ink cX4_ink 2 (some .int) ∈ wsG := kT_3 (List.mem_of_getElem? (i := 180) rfl) rfl
theorem kw_396 : Cond.methodLink RX4 118 yX4_isCell ∈ wsG := kT_3 (List.mem_of_getElem? (i := 181) rfl) rfl
theorem kw_397 : Cond.instanceMethod yX4_isCell ∈ wsG := kT_3 (List.mem_of_getElem? (i := 183) rfl) rfl
theorem kw_398 : Cond.selects RX4 yX4_isCell yX4_isCell ∈ wsG := kP_2 (List.mem_of_getElem? (i := 6) rfl) rfl
theorem kw_399 : Cond.code yX4_isCell cX4_isCell 2 (some .boolean) ∈ wsG := kT_3 (List.mem_of_getElem? (i := 184) rfl) rfl
theorem kw_400 : Cond.methodLink RL 58 yX3_comes ∈ wsG := kT_2 (List.mem_of_getElem? (i := 110) rfl) rfl
theorem kw_401 : Cond.instanceMethod yX3_comes ∈ wsG := kT_2 (List.mem_of_getElem? (i := 111) rfl) rfl
theorem kw_402 : Cond.selects RX3 yX3_comes yX3_comes ∈ wsG := kT_2 (List.mem_of_getElem? (i := 112) rfl) rfl
theorem kw_403 : Cond.code yX3_comes cX3_comes 3 (some .int) ∈ wsG := kT_2 (List.mem_of_getElem? (i := 113) rfl) rfl
theorem kw_404 : Cond.methodLink RX3 131 yX3_comesNow ∈ wsG := kT_2 (List.mem_of_getElem? (i := 114) rfl) rfl
theorem kw_405 : Cond.instanceMethod yX3_comesNow ∈ wsG := kT_2 (List.mem_of_getElem? (i := 116) rfl) rfl
theorem kw_406 : Cond.selects RX3 yX3_comesNow yX3_comesNow ∈ wsG := kP_1 (List.mem_of_getElem? (i := 7) rfl) rfl
theorem kw_407 : Cond.code yX3_comesNow cX3_comesNow 3 (some .int) ∈ wsG := kT_2 (List.mem_of_getElem? (i := 117) rfl) rfl
theorem kw_408 : Cond.methodLink RL 61 yX4_comes ∈ wsG := kT_3 (List.mem_of_getElem? (i := 185) rfl) rfl
theorem kw_409 : Cond.instanceMethod yX4_comes ∈ wsG := kT_3 (List.mem_of_getElem? (i := 186) rfl) rfl
theorem kw_410 : Cond.selects RX4 yX4_comes yX4_comes ∈ wsG := kT_3 (List.mem_of_getElem? (i := 187) rfl) rfl
theorem kw_411 : Cond.code yX4_comes cX4_comes 3 (some .int) ∈ wsG := kT_3 (List.mem_of_getElem? (i := 188) rfl) rfl
theorem kw_412 : Cond.methodLink RL 62 yX3_evening ∈ wsG := kT_2 (List.mem_of_getElem? (i := 118) rfl) rfl
theorem kw_413 : Cond.instanceMethod yX3_evening ∈ wsG := kT_2 (List.mem_of_getElem? (i := 119) rfl) rfl
theorem kw_414 : Cond.selects RX3 yX3_evening yX3_evening ∈ wsG := kT_2 (List.mem_of_getElem? (i := 120) rfl) rfl
theorem kw_415 : Cond.code yX3_evening cX3_evening 2 (some .int) ∈ wsG := kT_2 (List.mem_of_getElem? (i := 121) rfl) rfl
theorem kw_416 : Cond.methodLink RX3 137 yX3_pressOff ∈ wsG := kT_2 (List.mem_of_getElem? (i := 122) rfl) rfl
theorem kw_417 : Cond.instanceMethod yX3_pressOff ∈ wsG := kT_2 (List.mem_of_getElem? (i := 124) rfl) rfl
theorem kw_418 : Cond.selects RX3 yX3_pressOff yX3_pressOff ∈ wsG := kP_1 (List.mem_of_getElem? (i := 8) rfl) rfl
theorem kw_419 : Cond.code yX3_pressOff cX3_pressOff 6 (some .int) ∈ wsG := kT_2 (List.mem_of_getElem? (i := 125) rfl) rfl
theorem kw_420 : Cond.methodLink RX3 231 Lib.Math.min.name ∈ wsG := kT_2 (List.mem_of_getElem? (i := 126) rfl) rfl
theorem kw_421 : Cond.methodLink RL 65 yX4_evening ∈ wsG := kT_3 (List.mem_of_getElem? (i := 189) rfl) rfl
theorem kw_422 : Cond.instanceMethod yX4_evening ∈ wsG := kT_3 (List.mem_of_getElem? (i := 190) rfl) rfl
theorem kw_423 : Cond.selects RX4 yX4_evening yX4_evening ∈ wsG := kT_3 (List.mem_of_getElem? (i := 191) rfl) rfl
theorem kw_424 : Cond.code yX4_evening cX4_evening 2 (some .int) ∈ wsG := kT_3 (List.mem_of_getElem? (i := 192) rfl) rfl
theorem kw_425 : Cond.methodLink RX4 124 yX4_press ∈ wsG := kT_3 (List.mem_of_getElem? (i := 193) rfl) rfl
theorem kw_426 : Cond.instanceMethod yX4_press ∈ wsG := kT_3 (List.mem_of_getElem? (i := 195) rfl) rfl
theorem kw_427 : Cond.selects RX4 yX4_press yX4_press ∈ wsG := kP_2 (List.mem_of_getElem? (i := 7) rfl) rfl
theorem kw_428 : Cond.code yX4_press cX4_press 5 (some .int) ∈ wsG := kT_3 (List.mem_of_getElem? (i := 196) rfl) rfl
theorem kw_429 : Cond.methodLink RL 66 yX3_hills ∈ wsG := kT_2 (List.mem_of_getElem? (i := 127) rfl) rfl
theorem kw_430 : Cond.instanceMethod yX3_hills ∈ wsG := kT_2 (List.mem_of_getElem? (i := 128) rfl) rfl
theorem kw_431 : Cond.selects RX3 yX3_hills yX3_hills ∈ wsG := kT_2 (List.mem_of_getElem? (i := 129) rfl) rfl
theorem kw_432 : Cond.code yX3_hills cX3_hills 6 (some .int) ∈ wsG := kT_2 (List.mem_of_getElem? (i := 130) rfl) rfl
theorem kw_433 : Cond.methodLink RL 69 yX4_hills ∈ wsG := kT_3 (List.mem_of_getElem? (i := 197) rfl) rfl
theorem kw_434 : Cond.instanceMethod yX4_hills ∈ wsG := kT_3 (List.mem_of_getElem? (i := 198) rfl) rfl
theorem kw_435 : Cond.selects RX4 yX4_hills yX4_hills ∈ wsG := kT_3 (List.mem_of_getElem? (i := 199) rfl) rfl
theorem kw_436 : Cond.code yX4_hills cX4_hills 2 (some .int) ∈ wsG := kT_3 (List.mem_of_getElem? (i := 200) rfl) rfl
theorem kw_437 : Cond.methodLink RX4 127 yX4_hillsNow ∈ wsG := kT_3 (List.mem_of_getElem? (i := 201) rfl) rfl
theorem kw_438 : Cond.instanceMethod yX4_hillsNow ∈ wsG := kT_3 (List.mem_of_getElem? (i := 203) rfl) rfl
theorem kw_439 : Cond.selects RX4 yX4_hillsNow yX4_hillsNow ∈ wsG := kP_2 (List.mem_of_getElem? (i := 8) rfl) rfl
theorem kw_440 : Cond.code yX4_hillsNow cX4_hillsNow 4 (some .int) ∈ wsG := kT_3 (List.mem_of_getElem? (i := 204) rfl) rfl
theorem kw_441 : Cond.methodLink RL 70 yX3_close ∈ wsG := kT_2 (List.mem_of_getElem? (i := 131) rfl) rfl
theorem kw_442 : Cond.instanceMethod yX3_close ∈ wsG := kT_2 (List.mem_of_getElem? (i := 132) rfl) rfl
theorem kw_443 : Cond.selects RX3 yX3_close yX3_close ∈ wsG := kT_2 (List.mem_of_getElem? (i := 133) rfl) rfl
theorem kw_444 : Cond.code yX3_close cX3_close 4 (some .int) ∈ wsG := kT_2 (List.mem_of_getElem? (i := 134) rfl) rfl
theorem kw_445 : Cond.methodLink RX3 141 yX3_isMuch ∈ wsG := kT_2 (List.mem_of_getElem? (i := 135) rfl) rfl
theorem kw_446 : Cond.static yX3_isMuch ∈ wsG := kT_2 (List.mem_of_getElem? (i := 136) rfl) rfl
theorem kw_447 : Cond.code yX3_isMuch cX3_isMuch 1 (some .boolean) ∈ wsG := kT_2 (List.mem_of_getElem? (i := 137) rfl) rfl
theorem kw_448 : Cond.methodLink RL 73 yX4_close ∈ wsG := kT_3 (List.mem_of_getElem? (i := 205) rfl) rfl
theorem kw_449 : Cond.instanceMethod yX4_close ∈ wsG := kT_3 (List.mem_of_getElem? (i := 206) rfl) rfl
theorem kw_450 : Cond.selects RX4 yX4_close yX4_close ∈ wsG := kT_3 (List.mem_of_getElem? (i := 207) rfl) rfl
theorem kw_451 : Cond.code yX4_close cX4_close 3 (some .int) ∈ wsG := kT_3 (List.mem_of_getElem? (i := 208) rfl) rfl
theorem kw_452 : Cond.methodLink RX4 130 yX4_closeNow ∈ wsG := kT_3 (List.mem_of_getElem? (i := 209) rfl) rfl
theorem kw_453 : Cond.instanceMethod yX4_closeNow ∈ wsG := kT_3 (List.mem_of_getElem? (i := 211) rfl) rfl
theorem kw_454 : Cond.selects RX4 yX4_closeNow yX4_closeNow ∈ wsG := kP_2 (List.mem_of_getElem? (i := 9) rfl) rfl
theorem kw_455 : Cond.code yX4_closeNow cX4_closeNow 5 (some .int) ∈ wsG := kT_3 (List.mem_of_getElem? (i := 212) rfl) rfl
theorem kw_456 : Cond.methodLink RL 74 yX3_toSand ∈ wsG := kT_2 (List.mem_of_getElem? (i := 138) rfl) rfl
theorem kw_457 : Cond.instanceMethod yX3_toSand ∈ wsG := kT_2 (List.mem_of_getElem? (i := 139) rfl) rfl
theorem kw_458 : Cond.selects RX3 yX3_toSand yX3_toSand ∈ wsG := kT_2 (List.mem_of_getElem? (i := 140) rfl) rfl
theorem kw_459 : Cond.code yX3_toSand cX3_toSand 6 (some .int) ∈ wsG := kT_2 (List.mem_of_getElem? (i := 141) rfl) rfl
theorem kw_460 : Cond.methodLink RX3 144 yX3_reachesAny ∈ wsG := kT_2 (List.mem_of_getElem? (i := 142) rfl) rfl
theorem kw_461 : Cond.instanceMethod yX3_reachesAny ∈ wsG := kT_2 (List.mem_of_getElem? (i := 144) rfl) rfl
theorem kw_462 : Cond.selects RX3 yX3_reachesAny yX3_reachesAny ∈ wsG := kP_1 (List.mem_of_getElem? (i := 9) rfl) rfl
theorem kw_463 : Cond.code yX3_reachesAny cX3_reachesAny 7 (some .boolean) ∈ wsG := kT_2 (List.mem_of_getElem? (i := 145) rfl) rfl
theorem kw_464 : Cond.methodLink RX3 194 yX3_wet ∈ wsG := kT_2 (List.mem_of_getElem? (i := 146) rfl) rfl
theorem kw_465 : Cond.methodLink RX3 148 yJ6_bitCount_0f7a4 ∈ wsG := kT_2 (List.mem_of_getElem? (i := 147) rfl) rfl
theorem kw_466 : Cond.static yJ6_bitCount_0f7a4 ∈ wsG := kT_2 (List.mem_of_getElem? (i := 148) rfl) rfl
theorem kw_467 : Cond.initialized RJ6 ∈ wsG := kT_1 (List.mem_of_getElem? (i := 12) rfl) rfl
theorem kw_468 : Cond.code yJ6_bitCount_0f7a4 cJ6_bitCount_0f7a4 1 (some .int) ∈ wsG := kT_2 (List.mem_of_getElem? (i := 149) rfl) rfl
theorem kw_469 : Cond.constant RJ6 265 (1431655765) ∈ wsG := kT_2 (List.mem_of_getElem? (i := 150) rfl) rfl
theorem kw_470 : Cond.constant RJ6 266 (858993459) ∈ wsG := kT_2 (List.mem_of_getElem? (i := 151) rfl) rfl
theorem kw_471 : Cond.constant RJ6 267 (252645135) ∈ wsG := kT_2 (List.mem_of_getElem? (i := 152) rfl) rfl
theorem kw_472 : Cond.methodLink RL 78 yX4_toSand ∈ wsG := kT_3 (List.mem_of_getElem? (i := 213) rfl) rfl
theorem kw_473 : Cond.instanceMethod yX4_toSand ∈ wsG := kT_3 (List.mem_of_getElem? (i := 214) rfl) rfl
theorem kw_474 : Cond.selects RX4 yX4_toSand yX4_toSand ∈ wsG := kT_3 (List.mem_of_getElem? (i := 215) rfl) rfl
theorem kw_475 : Cond.code yX4_toSand cX4_toSand 4 (some .int) ∈ wsG := kT_3 (List.mem_of_getElem? (i := 216) rfl) rfl
theorem kw_476 : Cond.methodLink RX4 139 yX4_sandNow ∈ wsG := kT_3 (List.mem_of_getElem? (i := 217) rfl) rfl
theorem kw_477 : Cond.instanceMethod yX4_sandNow ∈ wsG := kT_3 (List.mem_of_getElem? (i := 219) rfl) rfl
theorem kw_478 : Cond.selects RX4 yX4_sandNow yX4_sandNow ∈ wsG := kP_2 (List.mem_of_getElem? (i := 10) rfl) rfl
theorem kw_479 : Cond.code yX4_sandNow cX4_sandNow 8 (some .int) ∈ wsG := kT_3 (List.mem_of_getElem? (i := 220) rfl) rfl
theorem kw_480 : Cond.methodLink RX4 133 yX4_size ∈ wsG := kT_3 (List.mem_of_getElem? (i := 221) rfl) rfl
theorem kw_481 : Cond.static yX4_size ∈ wsG := kT_3 (List.mem_of_getElem? (i := 222) rfl) rfl
theorem kw_482 : Cond.code yX4_size cX4_size 3 (some .int) ∈ wsG := kT_3 (List.mem_of_getElem? (i := 223) rfl) rfl
theorem kw_483 : Cond.methodLink RX4 136 yX4_isDryAt ∈ wsG := kT_3 (List.mem_of_getElem? (i := 224) rfl) rfl
theorem kw_484 : Cond.instanceMethod yX4_isDryAt ∈ wsG := kT_3 (List.mem_of_getElem? (i := 226) rfl) rfl
theorem kw_485 : Cond.selects RX4 yX4_isDryAt yX4_isDryAt ∈ wsG := kP_2 (List.mem_of_getElem? (i := 11) rfl) rfl
theorem kw_486 : Cond.code yX4_isDryAt cX4_isDryAt 5 (some .boolean) ∈ wsG := kT_3 (List.mem_of_getElem? (i := 227) rfl) rfl
theorem kw_487 : Cond.methodLink RL 79 yX3_found ∈ wsG := kT_2 (List.mem_of_getElem? (i := 153) rfl) rfl
theorem kw_488 : Cond.instanceMethod yX3_found ∈ wsG := kT_2 (List.mem_of_getElem? (i := 154) rfl) rfl
theorem kw_489 : Cond.selects RX3 yX3_found yX3_found ∈ wsG := kT_2 (List.mem_of_getElem? (i := 155) rfl) rfl
theorem kw_490 : Cond.code yX3_found cX3_found 4 (some .int) ∈ wsG := kT_2 (List.mem_of_getElem? (i := 156) rfl) rfl
theorem kw_491 : Cond.methodLink RX3 153 yX1_addFound ∈ wsG := kT_2 (List.mem_of_getElem? (i := 157) rfl) rfl
theorem kw_492 : Cond.instanceMethod yX1_addFound ∈ wsG := kT_2 (List.mem_of_getElem? (i := 158) rfl) rfl
theorem kw_493 : Cond.selects RX1 yX1_addFound yX1_addFound ∈ wsG := kT_2 (List.mem_of_getElem? (i := 159) rfl) rfl
theorem kw_494 : Cond.code yX1_addFound cX1_addFound 4 (some .boolean) ∈ wsG := kT_2 (List.mem_of_getElem? (i := 160) rfl) rfl
theorem kw_495 : Cond.methodLink RL 82 yX4_found ∈ wsG := kT_3 (List.mem_of_getElem? (i := 228) rfl) rfl
theorem kw_496 : Cond.instanceMethod yX4_found ∈ wsG := kT_3 (List.mem_of_getElem? (i := 229) rfl) rfl
theorem kw_497 : Cond.selects RX4 yX4_found yX4_found ∈ wsG := kT_3 (List.mem_of_getElem? (i := 230) rfl) rfl
theorem kw_498 : Cond.code yX4_found cX4_found 4 (some .int) ∈ wsG := kT_3 (List.mem_of_getElem? (i := 231) rfl) rfl
theorem kw_499 : Cond.methodLink RL 83 yX3_forget ∈ wsG := kT_2 (List.mem_of_getElem? (i := 161) rfl) rfl
theorem kw_500 : Cond.instanceMethod yX3_forget ∈ wsG := kT_2 (List.mem_of_getElem? (i := 162) rfl) rfl
theorem kw_501 : Cond.selects RX3 yX3_forget yX3_forget ∈ wsG := kT_2 (List.mem_of_getElem? (i := 163) rfl) rfl
theorem kw_502 : Cond.code yX3_forget cX3_forget 2 (some .int) ∈ wsG := kT_2 (List.mem_of_getElem? (i := 164) rfl) rfl
theorem kw_503 : Cond.methodLink RL 86 yX4_forget ∈ wsG := kT_3 (List.mem_of_getElem? (i := 232) rfl) rfl
theorem kw_504 : Cond.instanceMethod yX4_forget ∈ wsG := kT_3 (List.mem_of_getElem? (i := 233) rfl) rfl
theorem kw_505 : Cond.selects RX4 yX4_forget yX4_forget ∈ wsG := kT_3 (List.mem_of_getElem? (i := 234) rfl) rfl
theorem kw_506 : Cond.code yX4_forget cX4_forget 2 (some .int) ∈ wsG := kT_3 (List.mem_of_getElem? (i := 235) rfl) rfl
theorem kw_507 : Cond.methodLink RL 87 yX3_look ∈ wsG := kT_2 (List.mem_of_getElem? (i := 165) rfl) rfl
theorem kw_508 : Cond.instanceMethod yX3_look ∈ wsG := kT_2 (List.mem_of_getElem? (i := 166) rfl) rfl
theorem kw_509 : Cond.selects RX3 yX3_look yX3_look ∈ wsG := kT_2 (List.mem_of_getElem? (i := 167) rfl) rfl
theorem kw_510 : Cond.code yX3_look cX3_look 8 (some .int) ∈ wsG := kT_2 (List.mem_of_getElem? (i := 168) rfl) rfl
theorem kw_511 : Cond.methodLink RX3 159 yX3_leftAtWorst ∈ wsG := kT_2 (List.mem_of_getElem? (i := 169) rfl) rfl
theorem kw_512 : Cond.instanceMethod yX3_leftAtWorst ∈ wsG := kT_2 (List.mem_of_getElem? (i := 171) rfl) rfl
theorem kw_513 : Cond.selects RX3 yX3_leftAtWorst yX3_leftAtWorst ∈ wsG := kP_1 (List.mem_of_getElem? (i := 10) rfl) rfl
theorem kw_514 : Cond.code yX3_leftAtWorst cX3_leftAtWorst 7 (some .int) ∈ wsG := kT_2 (List.mem_of_getElem? (i := 172) rfl) rfl
theorem kw_515 : Cond.methodLink RX3 252 Lib.Math.max.name ∈ wsG := kT_2 (List.mem_of_getElem? (i := 177) rfl) rfl
theorem kw_516 : Cond.methodLink RX3 249 yX3_countLike ∈ wsG := kT_2 (List.mem_of_getElem? (i := 173) rfl) rfl
theorem kw_517 : Cond.instanceMethod yX3_countLike ∈ wsG := kT_2 (List.mem_of_getElem? (i := 175) rfl) rfl
theorem kw_518 : Cond.selects RX3 yX3_countLike yX3_countLike ∈ wsG := kP_1 (List.mem_of_getElem? (i := 11) rfl) rfl
theorem kw_519 : Cond.code yX3_countLike cX3_countLike 6 (some .int) ∈ wsG := kT_2 (List.mem_of_getElem? (i := 176) rfl) rfl
theorem kw_520 : Cond.methodLink RL 90 yX4_look ∈ wsG := kT_3 (List.mem_of_getElem? (i := 236) rfl) rfl
theorem kw_521 : Cond.instanceMethod yX4_look ∈ wsG := kT_3 (List.mem_of_getElem? (i := 237) rfl) rfl
theorem kw_522 : Cond.selects RX4 yX4_look yX4_look ∈ wsG := kT_3 (List.mem_of_getElem? (i := 238) rfl) rfl
theorem kw_523 : Cond.code yX4_look cX4_look 3 (some .int) ∈ wsG := kT_3 (List.mem_of_getElem? (i := 239) rfl) rfl
theorem kw_524 : Cond.methodLink RX4 154 yX4_lookNow ∈ wsG := kT_4 (List.mem_of_getElem? (i := 0) rfl) rfl
theorem kw_525 : Cond.instanceMethod yX4_lookNow ∈ wsG := kT_4 (List.mem_of_getElem? (i := 2) rfl) rfl
theorem kw_526 : Cond.selects RX4 yX4_lookNow yX4_lookNow ∈ wsG := kP_2 (List.mem_of_getElem? (i := 12) rfl) rfl
theorem kw_527 : Cond.code yX4_lookNow cX4_lookNow 8 (some .int) ∈ wsG := kT_4 (List.mem_of_getElem? (i := 3) rfl) rfl
theorem kw_528 : Cond.constant RX4 146 (268435456) ∈ wsG := kT_4 (List.mem_of_getElem? (i := 4) rfl) rfl
theorem kw_529 : Cond.methodLink RX4 147 yX4_layComes ∈ wsG := kT_4 (List.mem_of_getElem? (i := 5) rfl) rfl
theorem kw_530 : Cond.instanceMethod yX4_layComes ∈ wsG := kT_4 (List.mem_of_getElem? (i := 7) rfl) rfl
theorem kw_531 : Cond.selects RX4 yX4_layComes yX4_layComes ∈ wsG := kP_2 (List.mem_of_getElem? (i := 13) rfl) rfl
theorem kw_532 : Cond.code yX4_layComes cX4_layComes 6 none ∈ wsG := kT_4 (List.mem_of_getElem? (i := 8) rfl) rfl
theorem kw_533 : Cond.methodLink RX4 151 yX4_worstAt ∈ wsG := kT_4 (List.mem_of_getElem? (i := 9) rfl) rfl
theorem kw_534 : Cond.instanceMethod yX4_worstAt ∈ wsG := kT_4 (List.mem_of_getElem? (i := 11) rfl) rfl
theorem kw_535 : Cond.selects RX4 yX4_worstAt yX4_worstAt ∈ wsG := kP_2 (List.mem_of_getElem? (i := 14) rfl) rfl
theorem kw_536 : Cond.code yX4_worstAt cX4_worstAt 7 (some .int) ∈ wsG := kT_4 (List.mem_of_getElem? (i := 12) rfl) rfl
theorem kw_537 : Cond.methodLink RL 91 yX3_years ∈ wsG := kT_2 (List.mem_of_getElem? (i := 178) rfl) rfl
theorem kw_538 : Cond.instanceMethod yX3_years ∈ wsG := kT_2 (List.mem_of_getElem? (i := 179) rfl) rfl
theorem kw_539 : Cond.selects RX3 yX3_years yX3_years ∈ wsG := kT_2 (List.mem_of_getElem? (i := 180) rfl) rfl
theorem kw_540 : Cond.code yX3_years cX3_years 6 (some .int) ∈ wsG := kT_2 (List.mem_of_getElem? (i := 181) rfl) rfl
theorem kw_541 : Cond.constant RX3 170 (65536) ∈ wsG := kT_2 (List.mem_of_getElem? (i := 191) rfl) rfl
theorem kw_542 : Cond.methodLink RX3 163 yX3_copyRow ∈ wsG := kT_2 (List.mem_of_getElem? (i := 182) rfl) rfl
theorem kw_543 : Cond.static yX3_copyRow ∈ wsG := kT_2 (List.mem_of_getElem? (i := 183) rfl) rfl
theorem kw_544 : Cond.code yX3_copyRow cX3_copyRow 3 none ∈ wsG := kT_2 (List.mem_of_getElem? (i := 184) rfl) rfl
theorem kw_545 : Cond.methodLink RX3 167 yX3_seedAfter ∈ wsG := kT_2 (List.mem_of_getElem? (i := 185) rfl) rfl
theorem kw_546 : Cond.static yX3_seedAfter ∈ wsG := kT_2 (List.mem_of_getElem? (i := 186) rfl) rfl
theorem kw_547 : Cond.code yX3_seedAfter cX3_seedAfter 1 (some .int) ∈ wsG := kT_2 (List.mem_of_getElem? (i := 187) rfl) rfl
theorem kw_548 : Cond.constantLong RX3 255 (1103515245) ∈ wsG := kT_2 (List.mem_of_getElem? (i := 188) rfl) rfl
theorem kw_549 : Cond.constantLong RX3 257 (12345) ∈ wsG := kT_2 (List.mem_of_getElem? (i := 189) rfl) rfl
theorem kw_550 : Cond.constantLong RX3 259 (2147483648) ∈ wsG := kT_2 (List.mem_of_getElem? (i := 190) rfl) rfl
theorem kw_551 : Cond.methodLink RX3 171 yX3_inkIn ∈ wsG := kT_2 (List.mem_of_getElem? (i := 192) rfl) rfl
theorem kw_552 : Cond.static yX3_inkIn ∈ wsG := kT_2 (List.mem_of_getElem? (i := 193) rfl) rfl
theorem kw_553 : Cond.code yX3_inkIn cX3_inkIn 3 (some .int) ∈ wsG := kT_2 (List.mem_of_getElem? (i := 194) rfl) rfl
theorem kw_554 : Cond.methodLink RX3 175 yX3_dryIn ∈ wsG := kT_2 (List.mem_of_getElem? (i := 195) rfl) rfl
theorem kw_555 : Cond.static yX3_dryIn ∈ wsG := kT_2 (List.mem_of_getElem? (i := 196) rfl) rfl
theorem kw_556 : Cond.code yX3_dryIn cX3_dryIn 3 (some .int) ∈ wsG := kT_2 (List.mem_of_getElem? (i := 197) rfl) rfl
theorem kw_557 : Cond.methodLink RL 94 yX4_years ∈ wsG := kT_4 (List.mem_of_getElem? (i := 13) rfl) rfl
theorem kw_558 : Cond.instanceMethod yX4_years ∈ wsG := kT_4 (List.mem_of_getElem? (i := 14) rfl) rfl
theorem kw_559 : Cond.selects RX4 yX4_years yX4_years ∈ wsG := kT_4 (List.mem_of_getElem? (i := 15) rfl) rfl
theorem kw_560 : Cond.code yX4_years cX4_years 4 (some .int) ∈ wsG := kT_4 (List.mem_of_getElem? (i := 16) rfl) rfl
theorem kw_561 : Cond.methodLink RX4 178 yX4_yearsNow ∈ wsG := kT_4 (List.mem_of_getElem? (i := 17) rfl) rfl
theorem kw_562 : Cond.instanceMethod yX4_yearsNow ∈ wsG := kT_4 (List.mem_of_getElem? (i := 19) rfl) rfl
theorem kw_563 : Cond.selects RX4 yX4_yearsNow yX4_yearsNow ∈ wsG := kP_2 (List.mem_of_getElem? (i := 15) rfl) rfl
theorem kw_564 : Cond.code yX4_yearsNow cX4_yearsNow 7 (some .int) ∈ wsG := kT_4 (List.mem_of_getElem? (i := 20) rfl) rfl
theorem kw_565 : Cond.fieldLink RX4 159 "BlotLandModel" "seedNow" "J" ∈ wsG := kT_3 (List.mem_of_getElem? (i := 18) rfl) rfl
theorem kw_566 : Cond.methodLink RX4 169 yX4_draw ∈ wsG := kT_4 (List.mem_of_getElem? (i := 21) rfl) rfl
theorem kw_567 : Cond.instanceMethod yX4_draw ∈ wsG := kT_4 (List.mem_of_getElem? (i := 23) rfl) rfl
theorem kw_568 : Cond.selects RX4 yX4_draw yX4_draw ∈ wsG := kP_3 (List.mem_of_getElem? (i := 0) rfl) rfl
theorem kw_569 : Cond.code yX4_draw cX4_draw 2 (some .int) ∈ wsG := kT_4 (List.mem_of_getElem? (i := 24) rfl) rfl
theorem kw_570 : Cond.constantLong RX4 157 (1103515245) ∈ wsG := kT_4 (List.mem_of_getElem? (i := 25) rfl) rfl
theorem kw_571 : Cond.constantLong RX4 163 (12345) ∈ wsG := kT_4 (List.mem_of_getElem? (i := 26) rfl) rfl
theorem kw_572 : Cond.constantLong RX4 165 (2147483647) ∈ wsG := kT_4 (List.mem_of_getElem? (i := 27) rfl) rfl
theorem kw_573 : Cond.constantLong RX4 167 (65536) ∈ wsG := kT_4 (List.mem_of_getElem? (i := 28) rfl) rfl
theorem kw_574 : Cond.methodLink RX4 172 yX4_inkAll ∈ wsG := kT_4 (List.mem_of_getElem? (i := 29) rfl) rfl
theorem kw_575 : Cond.instanceMethod yX4_inkAll ∈ wsG := kT_4 (List.mem_of_getElem? (i := 31) rfl) rfl
theorem kw_576 : Cond.selects RX4 yX4_inkAll yX4_inkAll ∈ wsG := kP_3 (List.mem_of_getElem? (i := 1) rfl) rfl
theorem kw_577 : Cond.code yX4_inkAll cX4_inkAll 3 (some .int) ∈ wsG := kT_4 (List.mem_of_getElem? (i := 32) rfl) rfl
theorem kw_578 : Cond.methodLink RX4 175 yX4_dry ∈ wsG := kT_4 (List.mem_of_getElem? (i := 33) rfl) rfl
theorem kw_579 : Cond.instanceMethod yX4_dry ∈ wsG := kT_4 (List.mem_of_getElem? (i := 35) rfl) rfl
theorem kw_580 : Cond.selects RX4 yX4_dry yX4_dry ∈ wsG := kP_3 (List.mem_of_getElem? (i := 2) rfl) rfl
theorem kw_581 : Cond.code yX4_dry cX4_dry 3 (some .int) ∈ wsG := kT_4 (List.mem_of_getElem? (i := 36) rfl) rfl
theorem kw_582 : Cond.methodLink RL 95 yX3_image ∈ wsG := kT_2 (List.mem_of_getElem? (i := 198) rfl) rfl
theorem kw_583 : Cond.instanceMethod yX3_image ∈ wsG := kT_2 (List.mem_of_getElem? (i := 199) rfl) rfl
theorem kw_584 : Cond.selects RX3 yX3_image yX3_image ∈ wsG := kT_2 (List.mem_of_getElem? (i := 200) rfl) rfl
theorem kw_585 : Cond.code yX3_image cX3_image 1 (some .int) ∈ wsG := kT_2 (List.mem_of_getElem? (i := 201) rfl) rfl
theorem kw_586 : Cond.methodLink RX3 178 yX1_copyFrom ∈ wsG := kT_2 (List.mem_of_getElem? (i := 202) rfl) rfl
theorem kw_587 : Cond.instanceMethod yX1_copyFrom ∈ wsG := kT_2 (List.mem_of_getElem? (i := 203) rfl) rfl
theorem kw_588 : Cond.selects RX1 yX1_copyFrom yX1_copyFrom ∈ wsG := kT_2 (List.mem_of_getElem? (i := 204) rfl) rfl
theorem kw_589 : Cond.code yX1_copyFrom cX1_copyFrom 2 none ∈ wsG := kT_2 (List.mem_of_getElem? (i := 205) rfl) rfl
theorem kw_590 : Cond.methodLink RL 98 yX4_image ∈ wsG := kT_4 (List.mem_of_getElem? (i := 37) rfl) rfl
theorem kw_591 : Cond.instanceMethod yX4_image ∈ wsG := kT_4 (List.mem_of_getElem? (i := 38) rfl) rfl
theorem kw_592 : Cond.selects RX4 yX4_image yX4_image ∈ wsG := kT_4 (List.mem_of_getElem? (i := 39) rfl) rfl
theorem kw_593 : Cond.code yX4_image cX4_image 2 (some .int) ∈ wsG := kT_4 (List.mem_of_getElem? (i := 40) rfl) rfl
theorem kw_594 : Cond.fieldLink RX4 181 "BlotLandModel" "isKept" "Z" ∈ wsG := kT_3 (List.mem_of_getElem? (i := 20) rfl) rfl
theorem kw_595 : Cond.fieldLink RX4 185 "BlotLandModel" "keptLeaf" "I" ∈ wsG := kT_3 (List.mem_of_getElem? (i := 21) rfl) rfl
theorem kw_596 : Cond.fieldLink RX4 188 "BlotLandModel" "keptStrokes" "I" ∈ wsG := kT_3 (List.mem_of_getElem? (i := 22) rfl) rfl
theorem kw_597 : Cond.fieldLink RX4 191 "BlotLandModel" "keptSanded" "I" ∈ wsG := kT_3 (List.mem_of_getElem? (i := 23) rfl) rfl
theorem kw_598 : Cond.fieldLink RX4 194 "BlotLandModel" "keptEvenings" "I" ∈ wsG := kT_3 (List.mem_of_getElem? (i := 24) rfl) rfl
theorem kw_599 : Cond.fieldLink RX4 197 "BlotLandModel" "keptFound" "I" ∈ wsG := kT_3 (List.mem_of_getElem? (i := 25) rfl) rfl
theorem kw_600 : Cond.methodLink RL 99 yX3_restore ∈ wsG := kT_2 (List.mem_of_getElem? (i := 207) rfl) rfl
theorem kw_601 : Cond.instanceMethod yX3_restore ∈ wsG := kT_2 (List.mem_of_getElem? (i := 208) rfl) rfl
theorem kw_602 : Cond.selects RX3 yX3_restore yX3_restore ∈ wsG := kT_2 (List.mem_of_getElem? (i := 209) rfl) rfl
theorem kw_603 : Cond.code yX3_restore cX3_restore 1 (some .int) ∈ wsG := kT_2 (List.mem_of_getElem? (i := 210) rfl) rfl
theorem kw_604 : Cond.methodLink RL 102 yX4_restore ∈ wsG := kT_4 (List.mem_of_getElem? (i := 41) rfl) rfl
theorem kw_605 : Cond.instanceMethod yX4_restore ∈ wsG := kT_4 (List.mem_of_getElem? (i := 42) rfl) rfl
theorem kw_606 : Cond.selects RX4 yX4_restore yX4_restore ∈ wsG := kT_4 (List.mem_of_getElem? (i := 43) rfl) rfl
theorem kw_607 : Cond.code yX4_restore cX4_restore 2 (some .int) ∈ wsG := kT_4 (List.mem_of_getElem? (i := 44) rfl) rfl
theorem kw_608 : Cond.methodLink RL 103 yX3_count ∈ wsG := kT_2 (List.mem_of_getElem? (i := 211) rfl) rfl
theorem kw_609 : Cond.instanceMethod yX3_count ∈ wsG := kT_2 (List.mem_of_getElem? (i := 212) rfl) rfl
theorem kw_610 : Cond.selects RX3 yX3_count yX3_count ∈ wsG := kT_2 (List.mem_of_getElem? (i := 213) rfl) rfl
theorem kw_611 : Cond.code yX3_count cX3_count 2 (some .int) ∈ wsG := kT_2 (List.mem_of_getElem? (i := 214) rfl) rfl
theorem kw_612 : Cond.methodLink RL 106 yX4_count ∈ wsG := kT_4 (List.mem_of_getElem? (i := 45) rfl) rfl
theorem kw_613 : Cond.instanceMethod yX4_count ∈ wsG := kT_4 (List.mem_of_getElem? (i := 46) rfl) rfl
theorem kw_614 : Cond.selects RX4 yX4_count yX4_count ∈ wsG := kT_4 (List.mem_of_getElem? (i := 47) rfl) rfl
theorem kw_615 : Cond.code yX4_count cX4_count 2 (some .int) ∈ wsG := kT_4 (List.mem_of_getElem? (i := 48) rfl) rfl
theorem kw_616 : Cond.methodLink RX4 200 yX4_howMany ∈ wsG := kT_4 (List.mem_of_getElem? (i := 49) rfl) rfl
theorem kw_617 : Cond.instanceMethod yX4_howMany ∈ wsG := kT_4 (List.mem_of_getElem? (i := 51) rfl) rfl
theorem kw_618 : Cond.selects RX4 yX4_howMany yX4_howMany ∈ wsG := kP_3 (List.mem_of_getElem? (i := 3) rfl) rfl
theorem kw_619 : Cond.code yX4_howMany cX4_howMany 2 (some .int) ∈ wsG := kT_4 (List.mem_of_getElem? (i := 52) rfl) rfl
theorem kw_620 : Cond.methodLink RL 107 yX3_digest ∈ wsG := kT_2 (List.mem_of_getElem? (i := 215) rfl) rfl
theorem kw_621 : Cond.instanceMethod yX3_digest ∈ wsG := kT_2 (List.mem_of_getElem? (i := 216) rfl) rfl
theorem kw_622 : Cond.selects RX3 yX3_digest yX3_digest ∈ wsG := kT_2 (List.mem_of_getElem? (i := 217) rfl) rfl
theorem kw_623 : Cond.code yX3_digest cX3_digest 5 (some .long) ∈ wsG := kT_2 (List.mem_of_getElem? (i := 218) rfl) rfl
theorem kw_624 : Cond.constantLong RX3 185 (1049) ∈ wsG := kT_2 (List.mem_of_getElem? (i := 219) rfl) rfl
theorem kw_625 : Cond.methodLink RX3 187 yX3_about ∈ wsG := kT_2 (List.mem_of_getElem? (i := 220) rfl) rfl
theorem kw_626 : Cond.methodLink RX3 190 yX3_mixed ∈ wsG := kT_2 (List.mem_of_getElem? (i := 221) rfl) rfl
theorem kw_627 : Cond.static yX3_mixed ∈ wsG := kT_2 (List.mem_of_getElem? (i := 222) rfl) rfl
theorem kw_628 : Cond.code yX3_mixed cX3_mixed 4 (some .long) ∈ wsG := kT_2 (List.mem_of_getElem? (i := 223) rfl) rfl
theorem kw_629 : Cond.constantLong RX3 223 (31) ∈ wsG := kT_2 (List.mem_of_getElem? (i := 224) rfl) rfl
theorem kw_630 : Cond.methodLink RX3 197 yX3_look ∈ wsG := kT_2 (List.mem_of_getElem? (i := 225) rfl) rfl
theorem kw_631 : Cond.methodLink RX3 200 yX3_withLand ∈ wsG := kT_2 (List.mem_of_getElem? (i := 226) rfl) rfl
theorem kw_632 : Cond.instanceMethod yX3_withLand ∈ wsG := kT_2 (List.mem_of_getElem? (i := 228) rfl) rfl
theorem kw_633 : Cond.selects RX3 yX3_withLand yX3_withLand ∈ wsG := kP_1 (List.mem_of_getElem? (i := 12) rfl) rfl
theorem kw_634 : Cond.code yX3_withLand cX3_withLand 6 (some .long) ∈ wsG := kT_2 (List.mem_of_getElem? (i := 229) rfl) rfl
theorem kw_635 : Cond.methodLink RX3 210 yX3_ink ∈ wsG := kT_2 (List.mem_of_getElem? (i := 230) rfl) rfl
theorem kw_636 : Cond.methodLink RX3 213 yX3_comes ∈ wsG := kT_2 (List.mem_of_getElem? (i := 231) rfl) rfl
theorem kw_637 : Cond.methodLink RX3 216 yX3_hills ∈ wsG := kT_2 (List.mem_of_getElem? (i := 232) rfl) rfl
theorem kw_638 : Cond.methodLink RX3 219 yX3_toSand ∈ wsG := kT_2 (List.mem_of_getElem? (i := 233) rfl) rfl
theorem kw_639 : Cond.methodLink RX3 204 yX0_codeAt ∈ wsG := kT_2 (List.mem_of_getElem? (i := 234) rfl) rfl
theorem kw_640 : Cond.methodLink RX3 207 yX3_count ∈ wsG := kT_2 (List.mem_of_getElem? (i := 235) rfl) rfl
theorem kw_641 : Cond.methodLink RL 111 yX4_digest ∈ wsG := kT_4 (List.mem_of_getElem? (i := 53) rfl) rfl
theorem kw_642 : Cond.instanceMethod yX4_digest ∈ wsG := kT_4 (List.mem_of_getElem? (i := 54) rfl) rfl
theorem kw_643 : Cond.selects RX4 yX4_digest yX4_digest ∈ wsG := kT_4 (List.mem_of_getElem? (i := 55) rfl) rfl
theorem kw_644 : Cond.code yX4_digest cX4_digest 3 (some .long) ∈ wsG := kT_4 (List.mem_of_getElem? (i := 56) rfl) rfl
theorem kw_645 : Cond.constantLong RX4 208 (1049) ∈ wsG := kT_4 (List.mem_of_getElem? (i := 57) rfl) rfl
theorem kw_646 : Cond.fieldLink RX4 205 "BlotLandModel" "h" "J" ∈ wsG := kT_3 (List.mem_of_getElem? (i := 30) rfl) rfl
theorem kw_647 : Cond.methodLink RX4 210 yX4_mix ∈ wsG := kT_4 (List.mem_of_getElem? (i := 58) rfl) rfl
theorem kw_648 : Cond.instanceMethod yX4_mix ∈ wsG := kT_4 (List.mem_of_getElem? (i := 60) rfl) rfl
theorem kw_649 : Cond.selects RX4 yX4_mix yX4_mix ∈ wsG := kP_3 (List.mem_of_getElem? (i := 4) rfl) rfl
theorem kw_650 : Cond.code yX4_mix cX4_mix 3 none ∈ wsG := kT_4 (List.mem_of_getElem? (i := 61) rfl) rfl
theorem kw_651 : Cond.constantLong RX4 203 (31) ∈ wsG := kT_4 (List.mem_of_getElem? (i := 62) rfl) rfl
theorem inlX0 : ∀ w ∈ wsX00, w ∈ wsG := by
  intro w h
  obtain ⟨k, hk, rfl⟩ := List.mem_map.mp h
  have hk := List.mem_range.mp hk
  match k, hk with
  | 0, _ => exact kT_1 (List.mem_of_getElem? (i := 30) rfl) rfl
  | 1, _ => exact kT_1 (List.mem_of_getElem? (i := 32) rfl) rfl
  | k + 2, hk => exact absurd hk (by omega)
theorem inlX1 : ∀ w ∈ wsX10, w ∈ wsG := by
  intro w h
  obtain ⟨k, hk, rfl⟩ := List.mem_map.mp h
  have hk := List.mem_range.mp hk
  match k, hk with
  | 0, _ => exact kT_1 (List.mem_of_getElem? (i := 60) rfl) rfl
  | 1, _ => exact kT_1 (List.mem_of_getElem? (i := 62) rfl) rfl
  | 2, _ => exact kT_1 (List.mem_of_getElem? (i := 64) rfl) rfl
  | 3, _ => exact kT_1 (List.mem_of_getElem? (i := 66) rfl) rfl
  | 4, _ => exact kT_1 (List.mem_of_getElem? (i := 68) rfl) rfl
  | 5, _ => exact kT_1 (List.mem_of_getElem? (i := 70) rfl) rfl
  | 6, _ => exact kT_1 (List.mem_of_getElem? (i := 72) rfl) rfl
  | 7, _ => exact kT_1 (List.mem_of_getElem? (i := 74) rfl) rfl
  | k + 8, hk => exact absurd hk (by omega)
theorem inlX2 : ∀ w ∈ wsX20, w ∈ wsG := by
  intro w h
  obtain ⟨k, hk, rfl⟩ := List.mem_map.mp h
  have hk := List.mem_range.mp hk
  match k, hk with
  | 0, _ => exact kT_1 (List.mem_of_getElem? (i := 91) rfl) rfl
  | 1, _ => exact kT_1 (List.mem_of_getElem? (i := 93) rfl) rfl
  | 2, _ => exact kT_1 (List.mem_of_getElem? (i := 95) rfl) rfl
  | 3, _ => exact kT_1 (List.mem_of_getElem? (i := 97) rfl) rfl
  | 4, _ => exact kT_1 (List.mem_of_getElem? (i := 99) rfl) rfl
  | k + 5, hk => exact absurd hk (by omega)
theorem inlX3 : ∀ w ∈ wsX30, w ∈ wsG := by
  intro w h
  obtain ⟨k, hk, rfl⟩ := List.mem_map.mp h
  have hk := List.mem_range.mp hk
  match k, hk with
  | 0, _ => exact kT_1 (List.mem_of_getElem? (i := 110) rfl) rfl
  | 1, _ => exact kT_1 (List.mem_of_getElem? (i := 112) rfl) rfl
  | 2, _ => exact kT_1 (List.mem_of_getElem? (i := 114) rfl) rfl
  | 3, _ => exact kT_1 (List.mem_of_getElem? (i := 116) rfl) rfl
  | 4, _ => exact kT_1 (List.mem_of_getElem? (i := 118) rfl) rfl
  | 5, _ => exact kT_1 (List.mem_of_getElem? (i := 120) rfl) rfl
  | 6, _ => exact kT_1 (List.mem_of_getElem? (i := 122) rfl) rfl
  | 7, _ => exact kT_1 (List.mem_of_getElem? (i := 124) rfl) rfl
  | k + 8, hk => exact absurd hk (by omega)
theorem inlX4 : ∀ w ∈ wsX40, w ∈ wsG := by
  intro w h
  obtain ⟨k, hk, rfl⟩ := List.mem_map.mp h
  have hk := List.mem_range.mp hk
  match k, hk with
  | 0, _ => exact kT_3 (List.mem_of_getElem? (i := 31) rfl) rfl
  | 1, _ => exact kT_3 (List.mem_of_getElem? (i := 33) rfl) rfl
  | 2, _ => exact kT_3 (List.mem_of_getElem? (i := 35) rfl) rfl
  | 3, _ => exact kT_3 (List.mem_of_getElem? (i := 37) rfl) rfl
  | 4, _ => exact kT_3 (List.mem_of_getElem? (i := 39) rfl) rfl
  | 5, _ => exact kT_3 (List.mem_of_getElem? (i := 41) rfl) rfl
  | 6, _ => exact kT_3 (List.mem_of_getElem? (i := 43) rfl) rfl
  | 7, _ => exact kT_3 (List.mem_of_getElem? (i := 45) rfl) rfl
  | 8, _ => exact kT_3 (List.mem_of_getElem? (i := 47) rfl) rfl
  | 9, _ => exact kT_3 (List.mem_of_getElem? (i := 49) rfl) rfl
  | 10, _ => exact kT_3 (List.mem_of_getElem? (i := 51) rfl) rfl
  | 11, _ => exact kT_3 (List.mem_of_getElem? (i := 53) rfl) rfl
  | 12, _ => exact kT_3 (List.mem_of_getElem? (i := 55) rfl) rfl
  | 13, _ => exact kT_3 (List.mem_of_getElem? (i := 57) rfl) rfl
  | 14, _ => exact kT_3 (List.mem_of_getElem? (i := 59) rfl) rfl
  | 15, _ => exact kT_3 (List.mem_of_getElem? (i := 61) rfl) rfl
  | 16, _ => exact kT_3 (List.mem_of_getElem? (i := 63) rfl) rfl
  | 17, _ => exact kT_3 (List.mem_of_getElem? (i := 65) rfl) rfl
  | 18, _ => exact kT_3 (List.mem_of_getElem? (i := 67) rfl) rfl
  | 19, _ => exact kT_3 (List.mem_of_getElem? (i := 69) rfl) rfl
  | 20, _ => exact kT_3 (List.mem_of_getElem? (i := 71) rfl) rfl
  | 21, _ => exact kT_3 (List.mem_of_getElem? (i := 73) rfl) rfl
  | 22, _ => exact kT_3 (List.mem_of_getElem? (i := 75) rfl) rfl
  | 23, _ => exact kT_3 (List.mem_of_getElem? (i := 77) rfl) rfl
  | 24, _ => exact kT_3 (List.mem_of_getElem? (i := 79) rfl) rfl
  | 25, _ => exact kT_3 (List.mem_of_getElem? (i := 81) rfl) rfl
  | 26, _ => exact kT_3 (List.mem_of_getElem? (i := 83) rfl) rfl
  | 27, _ => exact kT_3 (List.mem_of_getElem? (i := 85) rfl) rfl
  | 28, _ => exact kT_3 (List.mem_of_getElem? (i := 87) rfl) rfl
  | k + 29, hk => exact absurd hk (by omega)
def nestF : List (String × Nat × String × String × String × String) := [(RX3, 54, "BlotLand$Page", "size", "I", "BlotLand"), (RX3, 112, "BlotLand$State", "strokes", "I", "BlotLand"), (RX3, 182, "BlotLand$State", "sanded", "I", "BlotLand"), (RX3, 134, "BlotLand$State", "evenings", "I", "BlotLand"), (RX3, 156, "BlotLand$State", "found", "I", "BlotLand"), (RX3, 128, "BlotLand$State", "inkRow", "[I", "BlotLand"), (RX3, 240, "BlotLand$State", "foundCell", "[I", "BlotLand"), (RX3, 243, "BlotLand$State", "foundMinute", "[I", "BlotLand"), (RX3, 246, "BlotLand$State", "foundMuch", "[I", "BlotLand"), (RX3, 82, "BlotLand$Stroke", "kind", "I", "BlotLand"), (RX3, 85, "BlotLand$Stroke", "first", "I", "BlotLand"), (RX3, 88, "BlotLand$Stroke", "cells", "I", "BlotLand"), (RX3, 91, "BlotLand$Stroke", "press", "I", "BlotLand")]
def nestM : List (String × Nat × MethodName × String) := [(RX3, 9, yX0_init, "BlotLand"), (RX3, 24, yX1_init, "BlotLand"), (RX1, 37, yX3_copyRow, "BlotLand")]
/-- the nest mates' links: facts of the machine that stay -/
def NF (U : State) : Prop := (∀ q ∈ nestF, va_Nw (.fieldLinkNest q.1 q.2.1 q.2.2.1 q.2.2.2.1 q.2.2.2.2.1 q.2.2.2.2.2) U) ∧ ∀ q ∈ nestM, va_Nw (.methodLinkNest q.1 q.2.1 q.2.2.1 q.2.2.2) U
theorem NF.warm {s U : State} (hW : s.WarmedH U.vm) (h : NF s) : NF U := ⟨fun q hq => va_Nw.warmF hW (h.1 q hq), fun q hq => va_Nw.warmM hW (h.2 q hq)⟩
theorem NF.same {u U : State} (hv : u.vm = U.vm) (h : NF u) : NF U := ⟨fun q hq => va_Nw.same rfl hv (h.1 q hq), fun q hq => va_Nw.same rfl hv (h.2 q hq)⟩
theorem nfF_0 {s : State} {args : Array Value} (h : NF s) : (Cond.fieldLinkNest RX3 54 "BlotLand$Page" "size" "I" "BlotLand").before args s = true := va_Nw.use rfl (h.1 _ (List.mem_of_getElem? (i := 0) rfl))
theorem nfF_1 {s : State} {args : Array Value} (h : NF s) : (Cond.fieldLinkNest RX3 112 "BlotLand$State" "strokes" "I" "BlotLand").before args s = true := va_Nw.use rfl (h.1 _ (List.mem_of_getElem? (i := 1) rfl))
theorem nfF_2 {s : State} {args : Array Value} (h : NF s) : (Cond.fieldLinkNest RX3 182 "BlotLand$State" "sanded" "I" "BlotLand").before args s = true := va_Nw.use rfl (h.1 _ (List.mem_of_getElem? (i := 2) rfl))
theorem nfF_3 {s : State} {args : Array Value} (h : NF s) : (Cond.fieldLinkNest RX3 134 "BlotLand$State" "evenings" "I" "BlotLand").before args s = true := va_Nw.use rfl (h.1 _ (List.mem_of_getElem? (i := 3) rfl))
theorem nfF_4 {s : State} {args : Array Value} (h : NF s) : (Cond.fieldLinkNest RX3 156 "BlotLand$State" "found" "I" "BlotLand").before args s = true := va_Nw.use rfl (h.1 _ (List.mem_of_getElem? (i := 4) rfl))
theorem nfF_5 {s : State} {args : Array Value} (h : NF s) : (Cond.fieldLinkNest RX3 128 "BlotLand$State" "inkRow" "[I" "BlotLand").before args s = true := va_Nw.use rfl (h.1 _ (List.mem_of_getElem? (i := 5) rfl))
theorem nfF_6 {s : State} {args : Array Value} (h : NF s) : (Cond.fieldLinkNest RX3 240 "BlotLand$State" "foundCell" "[I" "BlotLand").before args s = true := va_Nw.use rfl (h.1 _ (List.mem_of_getElem? (i := 6) rfl))
theorem nfF_7 {s : State} {args : Array Value} (h : NF s) : (Cond.fieldLinkNest RX3 243 "BlotLand$State" "foundMinute" "[I" "BlotLand").before args s = true := va_Nw.use rfl (h.1 _ (List.mem_of_getElem? (i := 7) rfl))
theorem nfF_8 {s : State} {args : Array Value} (h : NF s) : (Cond.fieldLinkNest RX3 246 "BlotLand$State" "foundMuch" "[I" "BlotLand").before args s = true := va_Nw.use rfl (h.1 _ (List.mem_of_getElem? (i := 8) rfl))
theorem nfF_9 {s : State} {args : Array Value} (h : NF s) : (Cond.fieldLinkNest RX3 82 "BlotLand$Stroke" "kind" "I" "BlotLand").before args s = true := va_Nw.use rfl (h.1 _ (List.mem_of_getElem? (i := 9) rfl))
theorem nfF_10 {s : State} {args : Array Value} (h : NF s) : (Cond.fieldLinkNest RX3 85 "BlotLand$Stroke" "first" "I" "BlotLand").before args s = true := va_Nw.use rfl (h.1 _ (List.mem_of_getElem? (i := 10) rfl))
theorem nfF_11 {s : State} {args : Array Value} (h : NF s) : (Cond.fieldLinkNest RX3 88 "BlotLand$Stroke" "cells" "I" "BlotLand").before args s = true := va_Nw.use rfl (h.1 _ (List.mem_of_getElem? (i := 11) rfl))
theorem nfF_12 {s : State} {args : Array Value} (h : NF s) : (Cond.fieldLinkNest RX3 91 "BlotLand$Stroke" "press" "I" "BlotLand").before args s = true := va_Nw.use rfl (h.1 _ (List.mem_of_getElem? (i := 12) rfl))
theorem nfM_0 {s : State} (h : NF s) : va_Nw (.methodLinkNest RX3 9 yX0_init "BlotLand") s := h.2 _ (List.mem_of_getElem? (i := 0) rfl)
theorem nfM_1 {s : State} (h : NF s) : va_Nw (.methodLinkNest RX3 24 yX1_init "BlotLand") s := h.2 _ (List.mem_of_getElem? (i := 1) rfl)
theorem nfM_2 {s : State} (h : NF s) : va_Nw (.methodLinkNest RX1 37 yX3_copyRow "BlotLand") s := h.2 _ (List.mem_of_getElem? (i := 2) rfl)
theorem NF.of {args : Array Value} {s : State} (hts : ∀ w ∈ lw_tbl, w.before args s = true) : NF s := by
  refine ⟨fun q hq => ?_, fun q hq => ?_⟩
  · obtain ⟨i, hi⟩ := List.getElem?_of_mem hq
    match i, hi with
    | 0, hi => cases hi; exact va_Nw.of rfl (hts _ (List.mem_append_right _ (List.mem_append_left _ (List.mem_of_getElem? (i := 29) rfl))))
    | 1, hi => cases hi; exact va_Nw.of rfl (hts _ (List.mem_append_right _ (List.mem_append_left _ (List.mem_of_getElem? (i := 45) rfl))))
    | 2, hi => cases hi; exact va_Nw.of rfl (hts _ (List.mem_append_right _ (List.mem_append_left _ (List.mem_of_getElem? (i := 47) rfl))))
    | 3, hi => cases hi; exact va_Nw.of rfl (hts _ (List.mem_append_right _ (List.mem_append_left _ (List.mem_of_getElem? (i := 49) rfl))))
    | 4, hi => cases hi; exact va_Nw.of rfl (hts _ (List.mem_append_right _ (List.mem_append_left _ (List.mem_of_getElem? (i := 51) rfl))))
    | 5, hi => cases hi; exact va_Nw.of rfl (hts _ (List.mem_append_right _ (List.mem_append_left _ (List.mem_of_getElem? (i := 53) rfl))))
    | 6, hi => cases hi; exact va_Nw.of rfl (hts _ (List.mem_append_right _ (List.mem_append_left _ (List.mem_of_getElem? (i := 55) rfl))))
    | 7, hi => cases hi; exact va_Nw.of rfl (hts _ (List.mem_append_right _ (List.mem_append_left _ (List.mem_of_getElem? (i := 57) rfl))))
    | 8, hi => cases hi; exact va_Nw.of rfl (hts _ (List.mem_append_right _ (List.mem_append_left _ (List.mem_of_getElem? (i := 59) rfl))))
    | 9, hi => cases hi; exact va_Nw.of rfl (hts _ (List.mem_append_right _ (List.mem_append_left _ (List.mem_of_getElem? (i := 84) rfl))))
    | 10, hi => cases hi; exact va_Nw.of rfl (hts _ (List.mem_append_right _ (List.mem_append_left _ (List.mem_of_getElem? (i := 86) rfl))))
    | 11, hi => cases hi; exact va_Nw.of rfl (hts _ (List.mem_append_right _ (List.mem_append_left _ (List.mem_of_getElem? (i := 88) rfl))))
    | 12, hi => cases hi; exact va_Nw.of rfl (hts _ (List.mem_append_right _ (List.mem_append_left _ (List.mem_of_getElem? (i := 90) rfl))))
    | i + 13, hi => exact absurd hi (by simp [nestF])
  · obtain ⟨i, hi⟩ := List.getElem?_of_mem hq
    match i, hi with
    | 0, hi => cases hi; exact va_Nw.of rfl (hts _ (List.mem_append_right _ (List.mem_append_left _ (List.mem_of_getElem? (i := 23) rfl))))
    | 1, hi => cases hi; exact va_Nw.of rfl (hts _ (List.mem_append_right _ (List.mem_append_left _ (List.mem_of_getElem? (i := 40) rfl))))
    | 2, hi => cases hi; exact va_Nw.of rfl (hts _ (List.mem_append_right _ (List.mem_append_right _ (List.mem_append_left _ (List.mem_of_getElem? (i := 206) rfl)))))
    | i + 3, hi => exact absurd hi (by simp [nestM])
theorem kw_obj : Cond.code objectInit ⟨#[0xb1]⟩ 1 none ∈ wsG := kT_1 (List.mem_of_getElem? (i := 20) rfl) rfl
end
section
theorem dX0_init_0 : decode cX0_init 0 = .ok (.aload_n 0, 1) := by decide +kernel
theorem dX0_init_1 : decode cX0_init 1 = .ok (.invokespecial 3, 3) := by decide +kernel
theorem dX0_init_4 : decode cX0_init 4 = .ok (.aload_n 0, 1) := by decide +kernel
theorem dX0_init_5 : decode cX0_init 5 = .ok (.bipush 21, 2) := by decide +kernel
theorem dX0_init_7 : decode cX0_init 7 = .ok (.newarray .int, 2) := by decide +kernel
theorem dX0_init_9 : decode cX0_init 9 = .ok (.putfield 9, 3) := by decide +kernel
theorem dX0_init_12 : decode cX0_init 12 = .ok (.aload_n 0, 1) := by decide +kernel
theorem dX0_init_13 : decode cX0_init 13 = .ok (.iconst 0, 1) := by decide +kernel
theorem dX0_init_14 : decode cX0_init 14 = .ok (.putfield 15, 3) := by decide +kernel
theorem dX0_init_17 : decode cX0_init 17 = .ok (.return_, 1) := by decide +kernel
theorem dX0_append_0 : decode cX0_append 0 = .ok (.aload_n 0, 1) := by decide +kernel
theorem dX0_append_1 : decode cX0_append 1 = .ok (.getfield 15, 3) := by decide +kernel
theorem dX0_append_4 : decode cX0_append 4 = .ok (.ifCond .lt 15, 3) := by decide +kernel
theorem dX0_append_7 : decode cX0_append 7 = .ok (.aload_n 0, 1) := by decide +kernel
theorem dX0_append_8 : decode cX0_append 8 = .ok (.getfield 15, 3) := by decide +kernel
theorem dX0_append_11 : decode cX0_append 11 = .ok (.aload_n 0, 1) := by decide +kernel
theorem dX0_append_12 : decode cX0_append 12 = .ok (.getfield 9, 3) := by decide +kernel
theorem dX0_append_15 : decode cX0_append 15 = .ok (.arraylength, 1) := by decide +kernel
theorem dX0_append_16 : decode cX0_append 16 = .ok (.if_icmp .lt 5, 3) := by decide +kernel
theorem dX0_append_19 : decode cX0_append 19 = .ok (.iconst 0, 1) := by decide +kernel
theorem dX0_append_20 : decode cX0_append 20 = .ok (.ireturn, 1) := by decide +kernel
theorem dX0_append_21 : decode cX0_append 21 = .ok (.aload_n 0, 1) := by decide +kernel
theorem dX0_append_22 : decode cX0_append 22 = .ok (.getfield 9, 3) := by decide +kernel
theorem dX0_append_25 : decode cX0_append 25 = .ok (.aload_n 0, 1) := by decide +kernel
theorem dX0_append_26 : decode cX0_append 26 = .ok (.getfield 15, 3) := by decide +kernel
theorem dX0_append_29 : decode cX0_append 29 = .ok (.iload_n 1, 1) := by decide +kernel
theorem dX0_append_30 : decode cX0_append 30 = .ok (.iastore, 1) := by decide +kernel
theorem dX0_append_31 : decode cX0_append 31 = .ok (.aload_n 0, 1) := by decide +kernel
theorem dX0_append_32 : decode cX0_append 32 = .ok (.dup, 1) := by decide +kernel
theorem dX0_append_33 : decode cX0_append 33 = .ok (.getfield 15, 3) := by decide +kernel
theorem dX0_append_36 : decode cX0_append 36 = .ok (.iconst 1, 1) := by decide +kernel
theorem dX0_append_37 : decode cX0_append 37 = .ok (.iadd, 1) := by decide +kernel
theorem dX0_append_38 : decode cX0_append 38 = .ok (.putfield 15, 3) := by decide +kernel
theorem dX0_append_41 : decode cX0_append 41 = .ok (.iconst 1, 1) := by decide +kernel
theorem dX0_append_42 : decode cX0_append 42 = .ok (.ireturn, 1) := by decide +kernel
theorem dX0_codeAt_0 : decode cX0_codeAt 0 = .ok (.iload_n 1, 1) := by decide +kernel
theorem dX0_codeAt_1 : decode cX0_codeAt 1 = .ok (.ifCond .lt 21, 3) := by decide +kernel
theorem dX0_codeAt_4 : decode cX0_codeAt 4 = .ok (.iload_n 1, 1) := by decide +kernel
theorem dX0_codeAt_5 : decode cX0_codeAt 5 = .ok (.aload_n 0, 1) := by decide +kernel
theorem dX0_codeAt_6 : decode cX0_codeAt 6 = .ok (.getfield 9, 3) := by decide +kernel
theorem dX0_codeAt_9 : decode cX0_codeAt 9 = .ok (.arraylength, 1) := by decide +kernel
theorem dX0_codeAt_10 : decode cX0_codeAt 10 = .ok (.if_icmp .ge 12, 3) := by decide +kernel
theorem dX0_codeAt_13 : decode cX0_codeAt 13 = .ok (.aload_n 0, 1) := by decide +kernel
theorem dX0_codeAt_14 : decode cX0_codeAt 14 = .ok (.getfield 9, 3) := by decide +kernel
theorem dX0_codeAt_17 : decode cX0_codeAt 17 = .ok (.iload_n 1, 1) := by decide +kernel
theorem dX0_codeAt_18 : decode cX0_codeAt 18 = .ok (.iaload, 1) := by decide +kernel
theorem dX0_codeAt_19 : decode cX0_codeAt 19 = .ok (.goto 4, 3) := by decide +kernel
theorem dX0_codeAt_22 : decode cX0_codeAt 22 = .ok (.iconst 0, 1) := by decide +kernel
theorem dX0_codeAt_23 : decode cX0_codeAt 23 = .ok (.ireturn, 1) := by decide +kernel
theorem dX0_digitAt_0 : decode cX0_digitAt 0 = .ok (.aload_n 0, 1) := by decide +kernel
theorem dX0_digitAt_1 : decode cX0_digitAt 1 = .ok (.iload_n 1, 1) := by decide +kernel
theorem dX0_digitAt_2 : decode cX0_digitAt 2 = .ok (.invokevirtual 19, 3) := by decide +kernel
theorem dX0_digitAt_5 : decode cX0_digitAt 5 = .ok (.bipush 48, 2) := by decide +kernel
theorem dX0_digitAt_7 : decode cX0_digitAt 7 = .ok (.isub, 1) := by decide +kernel
theorem dX0_digitAt_8 : decode cX0_digitAt 8 = .ok (.ireturn, 1) := by decide +kernel
theorem dX0_kindAt_0 : decode cX0_kindAt 0 = .ok (.ldc 23, 2) := by decide +kernel
theorem dX0_kindAt_2 : decode cX0_kindAt 2 = .ok (.aload_n 0, 1) := by decide +kernel
theorem dX0_kindAt_3 : decode cX0_kindAt 3 = .ok (.iload_n 1, 1) := by decide +kernel
theorem dX0_kindAt_4 : decode cX0_kindAt 4 = .ok (.invokevirtual 19, 3) := by decide +kernel
theorem dX0_kindAt_7 : decode cX0_kindAt 7 = .ok (.i2c, 1) := by decide +kernel
theorem dX0_kindAt_8 : decode cX0_kindAt 8 = .ok (.invokevirtual 25, 3) := by decide +kernel
theorem dX0_kindAt_11 : decode cX0_kindAt 11 = .ok (.ireturn, 1) := by decide +kernel
theorem dX0_isLeaf_0 : decode cX0_isLeaf 0 = .ok (.aload_n 0, 1) := by decide +kernel
theorem dX0_isLeaf_1 : decode cX0_isLeaf 1 = .ok (.getfield 15, 3) := by decide +kernel
theorem dX0_isLeaf_4 : decode cX0_isLeaf 4 = .ok (.iconst 5, 1) := by decide +kernel
theorem dX0_isLeaf_5 : decode cX0_isLeaf 5 = .ok (.irem, 1) := by decide +kernel
theorem dX0_isLeaf_6 : decode cX0_isLeaf 6 = .ok (.iconst 4, 1) := by decide +kernel
theorem dX0_isLeaf_7 : decode cX0_isLeaf 7 = .ok (.if_icmp .ne 18, 3) := by decide +kernel
theorem dX0_isLeaf_10 : decode cX0_isLeaf 10 = .ok (.aload_n 0, 1) := by decide +kernel
theorem dX0_isLeaf_11 : decode cX0_isLeaf 11 = .ok (.invokevirtual 30, 3) := by decide +kernel
theorem dX0_isLeaf_14 : decode cX0_isLeaf 14 = .ok (.aload_n 0, 1) := by decide +kernel
theorem dX0_isLeaf_15 : decode cX0_isLeaf 15 = .ok (.getfield 15, 3) := by decide +kernel
theorem dX0_isLeaf_18 : decode cX0_isLeaf 18 = .ok (.if_icmp .ne 7, 3) := by decide +kernel
theorem dX0_isLeaf_21 : decode cX0_isLeaf 21 = .ok (.iconst 1, 1) := by decide +kernel
theorem dX0_isLeaf_22 : decode cX0_isLeaf 22 = .ok (.goto 4, 3) := by decide +kernel
theorem dX0_isLeaf_25 : decode cX0_isLeaf 25 = .ok (.iconst 0, 1) := by decide +kernel
theorem dX0_isLeaf_26 : decode cX0_isLeaf 26 = .ok (.ireturn, 1) := by decide +kernel
theorem dX0_firstFault_0 : decode cX0_firstFault 0 = .ok (.iconst 0, 1) := by decide +kernel
theorem dX0_firstFault_1 : decode cX0_firstFault 1 = .ok (.istore_n 1, 1) := by decide +kernel
theorem dX0_firstFault_2 : decode cX0_firstFault 2 = .ok (.iload_n 1, 1) := by decide +kernel
theorem dX0_firstFault_3 : decode cX0_firstFault 3 = .ok (.aload_n 0, 1) := by decide +kernel
theorem dX0_firstFault_4 : decode cX0_firstFault 4 = .ok (.getfield 15, 3) := by decide +kernel
theorem dX0_firstFault_7 : decode cX0_firstFault 7 = .ok (.if_icmp .ge 19, 3) := by decide +kernel
theorem dX0_firstFault_10 : decode cX0_firstFault 10 = .ok (.aload_n 0, 1) := by decide +kernel
theorem dX0_firstFault_11 : decode cX0_firstFault 11 = .ok (.iload_n 1, 1) := by decide +kernel
theorem dX0_firstFault_12 : decode cX0_firstFault 12 = .ok (.invokevirtual 34, 3) := by decide +kernel
theorem dX0_firstFault_15 : decode cX0_firstFault 15 = .ok (.ifCond .ne 5, 3) := by decide +kernel
theorem dX0_firstFault_18 : decode cX0_firstFault 18 = .ok (.iload_n 1, 1) := by decide +kernel
theorem dX0_firstFault_19 : decode cX0_firstFault 19 = .ok (.ireturn, 1) := by decide +kernel
theorem dX0_firstFault_20 : decode cX0_firstFault 20 = .ok (.iinc 1 1, 3) := by decide +kernel
theorem dX0_firstFault_23 : decode cX0_firstFault 23 = .ok (.goto (-21), 3) := by decide +kernel
theorem dX0_firstFault_26 : decode cX0_firstFault 26 = .ok (.aload_n 0, 1) := by decide +kernel
theorem dX0_firstFault_27 : decode cX0_firstFault 27 = .ok (.getfield 15, 3) := by decide +kernel
theorem dX0_firstFault_30 : decode cX0_firstFault 30 = .ok (.ireturn, 1) := by decide +kernel
theorem dX0_canStandAt_0 : decode cX0_canStandAt 0 = .ok (.iload_n 1, 1) := by decide +kernel
theorem dX0_canStandAt_1 : decode cX0_canStandAt 1 = .ok (.bipush 19, 2) := by decide +kernel
theorem dX0_canStandAt_3 : decode cX0_canStandAt 3 = .ok (.if_icmp .lt 5, 3) := by decide +kernel
theorem dX0_canStandAt_6 : decode cX0_canStandAt 6 = .ok (.iconst 0, 1) := by decide +kernel
theorem dX0_canStandAt_7 : decode cX0_canStandAt 7 = .ok (.ireturn, 1) := by decide +kernel
theorem dX0_canStandAt_8 : decode cX0_canStandAt 8 = .ok (.aload_n 0, 1) := by decide +kernel
theorem dX0_canStandAt_9 : decode cX0_canStandAt 9 = .ok (.iload_n 1, 1) := by decide +kernel
theorem dX0_canStandAt_10 : decode cX0_canStandAt 10 = .ok (.invokevirtual 38, 3) := by decide +kernel
theorem dX0_canStandAt_13 : decode cX0_canStandAt 13 = .ok (.istore_n 2, 1) := by decide +kernel
theorem dX0_canStandAt_14 : decode cX0_canStandAt 14 = .ok (.iload_n 1, 1) := by decide +kernel
theorem dX0_canStandAt_15 : decode cX0_canStandAt 15 = .ok (.iconst 5, 1) := by decide +kernel
theorem dX0_canStandAt_16 : decode cX0_canStandAt 16 = .ok (.irem, 1) := by decide +kernel
theorem dX0_canStandAt_17 : decode cX0_canStandAt 17 = .ok (.tableswitch 94 0 3 #[31, 45, 61, 77], 31) := by decide +kernel
theorem dX0_canStandAt_48 : decode cX0_canStandAt 48 = .ok (.aload_n 0, 1) := by decide +kernel
theorem dX0_canStandAt_49 : decode cX0_canStandAt 49 = .ok (.iload_n 1, 1) := by decide +kernel
theorem dX0_canStandAt_50 : decode cX0_canStandAt 50 = .ok (.invokevirtual 41, 3) := by decide +kernel
theorem dX0_canStandAt_53 : decode cX0_canStandAt 53 = .ok (.ifCond .lt 7, 3) := by decide +kernel
theorem dX0_canStandAt_56 : decode cX0_canStandAt 56 = .ok (.iconst 1, 1) := by decide +kernel
theorem dX0_canStandAt_57 : decode cX0_canStandAt 57 = .ok (.goto 4, 3) := by decide +kernel
theorem dX0_canStandAt_60 : decode cX0_canStandAt 60 = .ok (.iconst 0, 1) := by decide +kernel
theorem dX0_canStandAt_61 : decode cX0_canStandAt 61 = .ok (.ireturn, 1) := by decide +kernel
theorem dX0_canStandAt_62 : decode cX0_canStandAt 62 = .ok (.iload_n 2, 1) := by decide +kernel
theorem dX0_canStandAt_63 : decode cX0_canStandAt 63 = .ok (.ifCond .lt 13, 3) := by decide +kernel
theorem dX0_canStandAt_66 : decode cX0_canStandAt 66 = .ok (.iload_n 2, 1) := by decide +kernel
theorem dX0_canStandAt_67 : decode cX0_canStandAt 67 = .ok (.bipush 10, 2) := by decide +kernel
theorem dX0_canStandAt_69 : decode cX0_canStandAt 69 = .ok (.if_icmp .ge 7, 3) := by decide +kernel
theorem dX0_canStandAt_72 : decode cX0_canStandAt 72 = .ok (.iconst 1, 1) := by decide +kernel
theorem dX0_canStandAt_73 : decode cX0_canStandAt 73 = .ok (.goto 4, 3) := by decide +kernel
theorem dX0_canStandAt_76 : decode cX0_canStandAt 76 = .ok (.iconst 0, 1) := by decide +kernel
theorem dX0_canStandAt_77 : decode cX0_canStandAt 77 = .ok (.ireturn, 1) := by decide +kernel
theorem dX0_canStandAt_78 : decode cX0_canStandAt 78 = .ok (.iload_n 2, 1) := by decide +kernel
theorem dX0_canStandAt_79 : decode cX0_canStandAt 79 = .ok (.iconst 1, 1) := by decide +kernel
theorem dX0_canStandAt_80 : decode cX0_canStandAt 80 = .ok (.if_icmp .lt 12, 3) := by decide +kernel
theorem dX0_canStandAt_83 : decode cX0_canStandAt 83 = .ok (.iload_n 2, 1) := by decide +kernel
theorem dX0_canStandAt_84 : decode cX0_canStandAt 84 = .ok (.iconst 5, 1) := by decide +kernel
theorem dX0_canStandAt_85 : decode cX0_canStandAt 85 = .ok (.if_icmp .gt 7, 3) := by decide +kernel
theorem dX0_canStandAt_88 : decode cX0_canStandAt 88 = .ok (.iconst 1, 1) := by decide +kernel
theorem dX0_canStandAt_89 : decode cX0_canStandAt 89 = .ok (.goto 4, 3) := by decide +kernel
theorem dX0_canStandAt_92 : decode cX0_canStandAt 92 = .ok (.iconst 0, 1) := by decide +kernel
theorem dX0_canStandAt_93 : decode cX0_canStandAt 93 = .ok (.ireturn, 1) := by decide +kernel
theorem dX0_canStandAt_94 : decode cX0_canStandAt 94 = .ok (.iload_n 2, 1) := by decide +kernel
theorem dX0_canStandAt_95 : decode cX0_canStandAt 95 = .ok (.iconst 1, 1) := by decide +kernel
theorem dX0_canStandAt_96 : decode cX0_canStandAt 96 = .ok (.if_icmp .lt 13, 3) := by decide +kernel
theorem dX0_canStandAt_99 : decode cX0_canStandAt 99 = .ok (.iload_n 2, 1) := by decide +kernel
theorem dX0_canStandAt_100 : decode cX0_canStandAt 100 = .ok (.bipush 9, 2) := by decide +kernel
theorem dX0_canStandAt_102 : decode cX0_canStandAt 102 = .ok (.if_icmp .gt 7, 3) := by decide +kernel
theorem dX0_canStandAt_105 : decode cX0_canStandAt 105 = .ok (.iconst 1, 1) := by decide +kernel
theorem dX0_canStandAt_106 : decode cX0_canStandAt 106 = .ok (.goto 4, 3) := by decide +kernel
theorem dX0_canStandAt_109 : decode cX0_canStandAt 109 = .ok (.iconst 0, 1) := by decide +kernel
theorem dX0_canStandAt_110 : decode cX0_canStandAt 110 = .ok (.ireturn, 1) := by decide +kernel
theorem dX0_canStandAt_111 : decode cX0_canStandAt 111 = .ok (.aload_n 0, 1) := by decide +kernel
theorem dX0_canStandAt_112 : decode cX0_canStandAt 112 = .ok (.iload_n 1, 1) := by decide +kernel
theorem dX0_canStandAt_113 : decode cX0_canStandAt 113 = .ok (.invokevirtual 19, 3) := by decide +kernel
theorem dX0_canStandAt_116 : decode cX0_canStandAt 116 = .ok (.bipush 44, 2) := by decide +kernel
theorem dX0_canStandAt_118 : decode cX0_canStandAt 118 = .ok (.if_icmp .ne 7, 3) := by decide +kernel
theorem dX0_canStandAt_121 : decode cX0_canStandAt 121 = .ok (.iconst 1, 1) := by decide +kernel
theorem dX0_canStandAt_122 : decode cX0_canStandAt 122 = .ok (.goto 4, 3) := by decide +kernel
theorem dX0_canStandAt_125 : decode cX0_canStandAt 125 = .ok (.iconst 0, 1) := by decide +kernel
theorem dX0_canStandAt_126 : decode cX0_canStandAt 126 = .ok (.ireturn, 1) := by decide +kernel
theorem dX1_init_0 : decode cX1_init 0 = .ok (.aload_n 0, 1) := by decide +kernel
theorem dX1_init_1 : decode cX1_init 1 = .ok (.invokespecial 3, 3) := by decide +kernel
theorem dX1_init_4 : decode cX1_init 4 = .ok (.aload_n 0, 1) := by decide +kernel
theorem dX1_init_5 : decode cX1_init 5 = .ok (.iconst 0, 1) := by decide +kernel
theorem dX1_init_6 : decode cX1_init 6 = .ok (.putfield 9, 3) := by decide +kernel
theorem dX1_init_9 : decode cX1_init 9 = .ok (.aload_n 0, 1) := by decide +kernel
theorem dX1_init_10 : decode cX1_init 10 = .ok (.iconst 0, 1) := by decide +kernel
theorem dX1_init_11 : decode cX1_init 11 = .ok (.putfield 15, 3) := by decide +kernel
theorem dX1_init_14 : decode cX1_init 14 = .ok (.aload_n 0, 1) := by decide +kernel
theorem dX1_init_15 : decode cX1_init 15 = .ok (.iconst 0, 1) := by decide +kernel
theorem dX1_init_16 : decode cX1_init 16 = .ok (.putfield 18, 3) := by decide +kernel
theorem dX1_init_19 : decode cX1_init 19 = .ok (.aload_n 0, 1) := by decide +kernel
theorem dX1_init_20 : decode cX1_init 20 = .ok (.iconst 0, 1) := by decide +kernel
theorem dX1_init_21 : decode cX1_init 21 = .ok (.putfield 21, 3) := by decide +kernel
theorem dX1_init_24 : decode cX1_init 24 = .ok (.aload_n 0, 1) := by decide +kernel
theorem dX1_init_25 : decode cX1_init 25 = .ok (.bipush 10, 2) := by decide +kernel
theorem dX1_init_27 : decode cX1_init 27 = .ok (.newarray .int, 2) := by decide +kernel
theorem dX1_init_29 : decode cX1_init 29 = .ok (.putfield 24, 3) := by decide +kernel
theorem dX1_init_32 : decode cX1_init 32 = .ok (.aload_n 0, 1) := by decide +kernel
theorem dX1_init_33 : decode cX1_init 33 = .ok (.bipush 6, 2) := by decide +kernel
theorem dX1_init_35 : decode cX1_init 35 = .ok (.newarray .int, 2) := by decide +kernel
theorem dX1_init_37 : decode cX1_init 37 = .ok (.putfield 28, 3) := by decide +kernel
theorem dX1_init_40 : decode cX1_init 40 = .ok (.aload_n 0, 1) := by decide +kernel
theorem dX1_init_41 : decode cX1_init 41 = .ok (.bipush 6, 2) := by decide +kernel
theorem dX1_init_43 : decode cX1_init 43 = .ok (.newarray .int, 2) := by decide +kernel
theorem dX1_init_45 : decode cX1_init 45 = .ok (.putfield 31, 3) := by decide +kernel
theorem dX1_init_48 : decode cX1_init 48 = .ok (.aload_n 0, 1) := by decide +kernel
theorem dX1_init_49 : decode cX1_init 49 = .ok (.bipush 6, 2) := by decide +kernel
theorem dX1_init_51 : decode cX1_init 51 = .ok (.newarray .int, 2) := by decide +kernel
theorem dX1_init_53 : decode cX1_init 53 = .ok (.putfield 34, 3) := by decide +kernel
theorem dX1_init_56 : decode cX1_init 56 = .ok (.return_, 1) := by decide +kernel
theorem dX1_begin_0 : decode cX1_begin 0 = .ok (.aload_n 0, 1) := by decide +kernel
theorem dX1_begin_1 : decode cX1_begin 1 = .ok (.iload_n 1, 1) := by decide +kernel
theorem dX1_begin_2 : decode cX1_begin 2 = .ok (.putfield 9, 3) := by decide +kernel
theorem dX1_begin_5 : decode cX1_begin 5 = .ok (.aload_n 0, 1) := by decide +kernel
theorem dX1_begin_6 : decode cX1_begin 6 = .ok (.iconst 0, 1) := by decide +kernel
theorem dX1_begin_7 : decode cX1_begin 7 = .ok (.putfield 15, 3) := by decide +kernel
theorem dX1_begin_10 : decode cX1_begin 10 = .ok (.aload_n 0, 1) := by decide +kernel
theorem dX1_begin_11 : decode cX1_begin 11 = .ok (.iconst 0, 1) := by decide +kernel
theorem dX1_begin_12 : decode cX1_begin 12 = .ok (.putfield 18, 3) := by decide +kernel
theorem dX1_begin_15 : decode cX1_begin 15 = .ok (.aload_n 0, 1) := by decide +kernel
theorem dX1_begin_16 : decode cX1_begin 16 = .ok (.iconst 0, 1) := by decide +kernel
theorem dX1_begin_17 : decode cX1_begin 17 = .ok (.putfield 21, 3) := by decide +kernel
theorem dX1_begin_20 : decode cX1_begin 20 = .ok (.iconst 0, 1) := by decide +kernel
theorem dX1_begin_21 : decode cX1_begin 21 = .ok (.istore_n 2, 1) := by decide +kernel
theorem dX1_begin_22 : decode cX1_begin 22 = .ok (.iload_n 2, 1) := by decide +kernel
theorem dX1_begin_23 : decode cX1_begin 23 = .ok (.aload_n 0, 1) := by decide +kernel
theorem dX1_begin_24 : decode cX1_begin 24 = .ok (.getfield 24, 3) := by decide +kernel
theorem dX1_begin_27 : decode cX1_begin 27 = .ok (.arraylength, 1) := by decide +kernel
theorem dX1_begin_28 : decode cX1_begin 28 = .ok (.if_icmp .ge 16, 3) := by decide +kernel
theorem dX1_begin_31 : decode cX1_begin 31 = .ok (.aload_n 0, 1) := by decide +kernel
theorem dX1_begin_32 : decode cX1_begin 32 = .ok (.getfield 24, 3) := by decide +kernel
theorem dX1_begin_35 : decode cX1_begin 35 = .ok (.iload_n 2, 1) := by decide +kernel
theorem dX1_begin_36 : decode cX1_begin 36 = .ok (.iconst 0, 1) := by decide +kernel
theorem dX1_begin_37 : decode cX1_begin 37 = .ok (.iastore, 1) := by decide +kernel
theorem dX1_begin_38 : decode cX1_begin 38 = .ok (.iinc 2 1, 3) := by decide +kernel
theorem dX1_begin_41 : decode cX1_begin 41 = .ok (.goto (-19), 3) := by decide +kernel
theorem dX1_begin_44 : decode cX1_begin 44 = .ok (.return_, 1) := by decide +kernel
theorem dX1_isSanded_0 : decode cX1_isSanded 0 = .ok (.aload_n 0, 1) := by decide +kernel
theorem dX1_isSanded_1 : decode cX1_isSanded 1 = .ok (.getfield 15, 3) := by decide +kernel
theorem dX1_isSanded_4 : decode cX1_isSanded 4 = .ok (.iload_n 1, 1) := by decide +kernel
theorem dX1_isSanded_5 : decode cX1_isSanded 5 = .ok (.ishr, 1) := by decide +kernel
theorem dX1_isSanded_6 : decode cX1_isSanded 6 = .ok (.iconst 1, 1) := by decide +kernel
theorem dX1_isSanded_7 : decode cX1_isSanded 7 = .ok (.iand, 1) := by decide +kernel
theorem dX1_isSanded_8 : decode cX1_isSanded 8 = .ok (.iconst 1, 1) := by decide +kernel
theorem dX1_isSanded_9 : decode cX1_isSanded 9 = .ok (.if_icmp .ne 7, 3) := by decide +kernel
theorem dX1_isSanded_12 : decode cX1_isSanded 12 = .ok (.iconst 1, 1) := by decide +kernel
theorem dX1_isSanded_13 : decode cX1_isSanded 13 = .ok (.goto 4, 3) := by decide +kernel
theorem dX1_isSanded_16 : decode cX1_isSanded 16 = .ok (.iconst 0, 1) := by decide +kernel
theorem dX1_isSanded_17 : decode cX1_isSanded 17 = .ok (.ireturn, 1) := by decide +kernel
theorem dX1_putSanded_0 : decode cX1_putSanded 0 = .ok (.iconst 1, 1) := by decide +kernel
theorem dX1_putSanded_1 : decode cX1_putSanded 1 = .ok (.iload_n 1, 1) := by decide +kernel
theorem dX1_putSanded_2 : decode cX1_putSanded 2 = .ok (.ishl, 1) := by decide +kernel
theorem dX1_putSanded_3 : decode cX1_putSanded 3 = .ok (.istore_n 3, 1) := by decide +kernel
theorem dX1_putSanded_4 : decode cX1_putSanded 4 = .ok (.aload_n 0, 1) := by decide +kernel
theorem dX1_putSanded_5 : decode cX1_putSanded 5 = .ok (.iload_n 2, 1) := by decide +kernel
theorem dX1_putSanded_6 : decode cX1_putSanded 6 = .ok (.ifCond .eq 12, 3) := by decide +kernel
theorem dX1_putSanded_9 : decode cX1_putSanded 9 = .ok (.aload_n 0, 1) := by decide +kernel
theorem dX1_putSanded_10 : decode cX1_putSanded 10 = .ok (.getfield 15, 3) := by decide +kernel
theorem dX1_putSanded_13 : decode cX1_putSanded 13 = .ok (.iload_n 3, 1) := by decide +kernel
theorem dX1_putSanded_14 : decode cX1_putSanded 14 = .ok (.ior, 1) := by decide +kernel
theorem dX1_putSanded_15 : decode cX1_putSanded 15 = .ok (.goto 11, 3) := by decide +kernel
theorem dX1_putSanded_18 : decode cX1_putSanded 18 = .ok (.aload_n 0, 1) := by decide +kernel
theorem dX1_putSanded_19 : decode cX1_putSanded 19 = .ok (.getfield 15, 3) := by decide +kernel
theorem dX1_putSanded_22 : decode cX1_putSanded 22 = .ok (.iload_n 3, 1) := by decide +kernel
theorem dX1_putSanded_23 : decode cX1_putSanded 23 = .ok (.iconst (-1), 1) := by decide +kernel
theorem dX1_putSanded_24 : decode cX1_putSanded 24 = .ok (.ixor, 1) := by decide +kernel
theorem dX1_putSanded_25 : decode cX1_putSanded 25 = .ok (.iand, 1) := by decide +kernel
theorem dX1_putSanded_26 : decode cX1_putSanded 26 = .ok (.putfield 15, 3) := by decide +kernel
theorem dX1_putSanded_29 : decode cX1_putSanded 29 = .ok (.return_, 1) := by decide +kernel
theorem dX1_addFound_0 : decode cX1_addFound 0 = .ok (.aload_n 0, 1) := by decide +kernel
theorem dX1_addFound_1 : decode cX1_addFound 1 = .ok (.getfield 21, 3) := by decide +kernel
theorem dX1_addFound_4 : decode cX1_addFound 4 = .ok (.ifCond .lt 12, 3) := by decide +kernel
theorem dX1_addFound_7 : decode cX1_addFound 7 = .ok (.aload_n 0, 1) := by decide +kernel
theorem dX1_addFound_8 : decode cX1_addFound 8 = .ok (.getfield 21, 3) := by decide +kernel
theorem dX1_addFound_11 : decode cX1_addFound 11 = .ok (.bipush 6, 2) := by decide +kernel
theorem dX1_addFound_13 : decode cX1_addFound 13 = .ok (.if_icmp .lt 5, 3) := by decide +kernel
theorem dX1_addFound_16 : decode cX1_addFound 16 = .ok (.iconst 0, 1) := by decide +kernel
theorem dX1_addFound_17 : decode cX1_addFound 17 = .ok (.ireturn, 1) := by decide +kernel
theorem dX1_addFound_18 : decode cX1_addFound 18 = .ok (.aload_n 0, 1) := by decide +kernel
theorem dX1_addFound_19 : decode cX1_addFound 19 = .ok (.getfield 28, 3) := by decide +kernel
theorem dX1_addFound_22 : decode cX1_addFound 22 = .ok (.aload_n 0, 1) := by decide +kernel
theorem dX1_addFound_23 : decode cX1_addFound 23 = .ok (.getfield 21, 3) := by decide +kernel
theorem dX1_addFound_26 : decode cX1_addFound 26 = .ok (.iload_n 1, 1) := by decide +kernel
theorem dX1_addFound_27 : decode cX1_addFound 27 = .ok (.iastore, 1) := by decide +kernel
theorem dX1_addFound_28 : decode cX1_addFound 28 = .ok (.aload_n 0, 1) := by decide +kernel
theorem dX1_addFound_29 : decode cX1_addFound 29 = .ok (.getfield 31, 3) := by decide +kernel
theorem dX1_addFound_32 : decode cX1_addFound 32 = .ok (.aload_n 0, 1) := by decide +kernel
theorem dX1_addFound_33 : decode cX1_addFound 33 = .ok (.getfield 21, 3) := by decide +kernel
theorem dX1_addFound_36 : decode cX1_addFound 36 = .ok (.iload_n 2, 1) := by decide +kernel
theorem dX1_addFound_37 : decode cX1_addFound 37 = .ok (.iastore, 1) := by decide +kernel
theorem dX1_addFound_38 : decode cX1_addFound 38 = .ok (.aload_n 0, 1) := by decide +kernel
theorem dX1_addFound_39 : decode cX1_addFound 39 = .ok (.getfield 34, 3) := by decide +kernel
theorem dX1_addFound_42 : decode cX1_addFound 42 = .ok (.aload_n 0, 1) := by decide +kernel
theorem dX1_addFound_43 : decode cX1_addFound 43 = .ok (.getfield 21, 3) := by decide +kernel
theorem dX1_addFound_46 : decode cX1_addFound 46 = .ok (.iload_n 3, 1) := by decide +kernel
theorem dX1_addFound_47 : decode cX1_addFound 47 = .ok (.iastore, 1) := by decide +kernel
theorem dX1_addFound_48 : decode cX1_addFound 48 = .ok (.aload_n 0, 1) := by decide +kernel
theorem dX1_addFound_49 : decode cX1_addFound 49 = .ok (.dup, 1) := by decide +kernel
theorem dX1_addFound_50 : decode cX1_addFound 50 = .ok (.getfield 21, 3) := by decide +kernel
theorem dX1_addFound_53 : decode cX1_addFound 53 = .ok (.iconst 1, 1) := by decide +kernel
theorem dX1_addFound_54 : decode cX1_addFound 54 = .ok (.iadd, 1) := by decide +kernel
theorem dX1_addFound_55 : decode cX1_addFound 55 = .ok (.putfield 21, 3) := by decide +kernel
theorem dX1_addFound_58 : decode cX1_addFound 58 = .ok (.iconst 1, 1) := by decide +kernel
theorem dX1_addFound_59 : decode cX1_addFound 59 = .ok (.ireturn, 1) := by decide +kernel
theorem dX1_copyFrom_0 : decode cX1_copyFrom 0 = .ok (.aload_n 0, 1) := by decide +kernel
theorem dX1_copyFrom_1 : decode cX1_copyFrom 1 = .ok (.aload_n 1, 1) := by decide +kernel
theorem dX1_copyFrom_2 : decode cX1_copyFrom 2 = .ok (.getfield 9, 3) := by decide +kernel
theorem dX1_copyFrom_5 : decode cX1_copyFrom 5 = .ok (.putfield 9, 3) := by decide +kernel
theorem dX1_copyFrom_8 : decode cX1_copyFrom 8 = .ok (.aload_n 0, 1) := by decide +kernel
theorem dX1_copyFrom_9 : decode cX1_copyFrom 9 = .ok (.aload_n 1, 1) := by decide +kernel
theorem dX1_copyFrom_10 : decode cX1_copyFrom 10 = .ok (.getfield 15, 3) := by decide +kernel
theorem dX1_copyFrom_13 : decode cX1_copyFrom 13 = .ok (.putfield 15, 3) := by decide +kernel
theorem dX1_copyFrom_16 : decode cX1_copyFrom 16 = .ok (.aload_n 0, 1) := by decide +kernel
theorem dX1_copyFrom_17 : decode cX1_copyFrom 17 = .ok (.aload_n 1, 1) := by decide +kernel
theorem dX1_copyFrom_18 : decode cX1_copyFrom 18 = .ok (.getfield 18, 3) := by decide +kernel
theorem dX1_copyFrom_21 : decode cX1_copyFrom 21 = .ok (.putfield 18, 3) := by decide +kernel
theorem dX1_copyFrom_24 : decode cX1_copyFrom 24 = .ok (.aload_n 0, 1) := by decide +kernel
theorem dX1_copyFrom_25 : decode cX1_copyFrom 25 = .ok (.aload_n 1, 1) := by decide +kernel
theorem dX1_copyFrom_26 : decode cX1_copyFrom 26 = .ok (.getfield 21, 3) := by decide +kernel
theorem dX1_copyFrom_29 : decode cX1_copyFrom 29 = .ok (.putfield 21, 3) := by decide +kernel
theorem dX1_copyFrom_32 : decode cX1_copyFrom 32 = .ok (.aload_n 1, 1) := by decide +kernel
theorem dX1_copyFrom_33 : decode cX1_copyFrom 33 = .ok (.getfield 24, 3) := by decide +kernel
theorem dX1_copyFrom_36 : decode cX1_copyFrom 36 = .ok (.aload_n 0, 1) := by decide +kernel
theorem dX1_copyFrom_37 : decode cX1_copyFrom 37 = .ok (.getfield 24, 3) := by decide +kernel
theorem dX1_copyFrom_40 : decode cX1_copyFrom 40 = .ok (.invokestatic 37, 3) := by decide +kernel
theorem dX1_copyFrom_43 : decode cX1_copyFrom 43 = .ok (.aload_n 1, 1) := by decide +kernel
theorem dX1_copyFrom_44 : decode cX1_copyFrom 44 = .ok (.getfield 28, 3) := by decide +kernel
theorem dX1_copyFrom_47 : decode cX1_copyFrom 47 = .ok (.aload_n 0, 1) := by decide +kernel
theorem dX1_copyFrom_48 : decode cX1_copyFrom 48 = .ok (.getfield 28, 3) := by decide +kernel
theorem dX1_copyFrom_51 : decode cX1_copyFrom 51 = .ok (.invokestatic 37, 3) := by decide +kernel
theorem dX1_copyFrom_54 : decode cX1_copyFrom 54 = .ok (.aload_n 1, 1) := by decide +kernel
theorem dX1_copyFrom_55 : decode cX1_copyFrom 55 = .ok (.getfield 31, 3) := by decide +kernel
theorem dX1_copyFrom_58 : decode cX1_copyFrom 58 = .ok (.aload_n 0, 1) := by decide +kernel
theorem dX1_copyFrom_59 : decode cX1_copyFrom 59 = .ok (.getfield 31, 3) := by decide +kernel
theorem dX1_copyFrom_62 : decode cX1_copyFrom 62 = .ok (.invokestatic 37, 3) := by decide +kernel
theorem dX1_copyFrom_65 : decode cX1_copyFrom 65 = .ok (.aload_n 1, 1) := by decide +kernel
theorem dX1_copyFrom_66 : decode cX1_copyFrom 66 = .ok (.getfield 34, 3) := by decide +kernel
theorem dX1_copyFrom_69 : decode cX1_copyFrom 69 = .ok (.aload_n 0, 1) := by decide +kernel
theorem dX1_copyFrom_70 : decode cX1_copyFrom 70 = .ok (.getfield 34, 3) := by decide +kernel
theorem dX1_copyFrom_73 : decode cX1_copyFrom 73 = .ok (.invokestatic 37, 3) := by decide +kernel
theorem dX1_copyFrom_76 : decode cX1_copyFrom 76 = .ok (.return_, 1) := by decide +kernel
theorem dX2_init_0 : decode cX2_init 0 = .ok (.aload_n 0, 1) := by decide +kernel
theorem dX2_init_1 : decode cX2_init 1 = .ok (.invokespecial 3, 3) := by decide +kernel
theorem dX2_init_4 : decode cX2_init 4 = .ok (.aload_n 0, 1) := by decide +kernel
theorem dX2_init_5 : decode cX2_init 5 = .ok (.iconst 0, 1) := by decide +kernel
theorem dX2_init_6 : decode cX2_init 6 = .ok (.putfield 9, 3) := by decide +kernel
theorem dX2_init_9 : decode cX2_init 9 = .ok (.aload_n 0, 1) := by decide +kernel
theorem dX2_init_10 : decode cX2_init 10 = .ok (.iconst 0, 1) := by decide +kernel
theorem dX2_init_11 : decode cX2_init 11 = .ok (.putfield 15, 3) := by decide +kernel
theorem dX2_init_14 : decode cX2_init 14 = .ok (.aload_n 0, 1) := by decide +kernel
theorem dX2_init_15 : decode cX2_init 15 = .ok (.iconst 0, 1) := by decide +kernel
theorem dX2_init_16 : decode cX2_init 16 = .ok (.putfield 18, 3) := by decide +kernel
theorem dX2_init_19 : decode cX2_init 19 = .ok (.aload_n 0, 1) := by decide +kernel
theorem dX2_init_20 : decode cX2_init 20 = .ok (.iconst 0, 1) := by decide +kernel
theorem dX2_init_21 : decode cX2_init 21 = .ok (.putfield 21, 3) := by decide +kernel
theorem dX2_init_24 : decode cX2_init 24 = .ok (.aload_n 0, 1) := by decide +kernel
theorem dX2_init_25 : decode cX2_init 25 = .ok (.iload_n 1, 1) := by decide +kernel
theorem dX2_init_26 : decode cX2_init 26 = .ok (.putfield 24, 3) := by decide +kernel
theorem dX2_init_29 : decode cX2_init 29 = .ok (.return_, 1) := by decide +kernel
theorem dX2_become_0 : decode cX2_become 0 = .ok (.aload_n 0, 1) := by decide +kernel
theorem dX2_become_1 : decode cX2_become 1 = .ok (.iload_n 1, 1) := by decide +kernel
theorem dX2_become_2 : decode cX2_become 2 = .ok (.putfield 9, 3) := by decide +kernel
theorem dX2_become_5 : decode cX2_become 5 = .ok (.aload_n 0, 1) := by decide +kernel
theorem dX2_become_6 : decode cX2_become 6 = .ok (.iload_n 2, 1) := by decide +kernel
theorem dX2_become_7 : decode cX2_become 7 = .ok (.putfield 15, 3) := by decide +kernel
theorem dX2_become_10 : decode cX2_become 10 = .ok (.aload_n 0, 1) := by decide +kernel
theorem dX2_become_11 : decode cX2_become 11 = .ok (.iload_n 3, 1) := by decide +kernel
theorem dX2_become_12 : decode cX2_become 12 = .ok (.bipush 10, 2) := by decide +kernel
theorem dX2_become_14 : decode cX2_become 14 = .ok (.iload_n 2, 1) := by decide +kernel
theorem dX2_become_15 : decode cX2_become 15 = .ok (.isub, 1) := by decide +kernel
theorem dX2_become_16 : decode cX2_become 16 = .ok (.invokestatic 27, 3) := by decide +kernel
theorem dX2_become_19 : decode cX2_become 19 = .ok (.putfield 18, 3) := by decide +kernel
theorem dX2_become_22 : decode cX2_become 22 = .ok (.aload_n 0, 1) := by decide +kernel
theorem dX2_become_23 : decode cX2_become 23 = .ok (.iload 4, 2) := by decide +kernel
theorem dX2_become_25 : decode cX2_become 25 = .ok (.putfield 21, 3) := by decide +kernel
theorem dX2_become_28 : decode cX2_become 28 = .ok (.return_, 1) := by decide +kernel
theorem dX2_isA_0 : decode cX2_isA 0 = .ok (.iload_n 1, 1) := by decide +kernel
theorem dX2_isA_1 : decode cX2_isA 1 = .ok (.ifCond .eq 24, 3) := by decide +kernel
theorem dX2_isA_4 : decode cX2_isA 4 = .ok (.iload_n 1, 1) := by decide +kernel
theorem dX2_isA_5 : decode cX2_isA 5 = .ok (.aload_n 0, 1) := by decide +kernel
theorem dX2_isA_6 : decode cX2_isA 6 = .ok (.getfield 9, 3) := by decide +kernel
theorem dX2_isA_9 : decode cX2_isA 9 = .ok (.if_icmp .eq 16, 3) := by decide +kernel
theorem dX2_isA_12 : decode cX2_isA 12 = .ok (.iload_n 1, 1) := by decide +kernel
theorem dX2_isA_13 : decode cX2_isA 13 = .ok (.iconst 1, 1) := by decide +kernel
theorem dX2_isA_14 : decode cX2_isA 14 = .ok (.if_icmp .ne 15, 3) := by decide +kernel
theorem dX2_isA_17 : decode cX2_isA 17 = .ok (.aload_n 0, 1) := by decide +kernel
theorem dX2_isA_18 : decode cX2_isA 18 = .ok (.getfield 9, 3) := by decide +kernel
theorem dX2_isA_21 : decode cX2_isA 21 = .ok (.iconst 4, 1) := by decide +kernel
theorem dX2_isA_22 : decode cX2_isA 22 = .ok (.if_icmp .ne 7, 3) := by decide +kernel
theorem dX2_isA_25 : decode cX2_isA 25 = .ok (.iconst 1, 1) := by decide +kernel
theorem dX2_isA_26 : decode cX2_isA 26 = .ok (.goto 4, 3) := by decide +kernel
theorem dX2_isA_29 : decode cX2_isA 29 = .ok (.iconst 0, 1) := by decide +kernel
theorem dX2_isA_30 : decode cX2_isA 30 = .ok (.ireturn, 1) := by decide +kernel
theorem dX2_wetAt_0 : decode cX2_wetAt 0 = .ok (.iload_n 1, 1) := by decide +kernel
theorem dX2_wetAt_1 : decode cX2_wetAt 1 = .ok (.aload_n 0, 1) := by decide +kernel
theorem dX2_wetAt_2 : decode cX2_wetAt 2 = .ok (.getfield 24, 3) := by decide +kernel
theorem dX2_wetAt_5 : decode cX2_wetAt 5 = .ok (.isub, 1) := by decide +kernel
theorem dX2_wetAt_6 : decode cX2_wetAt 6 = .ok (.istore_n 3, 1) := by decide +kernel
theorem dX2_wetAt_7 : decode cX2_wetAt 7 = .ok (.iload_n 3, 1) := by decide +kernel
theorem dX2_wetAt_8 : decode cX2_wetAt 8 = .ok (.ifCond .ge 5, 3) := by decide +kernel
theorem dX2_wetAt_11 : decode cX2_wetAt 11 = .ok (.iconst 0, 1) := by decide +kernel
theorem dX2_wetAt_12 : decode cX2_wetAt 12 = .ok (.ireturn, 1) := by decide +kernel
theorem dX2_wetAt_13 : decode cX2_wetAt 13 = .ok (.aload_n 0, 1) := by decide +kernel
theorem dX2_wetAt_14 : decode cX2_wetAt 14 = .ok (.getfield 9, 3) := by decide +kernel
theorem dX2_wetAt_17 : decode cX2_wetAt 17 = .ok (.tableswitch 57 2 4 #[27, 37, 47], 27) := by decide +kernel
theorem dX2_wetAt_44 : decode cX2_wetAt 44 = .ok (.iconst 0, 1) := by decide +kernel
theorem dX2_wetAt_45 : decode cX2_wetAt 45 = .ok (.iload_n 2, 1) := by decide +kernel
theorem dX2_wetAt_46 : decode cX2_wetAt 46 = .ok (.iload_n 3, 1) := by decide +kernel
theorem dX2_wetAt_47 : decode cX2_wetAt 47 = .ok (.iconst 2, 1) := by decide +kernel
theorem dX2_wetAt_48 : decode cX2_wetAt 48 = .ok (.idiv, 1) := by decide +kernel
theorem dX2_wetAt_49 : decode cX2_wetAt 49 = .ok (.isub, 1) := by decide +kernel
theorem dX2_wetAt_50 : decode cX2_wetAt 50 = .ok (.invokestatic 33, 3) := by decide +kernel
theorem dX2_wetAt_53 : decode cX2_wetAt 53 = .ok (.ireturn, 1) := by decide +kernel
theorem dX2_wetAt_54 : decode cX2_wetAt 54 = .ok (.iconst 0, 1) := by decide +kernel
theorem dX2_wetAt_55 : decode cX2_wetAt 55 = .ok (.iload_n 2, 1) := by decide +kernel
theorem dX2_wetAt_56 : decode cX2_wetAt 56 = .ok (.iconst 3, 1) := by decide +kernel
theorem dX2_wetAt_57 : decode cX2_wetAt 57 = .ok (.iload_n 3, 1) := by decide +kernel
theorem dX2_wetAt_58 : decode cX2_wetAt 58 = .ok (.imul, 1) := by decide +kernel
theorem dX2_wetAt_59 : decode cX2_wetAt 59 = .ok (.isub, 1) := by decide +kernel
theorem dX2_wetAt_60 : decode cX2_wetAt 60 = .ok (.invokestatic 33, 3) := by decide +kernel
theorem dX2_wetAt_63 : decode cX2_wetAt 63 = .ok (.ireturn, 1) := by decide +kernel
theorem dX2_wetAt_64 : decode cX2_wetAt 64 = .ok (.iconst 0, 1) := by decide +kernel
theorem dX2_wetAt_65 : decode cX2_wetAt 65 = .ok (.iload_n 2, 1) := by decide +kernel
theorem dX2_wetAt_66 : decode cX2_wetAt 66 = .ok (.iconst 3, 1) := by decide +kernel
theorem dX2_wetAt_67 : decode cX2_wetAt 67 = .ok (.iadd, 1) := by decide +kernel
theorem dX2_wetAt_68 : decode cX2_wetAt 68 = .ok (.iload_n 3, 1) := by decide +kernel
theorem dX2_wetAt_69 : decode cX2_wetAt 69 = .ok (.isub, 1) := by decide +kernel
theorem dX2_wetAt_70 : decode cX2_wetAt 70 = .ok (.invokestatic 33, 3) := by decide +kernel
theorem dX2_wetAt_73 : decode cX2_wetAt 73 = .ok (.ireturn, 1) := by decide +kernel
theorem dX2_wetAt_74 : decode cX2_wetAt 74 = .ok (.iconst 0, 1) := by decide +kernel
theorem dX2_wetAt_75 : decode cX2_wetAt 75 = .ok (.iload_n 2, 1) := by decide +kernel
theorem dX2_wetAt_76 : decode cX2_wetAt 76 = .ok (.iload_n 3, 1) := by decide +kernel
theorem dX2_wetAt_77 : decode cX2_wetAt 77 = .ok (.isub, 1) := by decide +kernel
theorem dX2_wetAt_78 : decode cX2_wetAt 78 = .ok (.invokestatic 33, 3) := by decide +kernel
theorem dX2_wetAt_81 : decode cX2_wetAt 81 = .ok (.ireturn, 1) := by decide +kernel
theorem dX2_givesTo_0 : decode cX2_givesTo 0 = .ok (.aload_n 0, 1) := by decide +kernel
theorem dX2_givesTo_1 : decode cX2_givesTo 1 = .ok (.getfield 15, 3) := by decide +kernel
theorem dX2_givesTo_4 : decode cX2_givesTo 4 = .ok (.aload_n 0, 1) := by decide +kernel
theorem dX2_givesTo_5 : decode cX2_givesTo 5 = .ok (.getfield 18, 3) := by decide +kernel
theorem dX2_givesTo_8 : decode cX2_givesTo 8 = .ok (.iadd, 1) := by decide +kernel
theorem dX2_givesTo_9 : decode cX2_givesTo 9 = .ok (.istore_n 3, 1) := by decide +kernel
theorem dX2_givesTo_10 : decode cX2_givesTo 10 = .ok (.iload_n 1, 1) := by decide +kernel
theorem dX2_givesTo_11 : decode cX2_givesTo 11 = .ok (.aload_n 0, 1) := by decide +kernel
theorem dX2_givesTo_12 : decode cX2_givesTo 12 = .ok (.getfield 15, 3) := by decide +kernel
theorem dX2_givesTo_15 : decode cX2_givesTo 15 = .ok (.if_icmp .lt 10, 3) := by decide +kernel
theorem dX2_givesTo_18 : decode cX2_givesTo 18 = .ok (.iload_n 1, 1) := by decide +kernel
theorem dX2_givesTo_19 : decode cX2_givesTo 19 = .ok (.iload_n 3, 1) := by decide +kernel
theorem dX2_givesTo_20 : decode cX2_givesTo 20 = .ok (.if_icmp .ge 5, 3) := by decide +kernel
theorem dX2_givesTo_23 : decode cX2_givesTo 23 = .ok (.iload_n 2, 1) := by decide +kernel
theorem dX2_givesTo_24 : decode cX2_givesTo 24 = .ok (.ireturn, 1) := by decide +kernel
theorem dX2_givesTo_25 : decode cX2_givesTo 25 = .ok (.iload_n 1, 1) := by decide +kernel
theorem dX2_givesTo_26 : decode cX2_givesTo 26 = .ok (.aload_n 0, 1) := by decide +kernel
theorem dX2_givesTo_27 : decode cX2_givesTo 27 = .ok (.getfield 15, 3) := by decide +kernel
theorem dX2_givesTo_30 : decode cX2_givesTo 30 = .ok (.iconst 1, 1) := by decide +kernel
theorem dX2_givesTo_31 : decode cX2_givesTo 31 = .ok (.isub, 1) := by decide +kernel
theorem dX2_givesTo_32 : decode cX2_givesTo 32 = .ok (.if_icmp .eq 8, 3) := by decide +kernel
theorem dX2_givesTo_35 : decode cX2_givesTo 35 = .ok (.iload_n 1, 1) := by decide +kernel
theorem dX2_givesTo_36 : decode cX2_givesTo 36 = .ok (.iload_n 3, 1) := by decide +kernel
theorem dX2_givesTo_37 : decode cX2_givesTo 37 = .ok (.if_icmp .ne 7, 3) := by decide +kernel
theorem dX2_givesTo_40 : decode cX2_givesTo 40 = .ok (.iconst 1, 1) := by decide +kernel
theorem dX2_givesTo_41 : decode cX2_givesTo 41 = .ok (.goto 4, 3) := by decide +kernel
theorem dX2_givesTo_44 : decode cX2_givesTo 44 = .ok (.iconst 0, 1) := by decide +kernel
theorem dX2_givesTo_45 : decode cX2_givesTo 45 = .ok (.istore 4, 2) := by decide +kernel
theorem dX2_givesTo_47 : decode cX2_givesTo 47 = .ok (.iload 4, 2) := by decide +kernel
theorem dX2_givesTo_49 : decode cX2_givesTo 49 = .ok (.ifCond .eq 17, 3) := by decide +kernel
theorem dX2_givesTo_52 : decode cX2_givesTo 52 = .ok (.aload_n 0, 1) := by decide +kernel
theorem dX2_givesTo_53 : decode cX2_givesTo 53 = .ok (.iconst 1, 1) := by decide +kernel
theorem dX2_givesTo_54 : decode cX2_givesTo 54 = .ok (.invokevirtual 36, 3) := by decide +kernel
theorem dX2_givesTo_57 : decode cX2_givesTo 57 = .ok (.ifCond .eq 9, 3) := by decide +kernel
theorem dX2_givesTo_60 : decode cX2_givesTo 60 = .ok (.iload_n 2, 1) := by decide +kernel
theorem dX2_givesTo_61 : decode cX2_givesTo 61 = .ok (.iconst 2, 1) := by decide +kernel
theorem dX2_givesTo_62 : decode cX2_givesTo 62 = .ok (.idiv, 1) := by decide +kernel
theorem dX2_givesTo_63 : decode cX2_givesTo 63 = .ok (.goto 4, 3) := by decide +kernel
theorem dX2_givesTo_66 : decode cX2_givesTo 66 = .ok (.iconst 0, 1) := by decide +kernel
theorem dX2_givesTo_67 : decode cX2_givesTo 67 = .ok (.ireturn, 1) := by decide +kernel
theorem dX3_init_0 : decode cX3_init 0 = .ok (.aload_n 0, 1) := by decide +kernel
theorem dX3_init_1 : decode cX3_init 1 = .ok (.invokespecial 1, 3) := by decide +kernel
theorem dX3_init_4 : decode cX3_init 4 = .ok (.aload_n 0, 1) := by decide +kernel
theorem dX3_init_5 : decode cX3_init 5 = .ok (.new 7, 3) := by decide +kernel
theorem dX3_init_8 : decode cX3_init 8 = .ok (.dup, 1) := by decide +kernel
theorem dX3_init_9 : decode cX3_init 9 = .ok (.invokespecial 9, 3) := by decide +kernel
theorem dX3_init_12 : decode cX3_init 12 = .ok (.putfield 10, 3) := by decide +kernel
theorem dX3_init_15 : decode cX3_init 15 = .ok (.aload_n 0, 1) := by decide +kernel
theorem dX3_init_16 : decode cX3_init 16 = .ok (.bipush 6, 2) := by decide +kernel
theorem dX3_init_18 : decode cX3_init 18 = .ok (.anewarray 16, 3) := by decide +kernel
theorem dX3_init_21 : decode cX3_init 21 = .ok (.putfield 18, 3) := by decide +kernel
theorem dX3_init_24 : decode cX3_init 24 = .ok (.aload_n 0, 1) := by decide +kernel
theorem dX3_init_25 : decode cX3_init 25 = .ok (.new 22, 3) := by decide +kernel
theorem dX3_init_28 : decode cX3_init 28 = .ok (.dup, 1) := by decide +kernel
theorem dX3_init_29 : decode cX3_init 29 = .ok (.invokespecial 24, 3) := by decide +kernel
theorem dX3_init_32 : decode cX3_init 32 = .ok (.putfield 25, 3) := by decide +kernel
theorem dX3_init_35 : decode cX3_init 35 = .ok (.aload_n 0, 1) := by decide +kernel
theorem dX3_init_36 : decode cX3_init 36 = .ok (.new 22, 3) := by decide +kernel
theorem dX3_init_39 : decode cX3_init 39 = .ok (.dup, 1) := by decide +kernel
theorem dX3_init_40 : decode cX3_init 40 = .ok (.invokespecial 24, 3) := by decide +kernel
theorem dX3_init_43 : decode cX3_init 43 = .ok (.putfield 29, 3) := by decide +kernel
theorem dX3_init_46 : decode cX3_init 46 = .ok (.aload_n 0, 1) := by decide +kernel
theorem dX3_init_47 : decode cX3_init 47 = .ok (.iconst 0, 1) := by decide +kernel
theorem dX3_init_48 : decode cX3_init 48 = .ok (.putfield 32, 3) := by decide +kernel
theorem dX3_init_51 : decode cX3_init 51 = .ok (.aload_n 0, 1) := by decide +kernel
theorem dX3_init_52 : decode cX3_init 52 = .ok (.iconst 0, 1) := by decide +kernel
theorem dX3_init_53 : decode cX3_init 53 = .ok (.putfield 36, 3) := by decide +kernel
theorem dX3_init_56 : decode cX3_init 56 = .ok (.aload_n 0, 1) := by decide +kernel
theorem dX3_init_57 : decode cX3_init 57 = .ok (.bipush 10, 2) := by decide +kernel
theorem dX3_init_59 : decode cX3_init 59 = .ok (.newarray .int, 2) := by decide +kernel
theorem dX3_init_61 : decode cX3_init 61 = .ok (.putfield 40, 3) := by decide +kernel
theorem dX3_init_64 : decode cX3_init 64 = .ok (.aload_n 0, 1) := by decide +kernel
theorem dX3_init_65 : decode cX3_init 65 = .ok (.bipush 10, 2) := by decide +kernel
theorem dX3_init_67 : decode cX3_init 67 = .ok (.newarray .int, 2) := by decide +kernel
theorem dX3_init_69 : decode cX3_init 69 = .ok (.putfield 44, 3) := by decide +kernel
theorem dX3_init_72 : decode cX3_init 72 = .ok (.iconst 0, 1) := by decide +kernel
theorem dX3_init_73 : decode cX3_init 73 = .ok (.istore_n 1, 1) := by decide +kernel
theorem dX3_init_74 : decode cX3_init 74 = .ok (.iload_n 1, 1) := by decide +kernel
theorem dX3_init_75 : decode cX3_init 75 = .ok (.aload_n 0, 1) := by decide +kernel
theorem dX3_init_76 : decode cX3_init 76 = .ok (.getfield 18, 3) := by decide +kernel
theorem dX3_init_79 : decode cX3_init 79 = .ok (.arraylength, 1) := by decide +kernel
theorem dX3_init_80 : decode cX3_init 80 = .ok (.if_icmp .ge 23, 3) := by decide +kernel
theorem dX3_init_83 : decode cX3_init 83 = .ok (.aload_n 0, 1) := by decide +kernel
theorem dX3_init_84 : decode cX3_init 84 = .ok (.getfield 18, 3) := by decide +kernel
theorem dX3_init_87 : decode cX3_init 87 = .ok (.iload_n 1, 1) := by decide +kernel
theorem dX3_init_88 : decode cX3_init 88 = .ok (.new 16, 3) := by decide +kernel
theorem dX3_init_91 : decode cX3_init 91 = .ok (.dup, 1) := by decide +kernel
theorem dX3_init_92 : decode cX3_init 92 = .ok (.iload_n 1, 1) := by decide +kernel
theorem dX3_init_93 : decode cX3_init 93 = .ok (.invokespecial 47, 3) := by decide +kernel
theorem dX3_init_96 : decode cX3_init 96 = .ok (.aastore, 1) := by decide +kernel
theorem dX3_init_97 : decode cX3_init 97 = .ok (.iinc 1 1, 3) := by decide +kernel
theorem dX3_init_100 : decode cX3_init 100 = .ok (.goto (-26), 3) := by decide +kernel
theorem dX3_init_103 : decode cX3_init 103 = .ok (.return_, 1) := by decide +kernel
theorem dX3_letter_0 : decode cX3_letter 0 = .ok (.iload_n 1, 1) := by decide +kernel
theorem dX3_letter_1 : decode cX3_letter 1 = .ok (.bipush 32, 2) := by decide +kernel
theorem dX3_letter_3 : decode cX3_letter 3 = .ok (.if_icmp .lt 9, 3) := by decide +kernel
theorem dX3_letter_6 : decode cX3_letter 6 = .ok (.iload_n 1, 1) := by decide +kernel
theorem dX3_letter_7 : decode cX3_letter 7 = .ok (.bipush 126, 2) := by decide +kernel
theorem dX3_letter_9 : decode cX3_letter 9 = .ok (.if_icmp .le 6, 3) := by decide +kernel
theorem dX3_letter_12 : decode cX3_letter 12 = .ok (.bipush (-102), 2) := by decide +kernel
theorem dX3_letter_14 : decode cX3_letter 14 = .ok (.ireturn, 1) := by decide +kernel
theorem dX3_letter_15 : decode cX3_letter 15 = .ok (.aload_n 0, 1) := by decide +kernel
theorem dX3_letter_16 : decode cX3_letter 16 = .ok (.getfield 10, 3) := by decide +kernel
theorem dX3_letter_19 : decode cX3_letter 19 = .ok (.iload_n 1, 1) := by decide +kernel
theorem dX3_letter_20 : decode cX3_letter 20 = .ok (.invokevirtual 50, 3) := by decide +kernel
theorem dX3_letter_23 : decode cX3_letter 23 = .ok (.ifCond .eq 13, 3) := by decide +kernel
theorem dX3_letter_26 : decode cX3_letter 26 = .ok (.aload_n 0, 1) := by decide +kernel
theorem dX3_letter_27 : decode cX3_letter 27 = .ok (.getfield 10, 3) := by decide +kernel
theorem dX3_letter_30 : decode cX3_letter 30 = .ok (.getfield 54, 3) := by decide +kernel
theorem dX3_letter_33 : decode cX3_letter 33 = .ok (.goto 5, 3) := by decide +kernel
theorem dX3_letter_36 : decode cX3_letter 36 = .ok (.bipush (-104), 2) := by decide +kernel
theorem dX3_letter_38 : decode cX3_letter 38 = .ok (.ireturn, 1) := by decide +kernel
theorem dX3_blank_0 : decode cX3_blank 0 = .ok (.aload_n 0, 1) := by decide +kernel
theorem dX3_blank_1 : decode cX3_blank 1 = .ok (.getfield 10, 3) := by decide +kernel
theorem dX3_blank_4 : decode cX3_blank 4 = .ok (.getfield 54, 3) := by decide +kernel
theorem dX3_blank_7 : decode cX3_blank 7 = .ok (.istore_n 1, 1) := by decide +kernel
theorem dX3_blank_8 : decode cX3_blank 8 = .ok (.aload_n 0, 1) := by decide +kernel
theorem dX3_blank_9 : decode cX3_blank 9 = .ok (.getfield 10, 3) := by decide +kernel
theorem dX3_blank_12 : decode cX3_blank 12 = .ok (.iconst 0, 1) := by decide +kernel
theorem dX3_blank_13 : decode cX3_blank 13 = .ok (.putfield 54, 3) := by decide +kernel
theorem dX3_blank_16 : decode cX3_blank 16 = .ok (.iload_n 1, 1) := by decide +kernel
theorem dX3_blank_17 : decode cX3_blank 17 = .ok (.ireturn, 1) := by decide +kernel
theorem dX3_fault_0 : decode cX3_fault 0 = .ok (.aload_n 0, 1) := by decide +kernel
theorem dX3_fault_1 : decode cX3_fault 1 = .ok (.getfield 10, 3) := by decide +kernel
theorem dX3_fault_4 : decode cX3_fault 4 = .ok (.invokevirtual 57, 3) := by decide +kernel
theorem dX3_fault_7 : decode cX3_fault 7 = .ok (.ireturn, 1) := by decide +kernel
theorem dX3_leaf_0 : decode cX3_leaf 0 = .ok (.aload_n 0, 1) := by decide +kernel
theorem dX3_leaf_1 : decode cX3_leaf 1 = .ok (.getfield 10, 3) := by decide +kernel
theorem dX3_leaf_4 : decode cX3_leaf 4 = .ok (.invokevirtual 61, 3) := by decide +kernel
theorem dX3_leaf_7 : decode cX3_leaf 7 = .ok (.ifCond .ne 6, 3) := by decide +kernel
theorem dX3_leaf_10 : decode cX3_leaf 10 = .ok (.bipush (-103), 2) := by decide +kernel
theorem dX3_leaf_12 : decode cX3_leaf 12 = .ok (.ireturn, 1) := by decide +kernel
theorem dX3_leaf_13 : decode cX3_leaf 13 = .ok (.iconst 0, 1) := by decide +kernel
theorem dX3_leaf_14 : decode cX3_leaf 14 = .ok (.istore_n 1, 1) := by decide +kernel
theorem dX3_leaf_15 : decode cX3_leaf 15 = .ok (.iconst 0, 1) := by decide +kernel
theorem dX3_leaf_16 : decode cX3_leaf 16 = .ok (.istore_n 2, 1) := by decide +kernel
theorem dX3_leaf_17 : decode cX3_leaf 17 = .ok (.iload_n 2, 1) := by decide +kernel
theorem dX3_leaf_18 : decode cX3_leaf 18 = .ok (.aload_n 0, 1) := by decide +kernel
theorem dX3_leaf_19 : decode cX3_leaf 19 = .ok (.getfield 10, 3) := by decide +kernel
theorem dX3_leaf_22 : decode cX3_leaf 22 = .ok (.getfield 54, 3) := by decide +kernel
theorem dX3_leaf_25 : decode cX3_leaf 25 = .ok (.if_icmp .ge 68, 3) := by decide +kernel
theorem dX3_leaf_28 : decode cX3_leaf 28 = .ok (.iload_n 1, 1) := by decide +kernel
theorem dX3_leaf_29 : decode cX3_leaf 29 = .ok (.aload_n 0, 1) := by decide +kernel
theorem dX3_leaf_30 : decode cX3_leaf 30 = .ok (.getfield 18, 3) := by decide +kernel
theorem dX3_leaf_33 : decode cX3_leaf 33 = .ok (.arraylength, 1) := by decide +kernel
theorem dX3_leaf_34 : decode cX3_leaf 34 = .ok (.if_icmp .ge 59, 3) := by decide +kernel
theorem dX3_leaf_37 : decode cX3_leaf 37 = .ok (.aload_n 0, 1) := by decide +kernel
theorem dX3_leaf_38 : decode cX3_leaf 38 = .ok (.getfield 18, 3) := by decide +kernel
theorem dX3_leaf_41 : decode cX3_leaf 41 = .ok (.iload_n 1, 1) := by decide +kernel
theorem dX3_leaf_42 : decode cX3_leaf 42 = .ok (.aaload, 1) := by decide +kernel
theorem dX3_leaf_43 : decode cX3_leaf 43 = .ok (.aload_n 0, 1) := by decide +kernel
theorem dX3_leaf_44 : decode cX3_leaf 44 = .ok (.getfield 10, 3) := by decide +kernel
theorem dX3_leaf_47 : decode cX3_leaf 47 = .ok (.iload_n 2, 1) := by decide +kernel
theorem dX3_leaf_48 : decode cX3_leaf 48 = .ok (.invokevirtual 65, 3) := by decide +kernel
theorem dX3_leaf_51 : decode cX3_leaf 51 = .ok (.aload_n 0, 1) := by decide +kernel
theorem dX3_leaf_52 : decode cX3_leaf 52 = .ok (.getfield 10, 3) := by decide +kernel
theorem dX3_leaf_55 : decode cX3_leaf 55 = .ok (.iload_n 2, 1) := by decide +kernel
theorem dX3_leaf_56 : decode cX3_leaf 56 = .ok (.iconst 1, 1) := by decide +kernel
theorem dX3_leaf_57 : decode cX3_leaf 57 = .ok (.iadd, 1) := by decide +kernel
theorem dX3_leaf_58 : decode cX3_leaf 58 = .ok (.invokevirtual 69, 3) := by decide +kernel
theorem dX3_leaf_61 : decode cX3_leaf 61 = .ok (.aload_n 0, 1) := by decide +kernel
theorem dX3_leaf_62 : decode cX3_leaf 62 = .ok (.getfield 10, 3) := by decide +kernel
theorem dX3_leaf_65 : decode cX3_leaf 65 = .ok (.iload_n 2, 1) := by decide +kernel
theorem dX3_leaf_66 : decode cX3_leaf 66 = .ok (.iconst 2, 1) := by decide +kernel
theorem dX3_leaf_67 : decode cX3_leaf 67 = .ok (.iadd, 1) := by decide +kernel
theorem dX3_leaf_68 : decode cX3_leaf 68 = .ok (.invokevirtual 69, 3) := by decide +kernel
theorem dX3_leaf_71 : decode cX3_leaf 71 = .ok (.aload_n 0, 1) := by decide +kernel
theorem dX3_leaf_72 : decode cX3_leaf 72 = .ok (.getfield 10, 3) := by decide +kernel
theorem dX3_leaf_75 : decode cX3_leaf 75 = .ok (.iload_n 2, 1) := by decide +kernel
theorem dX3_leaf_76 : decode cX3_leaf 76 = .ok (.iconst 3, 1) := by decide +kernel
theorem dX3_leaf_77 : decode cX3_leaf 77 = .ok (.iadd, 1) := by decide +kernel
theorem dX3_leaf_78 : decode cX3_leaf 78 = .ok (.invokevirtual 69, 3) := by decide +kernel
theorem dX3_leaf_81 : decode cX3_leaf 81 = .ok (.invokevirtual 72, 3) := by decide +kernel
theorem dX3_leaf_84 : decode cX3_leaf 84 = .ok (.iinc 1 1, 3) := by decide +kernel
theorem dX3_leaf_87 : decode cX3_leaf 87 = .ok (.iinc 2 5, 3) := by decide +kernel
theorem dX3_leaf_90 : decode cX3_leaf 90 = .ok (.goto (-73), 3) := by decide +kernel
theorem dX3_leaf_93 : decode cX3_leaf 93 = .ok (.aload_n 0, 1) := by decide +kernel
theorem dX3_leaf_94 : decode cX3_leaf 94 = .ok (.getfield 25, 3) := by decide +kernel
theorem dX3_leaf_97 : decode cX3_leaf 97 = .ok (.iload_n 1, 1) := by decide +kernel
theorem dX3_leaf_98 : decode cX3_leaf 98 = .ok (.invokevirtual 76, 3) := by decide +kernel
theorem dX3_leaf_101 : decode cX3_leaf 101 = .ok (.aload_n 0, 1) := by decide +kernel
theorem dX3_leaf_102 : decode cX3_leaf 102 = .ok (.iconst 0, 1) := by decide +kernel
theorem dX3_leaf_103 : decode cX3_leaf 103 = .ok (.putfield 32, 3) := by decide +kernel
theorem dX3_leaf_106 : decode cX3_leaf 106 = .ok (.aload_n 0, 1) := by decide +kernel
theorem dX3_leaf_107 : decode cX3_leaf 107 = .ok (.dup, 1) := by decide +kernel
theorem dX3_leaf_108 : decode cX3_leaf 108 = .ok (.getfield 36, 3) := by decide +kernel
theorem dX3_leaf_111 : decode cX3_leaf 111 = .ok (.iconst 1, 1) := by decide +kernel
theorem dX3_leaf_112 : decode cX3_leaf 112 = .ok (.iadd, 1) := by decide +kernel
theorem dX3_leaf_113 : decode cX3_leaf 113 = .ok (.putfield 36, 3) := by decide +kernel
theorem dX3_leaf_116 : decode cX3_leaf 116 = .ok (.aload_n 0, 1) := by decide +kernel
theorem dX3_leaf_117 : decode cX3_leaf 117 = .ok (.getfield 10, 3) := by decide +kernel
theorem dX3_leaf_120 : decode cX3_leaf 120 = .ok (.iconst 0, 1) := by decide +kernel
theorem dX3_leaf_121 : decode cX3_leaf 121 = .ok (.putfield 54, 3) := by decide +kernel
theorem dX3_leaf_124 : decode cX3_leaf 124 = .ok (.iload_n 1, 1) := by decide +kernel
theorem dX3_leaf_125 : decode cX3_leaf 125 = .ok (.ireturn, 1) := by decide +kernel
theorem dX3_about_0 : decode cX3_about 0 = .ok (.aload_n 0, 1) := by decide +kernel
theorem dX3_about_1 : decode cX3_about 1 = .ok (.iload_n 1, 1) := by decide +kernel
theorem dX3_about_2 : decode cX3_about 2 = .ok (.invokevirtual 79, 3) := by decide +kernel
theorem dX3_about_5 : decode cX3_about 5 = .ok (.ifCond .ne 6, 3) := by decide +kernel
theorem dX3_about_8 : decode cX3_about 8 = .ok (.bipush (-101), 2) := by decide +kernel
theorem dX3_about_10 : decode cX3_about 10 = .ok (.ireturn, 1) := by decide +kernel
theorem dX3_about_11 : decode cX3_about 11 = .ok (.iload_n 2, 1) := by decide +kernel
theorem dX3_about_12 : decode cX3_about 12 = .ok (.tableswitch 103 0 5 #[40, 50, 60, 70, 80, 97], 40) := by decide +kernel
theorem dX3_about_52 : decode cX3_about 52 = .ok (.aload_n 0, 1) := by decide +kernel
theorem dX3_about_53 : decode cX3_about 53 = .ok (.getfield 18, 3) := by decide +kernel
theorem dX3_about_56 : decode cX3_about 56 = .ok (.iload_n 1, 1) := by decide +kernel
theorem dX3_about_57 : decode cX3_about 57 = .ok (.aaload, 1) := by decide +kernel
theorem dX3_about_58 : decode cX3_about 58 = .ok (.getfield 82, 3) := by decide +kernel
theorem dX3_about_61 : decode cX3_about 61 = .ok (.ireturn, 1) := by decide +kernel
theorem dX3_about_62 : decode cX3_about 62 = .ok (.aload_n 0, 1) := by decide +kernel
theorem dX3_about_63 : decode cX3_about 63 = .ok (.getfield 18, 3) := by decide +kernel
theorem dX3_about_66 : decode cX3_about 66 = .ok (.iload_n 1, 1) := by decide +kernel
theorem dX3_about_67 : decode cX3_about 67 = .ok (.aaload, 1) := by decide +kernel
theorem dX3_about_68 : decode cX3_about 68 = .ok (.getfield 85, 3) := by decide +kernel
theorem dX3_about_71 : decode cX3_about 71 = .ok (.ireturn, 1) := by decide +kernel
theorem dX3_about_72 : decode cX3_about 72 = .ok (.aload_n 0, 1) := by decide +kernel
theorem dX3_about_73 : decode cX3_about 73 = .ok (.getfield 18, 3) := by decide +kernel
theorem dX3_about_76 : decode cX3_about 76 = .ok (.iload_n 1, 1) := by decide +kernel
theorem dX3_about_77 : decode cX3_about 77 = .ok (.aaload, 1) := by decide +kernel
theorem dX3_about_78 : decode cX3_about 78 = .ok (.getfield 88, 3) := by decide +kernel
theorem dX3_about_81 : decode cX3_about 81 = .ok (.ireturn, 1) := by decide +kernel
theorem dX3_about_82 : decode cX3_about 82 = .ok (.aload_n 0, 1) := by decide +kernel
theorem dX3_about_83 : decode cX3_about 83 = .ok (.getfield 18, 3) := by decide +kernel
theorem dX3_about_86 : decode cX3_about 86 = .ok (.iload_n 1, 1) := by decide +kernel
theorem dX3_about_87 : decode cX3_about 87 = .ok (.aaload, 1) := by decide +kernel
theorem dX3_about_88 : decode cX3_about 88 = .ok (.getfield 91, 3) := by decide +kernel
theorem dX3_about_91 : decode cX3_about 91 = .ok (.ireturn, 1) := by decide +kernel
theorem dX3_about_92 : decode cX3_about 92 = .ok (.aload_n 0, 1) := by decide +kernel
theorem dX3_about_93 : decode cX3_about 93 = .ok (.getfield 25, 3) := by decide +kernel
theorem dX3_about_96 : decode cX3_about 96 = .ok (.iload_n 1, 1) := by decide +kernel
theorem dX3_about_97 : decode cX3_about 97 = .ok (.invokevirtual 94, 3) := by decide +kernel
theorem dX3_about_100 : decode cX3_about 100 = .ok (.ifCond .eq 7, 3) := by decide +kernel
theorem dX3_about_103 : decode cX3_about 103 = .ok (.iconst 1, 1) := by decide +kernel
theorem dX3_about_104 : decode cX3_about 104 = .ok (.goto 4, 3) := by decide +kernel
theorem dX3_about_107 : decode cX3_about 107 = .ok (.iconst 0, 1) := by decide +kernel
theorem dX3_about_108 : decode cX3_about 108 = .ok (.ireturn, 1) := by decide +kernel
theorem dX3_about_109 : decode cX3_about 109 = .ok (.aload_n 0, 1) := by decide +kernel
theorem dX3_about_110 : decode cX3_about 110 = .ok (.iload_n 1, 1) := by decide +kernel
theorem dX3_about_111 : decode cX3_about 111 = .ok (.invokevirtual 97, 3) := by decide +kernel
theorem dX3_about_114 : decode cX3_about 114 = .ok (.ireturn, 1) := by decide +kernel
theorem dX3_about_115 : decode cX3_about 115 = .ok (.bipush (-102), 2) := by decide +kernel
theorem dX3_about_117 : decode cX3_about 117 = .ok (.ireturn, 1) := by decide +kernel
theorem dX3_as_0 : decode cX3_as 0 = .ok (.aload_n 0, 1) := by decide +kernel
theorem dX3_as_1 : decode cX3_as 1 = .ok (.iload_n 1, 1) := by decide +kernel
theorem dX3_as_2 : decode cX3_as 2 = .ok (.invokevirtual 79, 3) := by decide +kernel
theorem dX3_as_5 : decode cX3_as 5 = .ok (.ifCond .ne 6, 3) := by decide +kernel
theorem dX3_as_8 : decode cX3_as 8 = .ok (.bipush (-101), 2) := by decide +kernel
theorem dX3_as_10 : decode cX3_as 10 = .ok (.ireturn, 1) := by decide +kernel
theorem dX3_as_11 : decode cX3_as 11 = .ok (.iload_n 2, 1) := by decide +kernel
theorem dX3_as_12 : decode cX3_as 12 = .ok (.invokestatic 100, 3) := by decide +kernel
theorem dX3_as_15 : decode cX3_as 15 = .ok (.ifCond .ne 6, 3) := by decide +kernel
theorem dX3_as_18 : decode cX3_as 18 = .ok (.bipush (-102), 2) := by decide +kernel
theorem dX3_as_20 : decode cX3_as 20 = .ok (.ireturn, 1) := by decide +kernel
theorem dX3_as_21 : decode cX3_as 21 = .ok (.aload_n 0, 1) := by decide +kernel
theorem dX3_as_22 : decode cX3_as 22 = .ok (.getfield 18, 3) := by decide +kernel
theorem dX3_as_25 : decode cX3_as 25 = .ok (.iload_n 1, 1) := by decide +kernel
theorem dX3_as_26 : decode cX3_as 26 = .ok (.aaload, 1) := by decide +kernel
theorem dX3_as_27 : decode cX3_as 27 = .ok (.iload_n 2, 1) := by decide +kernel
theorem dX3_as_28 : decode cX3_as 28 = .ok (.invokevirtual 103, 3) := by decide +kernel
theorem dX3_as_31 : decode cX3_as 31 = .ok (.ifCond .eq 7, 3) := by decide +kernel
theorem dX3_as_34 : decode cX3_as 34 = .ok (.iload_n 1, 1) := by decide +kernel
theorem dX3_as_35 : decode cX3_as 35 = .ok (.goto 4, 3) := by decide +kernel
theorem dX3_as_38 : decode cX3_as 38 = .ok (.iconst (-1), 1) := by decide +kernel
theorem dX3_as_39 : decode cX3_as 39 = .ok (.ireturn, 1) := by decide +kernel
theorem dX3_write_0 : decode cX3_write 0 = .ok (.iload_n 1, 1) := by decide +kernel
theorem dX3_write_1 : decode cX3_write 1 = .ok (.invokestatic 100, 3) := by decide +kernel
theorem dX3_write_4 : decode cX3_write 4 = .ok (.ifCond .eq 33, 3) := by decide +kernel
theorem dX3_write_7 : decode cX3_write 7 = .ok (.iload_n 2, 1) := by decide +kernel
theorem dX3_write_8 : decode cX3_write 8 = .ok (.invokestatic 106, 3) := by decide +kernel
theorem dX3_write_11 : decode cX3_write 11 = .ok (.ifCond .eq 26, 3) := by decide +kernel
theorem dX3_write_14 : decode cX3_write 14 = .ok (.iload_n 3, 1) := by decide +kernel
theorem dX3_write_15 : decode cX3_write 15 = .ok (.iconst 1, 1) := by decide +kernel
theorem dX3_write_16 : decode cX3_write 16 = .ok (.if_icmp .lt 21, 3) := by decide +kernel
theorem dX3_write_19 : decode cX3_write 19 = .ok (.iload_n 3, 1) := by decide +kernel
theorem dX3_write_20 : decode cX3_write 20 = .ok (.iconst 5, 1) := by decide +kernel
theorem dX3_write_21 : decode cX3_write 21 = .ok (.if_icmp .gt 16, 3) := by decide +kernel
theorem dX3_write_24 : decode cX3_write 24 = .ok (.iload 4, 2) := by decide +kernel
theorem dX3_write_26 : decode cX3_write 26 = .ok (.iconst 1, 1) := by decide +kernel
theorem dX3_write_27 : decode cX3_write 27 = .ok (.if_icmp .lt 10, 3) := by decide +kernel
theorem dX3_write_30 : decode cX3_write 30 = .ok (.iload 4, 2) := by decide +kernel
theorem dX3_write_32 : decode cX3_write 32 = .ok (.bipush 9, 2) := by decide +kernel
theorem dX3_write_34 : decode cX3_write 34 = .ok (.if_icmp .le 6, 3) := by decide +kernel
theorem dX3_write_37 : decode cX3_write 37 = .ok (.bipush (-102), 2) := by decide +kernel
theorem dX3_write_39 : decode cX3_write 39 = .ok (.ireturn, 1) := by decide +kernel
theorem dX3_write_40 : decode cX3_write 40 = .ok (.aload_n 0, 1) := by decide +kernel
theorem dX3_write_41 : decode cX3_write 41 = .ok (.invokevirtual 109, 3) := by decide +kernel
theorem dX3_write_44 : decode cX3_write 44 = .ok (.ifCond .ne 6, 3) := by decide +kernel
theorem dX3_write_47 : decode cX3_write 47 = .ok (.bipush (-103), 2) := by decide +kernel
theorem dX3_write_49 : decode cX3_write 49 = .ok (.ireturn, 1) := by decide +kernel
theorem dX3_write_50 : decode cX3_write 50 = .ok (.aload_n 0, 1) := by decide +kernel
theorem dX3_write_51 : decode cX3_write 51 = .ok (.getfield 25, 3) := by decide +kernel
theorem dX3_write_54 : decode cX3_write 54 = .ok (.getfield 112, 3) := by decide +kernel
theorem dX3_write_57 : decode cX3_write 57 = .ok (.istore 5, 2) := by decide +kernel
theorem dX3_write_59 : decode cX3_write 59 = .ok (.iload 5, 2) := by decide +kernel
theorem dX3_write_61 : decode cX3_write 61 = .ok (.ifCond .lt 13, 3) := by decide +kernel
theorem dX3_write_64 : decode cX3_write 64 = .ok (.iload 5, 2) := by decide +kernel
theorem dX3_write_66 : decode cX3_write 66 = .ok (.aload_n 0, 1) := by decide +kernel
theorem dX3_write_67 : decode cX3_write 67 = .ok (.getfield 18, 3) := by decide +kernel
theorem dX3_write_70 : decode cX3_write 70 = .ok (.arraylength, 1) := by decide +kernel
theorem dX3_write_71 : decode cX3_write 71 = .ok (.if_icmp .lt 6, 3) := by decide +kernel
theorem dX3_write_74 : decode cX3_write 74 = .ok (.bipush (-104), 2) := by decide +kernel
theorem dX3_write_76 : decode cX3_write 76 = .ok (.ireturn, 1) := by decide +kernel
theorem dX3_write_77 : decode cX3_write 77 = .ok (.aload_n 0, 1) := by decide +kernel
theorem dX3_write_78 : decode cX3_write 78 = .ok (.getfield 18, 3) := by decide +kernel
theorem dX3_write_81 : decode cX3_write 81 = .ok (.iload 5, 2) := by decide +kernel
theorem dX3_write_83 : decode cX3_write 83 = .ok (.aaload, 1) := by decide +kernel
theorem dX3_write_84 : decode cX3_write 84 = .ok (.iload_n 1, 1) := by decide +kernel
theorem dX3_write_85 : decode cX3_write 85 = .ok (.iload_n 2, 1) := by decide +kernel
theorem dX3_write_86 : decode cX3_write 86 = .ok (.iload_n 3, 1) := by decide +kernel
theorem dX3_write_87 : decode cX3_write 87 = .ok (.iload 4, 2) := by decide +kernel
theorem dX3_write_89 : decode cX3_write 89 = .ok (.invokevirtual 72, 3) := by decide +kernel
theorem dX3_write_92 : decode cX3_write 92 = .ok (.aload_n 0, 1) := by decide +kernel
theorem dX3_write_93 : decode cX3_write 93 = .ok (.getfield 25, 3) := by decide +kernel
theorem dX3_write_96 : decode cX3_write 96 = .ok (.iload 5, 2) := by decide +kernel
theorem dX3_write_98 : decode cX3_write 98 = .ok (.iconst 1, 1) := by decide +kernel
theorem dX3_write_99 : decode cX3_write 99 = .ok (.iadd, 1) := by decide +kernel
theorem dX3_write_100 : decode cX3_write 100 = .ok (.putfield 112, 3) := by decide +kernel
theorem dX3_write_103 : decode cX3_write 103 = .ok (.iload 5, 2) := by decide +kernel
theorem dX3_write_105 : decode cX3_write 105 = .ok (.ireturn, 1) := by decide +kernel
theorem dX3_sand_0 : decode cX3_sand 0 = .ok (.aload_n 0, 1) := by decide +kernel
theorem dX3_sand_1 : decode cX3_sand 1 = .ok (.iload_n 1, 1) := by decide +kernel
theorem dX3_sand_2 : decode cX3_sand 2 = .ok (.invokevirtual 79, 3) := by decide +kernel
theorem dX3_sand_5 : decode cX3_sand 5 = .ok (.ifCond .ne 6, 3) := by decide +kernel
theorem dX3_sand_8 : decode cX3_sand 8 = .ok (.bipush (-101), 2) := by decide +kernel
theorem dX3_sand_10 : decode cX3_sand 10 = .ok (.ireturn, 1) := by decide +kernel
theorem dX3_sand_11 : decode cX3_sand 11 = .ok (.aload_n 0, 1) := by decide +kernel
theorem dX3_sand_12 : decode cX3_sand 12 = .ok (.getfield 25, 3) := by decide +kernel
theorem dX3_sand_15 : decode cX3_sand 15 = .ok (.iload_n 1, 1) := by decide +kernel
theorem dX3_sand_16 : decode cX3_sand 16 = .ok (.invokevirtual 94, 3) := by decide +kernel
theorem dX3_sand_19 : decode cX3_sand 19 = .ok (.ifCond .eq 7, 3) := by decide +kernel
theorem dX3_sand_22 : decode cX3_sand 22 = .ok (.iconst 1, 1) := by decide +kernel
theorem dX3_sand_23 : decode cX3_sand 23 = .ok (.goto 4, 3) := by decide +kernel
theorem dX3_sand_26 : decode cX3_sand 26 = .ok (.iconst 0, 1) := by decide +kernel
theorem dX3_sand_27 : decode cX3_sand 27 = .ok (.istore_n 3, 1) := by decide +kernel
theorem dX3_sand_28 : decode cX3_sand 28 = .ok (.aload_n 0, 1) := by decide +kernel
theorem dX3_sand_29 : decode cX3_sand 29 = .ok (.getfield 25, 3) := by decide +kernel
theorem dX3_sand_32 : decode cX3_sand 32 = .ok (.iload_n 1, 1) := by decide +kernel
theorem dX3_sand_33 : decode cX3_sand 33 = .ok (.iload_n 2, 1) := by decide +kernel
theorem dX3_sand_34 : decode cX3_sand 34 = .ok (.invokevirtual 114, 3) := by decide +kernel
theorem dX3_sand_37 : decode cX3_sand 37 = .ok (.iload_n 3, 1) := by decide +kernel
theorem dX3_sand_38 : decode cX3_sand 38 = .ok (.ireturn, 1) := by decide +kernel
theorem dX3_wet_0 : decode cX3_wet 0 = .ok (.aload_n 0, 1) := by decide +kernel
theorem dX3_wet_1 : decode cX3_wet 1 = .ok (.iload_n 1, 1) := by decide +kernel
theorem dX3_wet_2 : decode cX3_wet 2 = .ok (.invokevirtual 79, 3) := by decide +kernel
theorem dX3_wet_5 : decode cX3_wet 5 = .ok (.ifCond .ne 6, 3) := by decide +kernel
theorem dX3_wet_8 : decode cX3_wet 8 = .ok (.bipush (-101), 2) := by decide +kernel
theorem dX3_wet_10 : decode cX3_wet 10 = .ok (.ireturn, 1) := by decide +kernel
theorem dX3_wet_11 : decode cX3_wet 11 = .ok (.iload_n 2, 1) := by decide +kernel
theorem dX3_wet_12 : decode cX3_wet 12 = .ok (.invokestatic 118, 3) := by decide +kernel
theorem dX3_wet_15 : decode cX3_wet 15 = .ok (.ifCond .ne 6, 3) := by decide +kernel
theorem dX3_wet_18 : decode cX3_wet 18 = .ok (.bipush (-102), 2) := by decide +kernel
theorem dX3_wet_20 : decode cX3_wet 20 = .ok (.ireturn, 1) := by decide +kernel
theorem dX3_wet_21 : decode cX3_wet 21 = .ok (.aload_n 0, 1) := by decide +kernel
theorem dX3_wet_22 : decode cX3_wet 22 = .ok (.getfield 25, 3) := by decide +kernel
theorem dX3_wet_25 : decode cX3_wet 25 = .ok (.iload_n 1, 1) := by decide +kernel
theorem dX3_wet_26 : decode cX3_wet 26 = .ok (.invokevirtual 94, 3) := by decide +kernel
theorem dX3_wet_29 : decode cX3_wet 29 = .ok (.ifCond .eq 7, 3) := by decide +kernel
theorem dX3_wet_32 : decode cX3_wet 32 = .ok (.iconst 0, 1) := by decide +kernel
theorem dX3_wet_33 : decode cX3_wet 33 = .ok (.goto 22, 3) := by decide +kernel
theorem dX3_wet_36 : decode cX3_wet 36 = .ok (.aload_n 0, 1) := by decide +kernel
theorem dX3_wet_37 : decode cX3_wet 37 = .ok (.getfield 18, 3) := by decide +kernel
theorem dX3_wet_40 : decode cX3_wet 40 = .ok (.iload_n 1, 1) := by decide +kernel
theorem dX3_wet_41 : decode cX3_wet 41 = .ok (.aaload, 1) := by decide +kernel
theorem dX3_wet_42 : decode cX3_wet 42 = .ok (.iload_n 2, 1) := by decide +kernel
theorem dX3_wet_43 : decode cX3_wet 43 = .ok (.aload_n 0, 1) := by decide +kernel
theorem dX3_wet_44 : decode cX3_wet 44 = .ok (.getfield 18, 3) := by decide +kernel
theorem dX3_wet_47 : decode cX3_wet 47 = .ok (.iload_n 1, 1) := by decide +kernel
theorem dX3_wet_48 : decode cX3_wet 48 = .ok (.aaload, 1) := by decide +kernel
theorem dX3_wet_49 : decode cX3_wet 49 = .ok (.getfield 91, 3) := by decide +kernel
theorem dX3_wet_52 : decode cX3_wet 52 = .ok (.invokevirtual 121, 3) := by decide +kernel
theorem dX3_wet_55 : decode cX3_wet 55 = .ok (.ireturn, 1) := by decide +kernel
theorem dX3_ink_0 : decode cX3_ink 0 = .ok (.aload_n 0, 1) := by decide +kernel
theorem dX3_ink_1 : decode cX3_ink 1 = .ok (.iload_n 1, 1) := by decide +kernel
theorem dX3_ink_2 : decode cX3_ink 2 = .ok (.invokevirtual 125, 3) := by decide +kernel
theorem dX3_ink_5 : decode cX3_ink 5 = .ok (.ifCond .eq 15, 3) := by decide +kernel
theorem dX3_ink_8 : decode cX3_ink 8 = .ok (.aload_n 0, 1) := by decide +kernel
theorem dX3_ink_9 : decode cX3_ink 9 = .ok (.getfield 25, 3) := by decide +kernel
theorem dX3_ink_12 : decode cX3_ink 12 = .ok (.getfield 128, 3) := by decide +kernel
theorem dX3_ink_15 : decode cX3_ink 15 = .ok (.iload_n 1, 1) := by decide +kernel
theorem dX3_ink_16 : decode cX3_ink 16 = .ok (.iaload, 1) := by decide +kernel
theorem dX3_ink_17 : decode cX3_ink 17 = .ok (.goto 5, 3) := by decide +kernel
theorem dX3_ink_20 : decode cX3_ink 20 = .ok (.bipush (-101), 2) := by decide +kernel
theorem dX3_ink_22 : decode cX3_ink 22 = .ok (.ireturn, 1) := by decide +kernel
theorem dX3_comes_0 : decode cX3_comes 0 = .ok (.aload_n 0, 1) := by decide +kernel
theorem dX3_comes_1 : decode cX3_comes 1 = .ok (.iload_n 1, 1) := by decide +kernel
theorem dX3_comes_2 : decode cX3_comes 2 = .ok (.invokevirtual 125, 3) := by decide +kernel
theorem dX3_comes_5 : decode cX3_comes 5 = .ok (.ifCond .ne 6, 3) := by decide +kernel
theorem dX3_comes_8 : decode cX3_comes 8 = .ok (.bipush (-101), 2) := by decide +kernel
theorem dX3_comes_10 : decode cX3_comes 10 = .ok (.ireturn, 1) := by decide +kernel
theorem dX3_comes_11 : decode cX3_comes 11 = .ok (.iload_n 2, 1) := by decide +kernel
theorem dX3_comes_12 : decode cX3_comes 12 = .ok (.invokestatic 118, 3) := by decide +kernel
theorem dX3_comes_15 : decode cX3_comes 15 = .ok (.ifCond .eq 12, 3) := by decide +kernel
theorem dX3_comes_18 : decode cX3_comes 18 = .ok (.aload_n 0, 1) := by decide +kernel
theorem dX3_comes_19 : decode cX3_comes 19 = .ok (.iload_n 1, 1) := by decide +kernel
theorem dX3_comes_20 : decode cX3_comes 20 = .ok (.iload_n 2, 1) := by decide +kernel
theorem dX3_comes_21 : decode cX3_comes 21 = .ok (.invokevirtual 131, 3) := by decide +kernel
theorem dX3_comes_24 : decode cX3_comes 24 = .ok (.goto 5, 3) := by decide +kernel
theorem dX3_comes_27 : decode cX3_comes 27 = .ok (.bipush (-102), 2) := by decide +kernel
theorem dX3_comes_29 : decode cX3_comes 29 = .ok (.ireturn, 1) := by decide +kernel
theorem dX3_evening_0 : decode cX3_evening 0 = .ok (.iload_n 1, 1) := by decide +kernel
theorem dX3_evening_1 : decode cX3_evening 1 = .ok (.invokestatic 118, 3) := by decide +kernel
theorem dX3_evening_4 : decode cX3_evening 4 = .ok (.ifCond .ne 6, 3) := by decide +kernel
theorem dX3_evening_7 : decode cX3_evening 7 = .ok (.bipush (-102), 2) := by decide +kernel
theorem dX3_evening_9 : decode cX3_evening 9 = .ok (.ireturn, 1) := by decide +kernel
theorem dX3_evening_10 : decode cX3_evening 10 = .ok (.aload_n 0, 1) := by decide +kernel
theorem dX3_evening_11 : decode cX3_evening 11 = .ok (.invokevirtual 109, 3) := by decide +kernel
theorem dX3_evening_14 : decode cX3_evening 14 = .ok (.ifCond .ne 6, 3) := by decide +kernel
theorem dX3_evening_17 : decode cX3_evening 17 = .ok (.bipush (-103), 2) := by decide +kernel
theorem dX3_evening_19 : decode cX3_evening 19 = .ok (.ireturn, 1) := by decide +kernel
theorem dX3_evening_20 : decode cX3_evening 20 = .ok (.aload_n 0, 1) := by decide +kernel
theorem dX3_evening_21 : decode cX3_evening 21 = .ok (.getfield 25, 3) := by decide +kernel
theorem dX3_evening_24 : decode cX3_evening 24 = .ok (.dup, 1) := by decide +kernel
theorem dX3_evening_25 : decode cX3_evening 25 = .ok (.getfield 134, 3) := by decide +kernel
theorem dX3_evening_28 : decode cX3_evening 28 = .ok (.iconst 1, 1) := by decide +kernel
theorem dX3_evening_29 : decode cX3_evening 29 = .ok (.iadd, 1) := by decide +kernel
theorem dX3_evening_30 : decode cX3_evening 30 = .ok (.putfield 134, 3) := by decide +kernel
theorem dX3_evening_33 : decode cX3_evening 33 = .ok (.aload_n 0, 1) := by decide +kernel
theorem dX3_evening_34 : decode cX3_evening 34 = .ok (.aload_n 0, 1) := by decide +kernel
theorem dX3_evening_35 : decode cX3_evening 35 = .ok (.getfield 25, 3) := by decide +kernel
theorem dX3_evening_38 : decode cX3_evening 38 = .ok (.getfield 128, 3) := by decide +kernel
theorem dX3_evening_41 : decode cX3_evening 41 = .ok (.iload_n 1, 1) := by decide +kernel
theorem dX3_evening_42 : decode cX3_evening 42 = .ok (.invokevirtual 137, 3) := by decide +kernel
theorem dX3_evening_45 : decode cX3_evening 45 = .ok (.ireturn, 1) := by decide +kernel
theorem dX3_hills_0 : decode cX3_hills 0 = .ok (.iload_n 1, 1) := by decide +kernel
theorem dX3_hills_1 : decode cX3_hills 1 = .ok (.iconst 1, 1) := by decide +kernel
theorem dX3_hills_2 : decode cX3_hills 2 = .ok (.if_icmp .lt 9, 3) := by decide +kernel
theorem dX3_hills_5 : decode cX3_hills 5 = .ok (.iload_n 1, 1) := by decide +kernel
theorem dX3_hills_6 : decode cX3_hills 6 = .ok (.bipush 99, 2) := by decide +kernel
theorem dX3_hills_8 : decode cX3_hills 8 = .ok (.if_icmp .le 6, 3) := by decide +kernel
theorem dX3_hills_11 : decode cX3_hills 11 = .ok (.bipush (-102), 2) := by decide +kernel
theorem dX3_hills_13 : decode cX3_hills 13 = .ok (.ireturn, 1) := by decide +kernel
theorem dX3_hills_14 : decode cX3_hills 14 = .ok (.aload_n 0, 1) := by decide +kernel
theorem dX3_hills_15 : decode cX3_hills 15 = .ok (.invokevirtual 109, 3) := by decide +kernel
theorem dX3_hills_18 : decode cX3_hills 18 = .ok (.ifCond .ne 6, 3) := by decide +kernel
theorem dX3_hills_21 : decode cX3_hills 21 = .ok (.bipush (-103), 2) := by decide +kernel
theorem dX3_hills_23 : decode cX3_hills 23 = .ok (.ireturn, 1) := by decide +kernel
theorem dX3_hills_24 : decode cX3_hills 24 = .ok (.iconst 0, 1) := by decide +kernel
theorem dX3_hills_25 : decode cX3_hills 25 = .ok (.istore_n 2, 1) := by decide +kernel
theorem dX3_hills_26 : decode cX3_hills 26 = .ok (.iconst 0, 1) := by decide +kernel
theorem dX3_hills_27 : decode cX3_hills 27 = .ok (.istore_n 3, 1) := by decide +kernel
theorem dX3_hills_28 : decode cX3_hills 28 = .ok (.iconst 0, 1) := by decide +kernel
theorem dX3_hills_29 : decode cX3_hills 29 = .ok (.istore 4, 2) := by decide +kernel
theorem dX3_hills_31 : decode cX3_hills 31 = .ok (.iload 4, 2) := by decide +kernel
theorem dX3_hills_33 : decode cX3_hills 33 = .ok (.bipush 10, 2) := by decide +kernel
theorem dX3_hills_35 : decode cX3_hills 35 = .ok (.if_icmp .ge 45, 3) := by decide +kernel
theorem dX3_hills_38 : decode cX3_hills 38 = .ok (.aload_n 0, 1) := by decide +kernel
theorem dX3_hills_39 : decode cX3_hills 39 = .ok (.getfield 25, 3) := by decide +kernel
theorem dX3_hills_42 : decode cX3_hills 42 = .ok (.getfield 128, 3) := by decide +kernel
theorem dX3_hills_45 : decode cX3_hills 45 = .ok (.iload 4, 2) := by decide +kernel
theorem dX3_hills_47 : decode cX3_hills 47 = .ok (.iaload, 1) := by decide +kernel
theorem dX3_hills_48 : decode cX3_hills 48 = .ok (.iload_n 1, 1) := by decide +kernel
theorem dX3_hills_49 : decode cX3_hills 49 = .ok (.if_icmp .lt 7, 3) := by decide +kernel
theorem dX3_hills_52 : decode cX3_hills 52 = .ok (.iconst 1, 1) := by decide +kernel
theorem dX3_hills_53 : decode cX3_hills 53 = .ok (.goto 4, 3) := by decide +kernel
theorem dX3_hills_56 : decode cX3_hills 56 = .ok (.iconst 0, 1) := by decide +kernel
theorem dX3_hills_57 : decode cX3_hills 57 = .ok (.istore 5, 2) := by decide +kernel
theorem dX3_hills_59 : decode cX3_hills 59 = .ok (.iload 5, 2) := by decide +kernel
theorem dX3_hills_61 : decode cX3_hills 61 = .ok (.ifCond .eq 10, 3) := by decide +kernel
theorem dX3_hills_64 : decode cX3_hills 64 = .ok (.iload_n 3, 1) := by decide +kernel
theorem dX3_hills_65 : decode cX3_hills 65 = .ok (.ifCond .ne 6, 3) := by decide +kernel
theorem dX3_hills_68 : decode cX3_hills 68 = .ok (.iinc 2 1, 3) := by decide +kernel
theorem dX3_hills_71 : decode cX3_hills 71 = .ok (.iload 5, 2) := by decide +kernel
theorem dX3_hills_73 : decode cX3_hills 73 = .ok (.istore_n 3, 1) := by decide +kernel
theorem dX3_hills_74 : decode cX3_hills 74 = .ok (.iinc 4 1, 3) := by decide +kernel
theorem dX3_hills_77 : decode cX3_hills 77 = .ok (.goto (-46), 3) := by decide +kernel
theorem dX3_hills_80 : decode cX3_hills 80 = .ok (.iload_n 2, 1) := by decide +kernel
theorem dX3_hills_81 : decode cX3_hills 81 = .ok (.ireturn, 1) := by decide +kernel
theorem dX3_close_0 : decode cX3_close 0 = .ok (.aload_n 0, 1) := by decide +kernel
theorem dX3_close_1 : decode cX3_close 1 = .ok (.iload_n 1, 1) := by decide +kernel
theorem dX3_close_2 : decode cX3_close 2 = .ok (.invokevirtual 125, 3) := by decide +kernel
theorem dX3_close_5 : decode cX3_close 5 = .ok (.ifCond .ne 6, 3) := by decide +kernel
theorem dX3_close_8 : decode cX3_close 8 = .ok (.bipush (-101), 2) := by decide +kernel
theorem dX3_close_10 : decode cX3_close 10 = .ok (.ireturn, 1) := by decide +kernel
theorem dX3_close_11 : decode cX3_close 11 = .ok (.iload_n 2, 1) := by decide +kernel
theorem dX3_close_12 : decode cX3_close 12 = .ok (.invokestatic 141, 3) := by decide +kernel
theorem dX3_close_15 : decode cX3_close 15 = .ok (.ifCond .ne 6, 3) := by decide +kernel
theorem dX3_close_18 : decode cX3_close 18 = .ok (.bipush (-102), 2) := by decide +kernel
theorem dX3_close_20 : decode cX3_close 20 = .ok (.ireturn, 1) := by decide +kernel
theorem dX3_close_21 : decode cX3_close 21 = .ok (.iconst 0, 1) := by decide +kernel
theorem dX3_close_22 : decode cX3_close 22 = .ok (.istore_n 3, 1) := by decide +kernel
theorem dX3_close_23 : decode cX3_close 23 = .ok (.iload_n 3, 1) := by decide +kernel
theorem dX3_close_24 : decode cX3_close 24 = .ok (.bipush 20, 2) := by decide +kernel
theorem dX3_close_26 : decode cX3_close 26 = .ok (.if_icmp .gt 21, 3) := by decide +kernel
theorem dX3_close_29 : decode cX3_close 29 = .ok (.aload_n 0, 1) := by decide +kernel
theorem dX3_close_30 : decode cX3_close 30 = .ok (.iload_n 1, 1) := by decide +kernel
theorem dX3_close_31 : decode cX3_close 31 = .ok (.iload_n 3, 1) := by decide +kernel
theorem dX3_close_32 : decode cX3_close 32 = .ok (.invokevirtual 131, 3) := by decide +kernel
theorem dX3_close_35 : decode cX3_close 35 = .ok (.iload_n 2, 1) := by decide +kernel
theorem dX3_close_36 : decode cX3_close 36 = .ok (.if_icmp .ne 5, 3) := by decide +kernel
theorem dX3_close_39 : decode cX3_close 39 = .ok (.iload_n 3, 1) := by decide +kernel
theorem dX3_close_40 : decode cX3_close 40 = .ok (.ireturn, 1) := by decide +kernel
theorem dX3_close_41 : decode cX3_close 41 = .ok (.iinc 3 1, 3) := by decide +kernel
theorem dX3_close_44 : decode cX3_close 44 = .ok (.goto (-21), 3) := by decide +kernel
theorem dX3_close_47 : decode cX3_close 47 = .ok (.iconst (-1), 1) := by decide +kernel
theorem dX3_close_48 : decode cX3_close 48 = .ok (.ireturn, 1) := by decide +kernel
theorem dX3_toSand_0 : decode cX3_toSand 0 = .ok (.iload_n 1, 1) := by decide +kernel
theorem dX3_toSand_1 : decode cX3_toSand 1 = .ok (.invokestatic 118, 3) := by decide +kernel
theorem dX3_toSand_4 : decode cX3_toSand 4 = .ok (.ifCond .eq 23, 3) := by decide +kernel
theorem dX3_toSand_7 : decode cX3_toSand 7 = .ok (.iload_n 2, 1) := by decide +kernel
theorem dX3_toSand_8 : decode cX3_toSand 8 = .ok (.ifCond .lt 19, 3) := by decide +kernel
theorem dX3_toSand_11 : decode cX3_toSand 11 = .ok (.iload_n 2, 1) := by decide +kernel
theorem dX3_toSand_12 : decode cX3_toSand 12 = .ok (.sipush 1023, 3) := by decide +kernel
theorem dX3_toSand_15 : decode cX3_toSand 15 = .ok (.if_icmp .gt 12, 3) := by decide +kernel
theorem dX3_toSand_18 : decode cX3_toSand 18 = .ok (.iload_n 3, 1) := by decide +kernel
theorem dX3_toSand_19 : decode cX3_toSand 19 = .ok (.ifCond .lt 8, 3) := by decide +kernel
theorem dX3_toSand_22 : decode cX3_toSand 22 = .ok (.iload_n 3, 1) := by decide +kernel
theorem dX3_toSand_23 : decode cX3_toSand 23 = .ok (.iconst 1, 1) := by decide +kernel
theorem dX3_toSand_24 : decode cX3_toSand 24 = .ok (.if_icmp .le 6, 3) := by decide +kernel
theorem dX3_toSand_27 : decode cX3_toSand 27 = .ok (.bipush (-102), 2) := by decide +kernel
theorem dX3_toSand_29 : decode cX3_toSand 29 = .ok (.ireturn, 1) := by decide +kernel
theorem dX3_toSand_30 : decode cX3_toSand 30 = .ok (.aload_n 0, 1) := by decide +kernel
theorem dX3_toSand_31 : decode cX3_toSand 31 = .ok (.invokevirtual 109, 3) := by decide +kernel
theorem dX3_toSand_34 : decode cX3_toSand 34 = .ok (.ifCond .ne 6, 3) := by decide +kernel
theorem dX3_toSand_37 : decode cX3_toSand 37 = .ok (.bipush (-103), 2) := by decide +kernel
theorem dX3_toSand_39 : decode cX3_toSand 39 = .ok (.ireturn, 1) := by decide +kernel
theorem dX3_toSand_40 : decode cX3_toSand 40 = .ok (.iconst 0, 1) := by decide +kernel
theorem dX3_toSand_41 : decode cX3_toSand 41 = .ok (.istore 4, 2) := by decide +kernel
theorem dX3_toSand_43 : decode cX3_toSand 43 = .ok (.iconst 0, 1) := by decide +kernel
theorem dX3_toSand_44 : decode cX3_toSand 44 = .ok (.istore 5, 2) := by decide +kernel
theorem dX3_toSand_46 : decode cX3_toSand 46 = .ok (.iload 5, 2) := by decide +kernel
theorem dX3_toSand_48 : decode cX3_toSand 48 = .ok (.aload_n 0, 1) := by decide +kernel
theorem dX3_toSand_49 : decode cX3_toSand 49 = .ok (.getfield 25, 3) := by decide +kernel
theorem dX3_toSand_52 : decode cX3_toSand 52 = .ok (.getfield 112, 3) := by decide +kernel
theorem dX3_toSand_55 : decode cX3_toSand 55 = .ok (.if_icmp .ge 29, 3) := by decide +kernel
theorem dX3_toSand_58 : decode cX3_toSand 58 = .ok (.aload_n 0, 1) := by decide +kernel
theorem dX3_toSand_59 : decode cX3_toSand 59 = .ok (.iload 5, 2) := by decide +kernel
theorem dX3_toSand_61 : decode cX3_toSand 61 = .ok (.iload_n 1, 1) := by decide +kernel
theorem dX3_toSand_62 : decode cX3_toSand 62 = .ok (.iload_n 2, 1) := by decide +kernel
theorem dX3_toSand_63 : decode cX3_toSand 63 = .ok (.invokevirtual 144, 3) := by decide +kernel
theorem dX3_toSand_66 : decode cX3_toSand 66 = .ok (.ifCond .eq 12, 3) := by decide +kernel
theorem dX3_toSand_69 : decode cX3_toSand 69 = .ok (.iload 4, 2) := by decide +kernel
theorem dX3_toSand_71 : decode cX3_toSand 71 = .ok (.iconst 1, 1) := by decide +kernel
theorem dX3_toSand_72 : decode cX3_toSand 72 = .ok (.iload 5, 2) := by decide +kernel
theorem dX3_toSand_74 : decode cX3_toSand 74 = .ok (.ishl, 1) := by decide +kernel
theorem dX3_toSand_75 : decode cX3_toSand 75 = .ok (.ior, 1) := by decide +kernel
theorem dX3_toSand_76 : decode cX3_toSand 76 = .ok (.istore 4, 2) := by decide +kernel
theorem dX3_toSand_78 : decode cX3_toSand 78 = .ok (.iinc 5 1, 3) := by decide +kernel
theorem dX3_toSand_81 : decode cX3_toSand 81 = .ok (.goto (-35), 3) := by decide +kernel
theorem dX3_toSand_84 : decode cX3_toSand 84 = .ok (.iload_n 3, 1) := by decide +kernel
theorem dX3_toSand_85 : decode cX3_toSand 85 = .ok (.ifCond .ne 11, 3) := by decide +kernel
theorem dX3_toSand_88 : decode cX3_toSand 88 = .ok (.iload 4, 2) := by decide +kernel
theorem dX3_toSand_90 : decode cX3_toSand 90 = .ok (.invokestatic 148, 3) := by decide +kernel
theorem dX3_toSand_93 : decode cX3_toSand 93 = .ok (.goto 5, 3) := by decide +kernel
theorem dX3_toSand_96 : decode cX3_toSand 96 = .ok (.iload 4, 2) := by decide +kernel
theorem dX3_toSand_98 : decode cX3_toSand 98 = .ok (.ireturn, 1) := by decide +kernel
theorem dX3_found_0 : decode cX3_found 0 = .ok (.aload_n 0, 1) := by decide +kernel
theorem dX3_found_1 : decode cX3_found 1 = .ok (.iload_n 1, 1) := by decide +kernel
theorem dX3_found_2 : decode cX3_found 2 = .ok (.invokevirtual 125, 3) := by decide +kernel
theorem dX3_found_5 : decode cX3_found 5 = .ok (.ifCond .ne 6, 3) := by decide +kernel
theorem dX3_found_8 : decode cX3_found 8 = .ok (.bipush (-101), 2) := by decide +kernel
theorem dX3_found_10 : decode cX3_found 10 = .ok (.ireturn, 1) := by decide +kernel
theorem dX3_found_11 : decode cX3_found 11 = .ok (.iload_n 2, 1) := by decide +kernel
theorem dX3_found_12 : decode cX3_found 12 = .ok (.invokestatic 118, 3) := by decide +kernel
theorem dX3_found_15 : decode cX3_found 15 = .ok (.ifCond .eq 10, 3) := by decide +kernel
theorem dX3_found_18 : decode cX3_found 18 = .ok (.iload_n 3, 1) := by decide +kernel
theorem dX3_found_19 : decode cX3_found 19 = .ok (.invokestatic 141, 3) := by decide +kernel
theorem dX3_found_22 : decode cX3_found 22 = .ok (.ifCond .ne 6, 3) := by decide +kernel
theorem dX3_found_25 : decode cX3_found 25 = .ok (.bipush (-102), 2) := by decide +kernel
theorem dX3_found_27 : decode cX3_found 27 = .ok (.ireturn, 1) := by decide +kernel
theorem dX3_found_28 : decode cX3_found 28 = .ok (.aload_n 0, 1) := by decide +kernel
theorem dX3_found_29 : decode cX3_found 29 = .ok (.getfield 25, 3) := by decide +kernel
theorem dX3_found_32 : decode cX3_found 32 = .ok (.iload_n 1, 1) := by decide +kernel
theorem dX3_found_33 : decode cX3_found 33 = .ok (.iload_n 2, 1) := by decide +kernel
theorem dX3_found_34 : decode cX3_found 34 = .ok (.iload_n 3, 1) := by decide +kernel
theorem dX3_found_35 : decode cX3_found 35 = .ok (.invokevirtual 153, 3) := by decide +kernel
theorem dX3_found_38 : decode cX3_found 38 = .ok (.ifCond .eq 13, 3) := by decide +kernel
theorem dX3_found_41 : decode cX3_found 41 = .ok (.aload_n 0, 1) := by decide +kernel
theorem dX3_found_42 : decode cX3_found 42 = .ok (.getfield 25, 3) := by decide +kernel
theorem dX3_found_45 : decode cX3_found 45 = .ok (.getfield 156, 3) := by decide +kernel
theorem dX3_found_48 : decode cX3_found 48 = .ok (.goto 5, 3) := by decide +kernel
theorem dX3_found_51 : decode cX3_found 51 = .ok (.bipush (-104), 2) := by decide +kernel
theorem dX3_found_53 : decode cX3_found 53 = .ok (.ireturn, 1) := by decide +kernel
theorem dX3_forget_0 : decode cX3_forget 0 = .ok (.aload_n 0, 1) := by decide +kernel
theorem dX3_forget_1 : decode cX3_forget 1 = .ok (.getfield 25, 3) := by decide +kernel
theorem dX3_forget_4 : decode cX3_forget 4 = .ok (.getfield 156, 3) := by decide +kernel
theorem dX3_forget_7 : decode cX3_forget 7 = .ok (.istore_n 1, 1) := by decide +kernel
theorem dX3_forget_8 : decode cX3_forget 8 = .ok (.aload_n 0, 1) := by decide +kernel
theorem dX3_forget_9 : decode cX3_forget 9 = .ok (.getfield 25, 3) := by decide +kernel
theorem dX3_forget_12 : decode cX3_forget 12 = .ok (.iconst 0, 1) := by decide +kernel
theorem dX3_forget_13 : decode cX3_forget 13 = .ok (.putfield 156, 3) := by decide +kernel
theorem dX3_forget_16 : decode cX3_forget 16 = .ok (.iload_n 1, 1) := by decide +kernel
theorem dX3_forget_17 : decode cX3_forget 17 = .ok (.ireturn, 1) := by decide +kernel
theorem dX3_look_0 : decode cX3_look 0 = .ok (.aload_n 0, 1) := by decide +kernel
theorem dX3_look_1 : decode cX3_look 1 = .ok (.iload_n 1, 1) := by decide +kernel
theorem dX3_look_2 : decode cX3_look 2 = .ok (.invokevirtual 79, 3) := by decide +kernel
theorem dX3_look_5 : decode cX3_look 5 = .ok (.ifCond .ne 6, 3) := by decide +kernel
theorem dX3_look_8 : decode cX3_look 8 = .ok (.bipush (-101), 2) := by decide +kernel
theorem dX3_look_10 : decode cX3_look 10 = .ok (.ireturn, 1) := by decide +kernel
theorem dX3_look_11 : decode cX3_look 11 = .ok (.iload_n 2, 1) := by decide +kernel
theorem dX3_look_12 : decode cX3_look 12 = .ok (.invokestatic 118, 3) := by decide +kernel
theorem dX3_look_15 : decode cX3_look 15 = .ok (.ifCond .ne 6, 3) := by decide +kernel
theorem dX3_look_18 : decode cX3_look 18 = .ok (.bipush (-102), 2) := by decide +kernel
theorem dX3_look_20 : decode cX3_look 20 = .ok (.ireturn, 1) := by decide +kernel
theorem dX3_look_21 : decode cX3_look 21 = .ok (.aload_n 0, 1) := by decide +kernel
theorem dX3_look_22 : decode cX3_look 22 = .ok (.iload_n 1, 1) := by decide +kernel
theorem dX3_look_23 : decode cX3_look 23 = .ok (.invokevirtual 97, 3) := by decide +kernel
theorem dX3_look_26 : decode cX3_look 26 = .ok (.istore_n 3, 1) := by decide +kernel
theorem dX3_look_27 : decode cX3_look 27 = .ok (.iload_n 3, 1) := by decide +kernel
theorem dX3_look_28 : decode cX3_look 28 = .ok (.ifCond .ne 5, 3) := by decide +kernel
theorem dX3_look_31 : decode cX3_look 31 = .ok (.iconst (-1), 1) := by decide +kernel
theorem dX3_look_32 : decode cX3_look 32 = .ok (.ireturn, 1) := by decide +kernel
theorem dX3_look_33 : decode cX3_look 33 = .ok (.iconst (-1), 1) := by decide +kernel
theorem dX3_look_34 : decode cX3_look 34 = .ok (.istore 4, 2) := by decide +kernel
theorem dX3_look_36 : decode cX3_look 36 = .ok (.bipush 10, 2) := by decide +kernel
theorem dX3_look_38 : decode cX3_look 38 = .ok (.istore 5, 2) := by decide +kernel
theorem dX3_look_40 : decode cX3_look 40 = .ok (.iconst 0, 1) := by decide +kernel
theorem dX3_look_41 : decode cX3_look 41 = .ok (.istore 6, 2) := by decide +kernel
theorem dX3_look_43 : decode cX3_look 43 = .ok (.iload 6, 2) := by decide +kernel
theorem dX3_look_45 : decode cX3_look 45 = .ok (.bipush 10, 2) := by decide +kernel
theorem dX3_look_47 : decode cX3_look 47 = .ok (.if_icmp .ge 35, 3) := by decide +kernel
theorem dX3_look_50 : decode cX3_look 50 = .ok (.aload_n 0, 1) := by decide +kernel
theorem dX3_look_51 : decode cX3_look 51 = .ok (.iload 6, 2) := by decide +kernel
theorem dX3_look_53 : decode cX3_look 53 = .ok (.iload_n 2, 1) := by decide +kernel
theorem dX3_look_54 : decode cX3_look 54 = .ok (.iload_n 1, 1) := by decide +kernel
theorem dX3_look_55 : decode cX3_look 55 = .ok (.iload_n 3, 1) := by decide +kernel
theorem dX3_look_56 : decode cX3_look 56 = .ok (.invokevirtual 159, 3) := by decide +kernel
theorem dX3_look_59 : decode cX3_look 59 = .ok (.istore 7, 2) := by decide +kernel
theorem dX3_look_61 : decode cX3_look 61 = .ok (.iload 7, 2) := by decide +kernel
theorem dX3_look_63 : decode cX3_look 63 = .ok (.iload 5, 2) := by decide +kernel
theorem dX3_look_65 : decode cX3_look 65 = .ok (.if_icmp .ge 11, 3) := by decide +kernel
theorem dX3_look_68 : decode cX3_look 68 = .ok (.iload 7, 2) := by decide +kernel
theorem dX3_look_70 : decode cX3_look 70 = .ok (.istore 5, 2) := by decide +kernel
theorem dX3_look_72 : decode cX3_look 72 = .ok (.iload 6, 2) := by decide +kernel
theorem dX3_look_74 : decode cX3_look 74 = .ok (.istore 4, 2) := by decide +kernel
theorem dX3_look_76 : decode cX3_look 76 = .ok (.iinc 6 1, 3) := by decide +kernel
theorem dX3_look_79 : decode cX3_look 79 = .ok (.goto (-36), 3) := by decide +kernel
theorem dX3_look_82 : decode cX3_look 82 = .ok (.iload 4, 2) := by decide +kernel
theorem dX3_look_84 : decode cX3_look 84 = .ok (.ireturn, 1) := by decide +kernel
theorem dX3_years_0 : decode cX3_years 0 = .ok (.iload_n 1, 1) := by decide +kernel
theorem dX3_years_1 : decode cX3_years 1 = .ok (.iconst 1, 1) := by decide +kernel
theorem dX3_years_2 : decode cX3_years 2 = .ok (.if_icmp .lt 22, 3) := by decide +kernel
theorem dX3_years_5 : decode cX3_years 5 = .ok (.iload_n 1, 1) := by decide +kernel
theorem dX3_years_6 : decode cX3_years 6 = .ok (.bipush 60, 2) := by decide +kernel
theorem dX3_years_8 : decode cX3_years 8 = .ok (.if_icmp .gt 16, 3) := by decide +kernel
theorem dX3_years_11 : decode cX3_years 11 = .ok (.iload_n 2, 1) := by decide +kernel
theorem dX3_years_12 : decode cX3_years 12 = .ok (.ifCond .lt 12, 3) := by decide +kernel
theorem dX3_years_15 : decode cX3_years 15 = .ok (.iload_n 3, 1) := by decide +kernel
theorem dX3_years_16 : decode cX3_years 16 = .ok (.ifCond .lt 8, 3) := by decide +kernel
theorem dX3_years_19 : decode cX3_years 19 = .ok (.iload_n 3, 1) := by decide +kernel
theorem dX3_years_20 : decode cX3_years 20 = .ok (.iconst 2, 1) := by decide +kernel
theorem dX3_years_21 : decode cX3_years 21 = .ok (.if_icmp .le 6, 3) := by decide +kernel
theorem dX3_years_24 : decode cX3_years 24 = .ok (.bipush (-102), 2) := by decide +kernel
theorem dX3_years_26 : decode cX3_years 26 = .ok (.ireturn, 1) := by decide +kernel
theorem dX3_years_27 : decode cX3_years 27 = .ok (.aload_n 0, 1) := by decide +kernel
theorem dX3_years_28 : decode cX3_years 28 = .ok (.invokevirtual 109, 3) := by decide +kernel
theorem dX3_years_31 : decode cX3_years 31 = .ok (.ifCond .ne 6, 3) := by decide +kernel
theorem dX3_years_34 : decode cX3_years 34 = .ok (.bipush (-103), 2) := by decide +kernel
theorem dX3_years_36 : decode cX3_years 36 = .ok (.ireturn, 1) := by decide +kernel
theorem dX3_years_37 : decode cX3_years 37 = .ok (.aload_n 0, 1) := by decide +kernel
theorem dX3_years_38 : decode cX3_years 38 = .ok (.getfield 25, 3) := by decide +kernel
theorem dX3_years_41 : decode cX3_years 41 = .ok (.getfield 128, 3) := by decide +kernel
theorem dX3_years_44 : decode cX3_years 44 = .ok (.aload_n 0, 1) := by decide +kernel
theorem dX3_years_45 : decode cX3_years 45 = .ok (.getfield 40, 3) := by decide +kernel
theorem dX3_years_48 : decode cX3_years 48 = .ok (.invokestatic 163, 3) := by decide +kernel
theorem dX3_years_51 : decode cX3_years 51 = .ok (.iload_n 2, 1) := by decide +kernel
theorem dX3_years_52 : decode cX3_years 52 = .ok (.istore 4, 2) := by decide +kernel
theorem dX3_years_54 : decode cX3_years 54 = .ok (.iconst 0, 1) := by decide +kernel
theorem dX3_years_55 : decode cX3_years 55 = .ok (.istore 5, 2) := by decide +kernel
theorem dX3_years_57 : decode cX3_years 57 = .ok (.iload 5, 2) := by decide +kernel
theorem dX3_years_59 : decode cX3_years 59 = .ok (.iload_n 1, 1) := by decide +kernel
theorem dX3_years_60 : decode cX3_years 60 = .ok (.if_icmp .ge 33, 3) := by decide +kernel
theorem dX3_years_63 : decode cX3_years 63 = .ok (.iload 4, 2) := by decide +kernel
theorem dX3_years_65 : decode cX3_years 65 = .ok (.invokestatic 167, 3) := by decide +kernel
theorem dX3_years_68 : decode cX3_years 68 = .ok (.istore 4, 2) := by decide +kernel
theorem dX3_years_70 : decode cX3_years 70 = .ok (.aload_n 0, 1) := by decide +kernel
theorem dX3_years_71 : decode cX3_years 71 = .ok (.aload_n 0, 1) := by decide +kernel
theorem dX3_years_72 : decode cX3_years 72 = .ok (.getfield 40, 3) := by decide +kernel
theorem dX3_years_75 : decode cX3_years 75 = .ok (.iload 4, 2) := by decide +kernel
theorem dX3_years_77 : decode cX3_years 77 = .ok (.ldc 170, 2) := by decide +kernel
theorem dX3_years_79 : decode cX3_years 79 = .ok (.idiv, 1) := by decide +kernel
theorem dX3_years_80 : decode cX3_years 80 = .ok (.bipush 21, 2) := by decide +kernel
theorem dX3_years_82 : decode cX3_years 82 = .ok (.irem, 1) := by decide +kernel
theorem dX3_years_83 : decode cX3_years 83 = .ok (.invokevirtual 137, 3) := by decide +kernel
theorem dX3_years_86 : decode cX3_years 86 = .ok (.pop, 1) := by decide +kernel
theorem dX3_years_87 : decode cX3_years 87 = .ok (.iinc 5 1, 3) := by decide +kernel
theorem dX3_years_90 : decode cX3_years 90 = .ok (.goto (-33), 3) := by decide +kernel
theorem dX3_years_93 : decode cX3_years 93 = .ok (.iload_n 3, 1) := by decide +kernel
theorem dX3_years_94 : decode cX3_years 94 = .ok (.lookupswitch 42 #[(0, 26), (1, 34)], 26) := by decide +kernel
theorem dX3_years_120 : decode cX3_years 120 = .ok (.aload_n 0, 1) := by decide +kernel
theorem dX3_years_121 : decode cX3_years 121 = .ok (.getfield 40, 3) := by decide +kernel
theorem dX3_years_124 : decode cX3_years 124 = .ok (.invokestatic 171, 3) := by decide +kernel
theorem dX3_years_127 : decode cX3_years 127 = .ok (.ireturn, 1) := by decide +kernel
theorem dX3_years_128 : decode cX3_years 128 = .ok (.aload_n 0, 1) := by decide +kernel
theorem dX3_years_129 : decode cX3_years 129 = .ok (.getfield 40, 3) := by decide +kernel
theorem dX3_years_132 : decode cX3_years 132 = .ok (.invokestatic 175, 3) := by decide +kernel
theorem dX3_years_135 : decode cX3_years 135 = .ok (.ireturn, 1) := by decide +kernel
theorem dX3_years_136 : decode cX3_years 136 = .ok (.iload 4, 2) := by decide +kernel
theorem dX3_years_138 : decode cX3_years 138 = .ok (.ireturn, 1) := by decide +kernel
theorem dX3_image_0 : decode cX3_image 0 = .ok (.aload_n 0, 1) := by decide +kernel
theorem dX3_image_1 : decode cX3_image 1 = .ok (.invokevirtual 109, 3) := by decide +kernel
theorem dX3_image_4 : decode cX3_image 4 = .ok (.ifCond .ne 6, 3) := by decide +kernel
theorem dX3_image_7 : decode cX3_image 7 = .ok (.bipush (-103), 2) := by decide +kernel
theorem dX3_image_9 : decode cX3_image 9 = .ok (.ireturn, 1) := by decide +kernel
theorem dX3_image_10 : decode cX3_image 10 = .ok (.aload_n 0, 1) := by decide +kernel
theorem dX3_image_11 : decode cX3_image 11 = .ok (.getfield 29, 3) := by decide +kernel
theorem dX3_image_14 : decode cX3_image 14 = .ok (.aload_n 0, 1) := by decide +kernel
theorem dX3_image_15 : decode cX3_image 15 = .ok (.getfield 25, 3) := by decide +kernel
theorem dX3_image_18 : decode cX3_image 18 = .ok (.invokevirtual 178, 3) := by decide +kernel
theorem dX3_image_21 : decode cX3_image 21 = .ok (.aload_n 0, 1) := by decide +kernel
theorem dX3_image_22 : decode cX3_image 22 = .ok (.iconst 1, 1) := by decide +kernel
theorem dX3_image_23 : decode cX3_image 23 = .ok (.putfield 32, 3) := by decide +kernel
theorem dX3_image_26 : decode cX3_image 26 = .ok (.aload_n 0, 1) := by decide +kernel
theorem dX3_image_27 : decode cX3_image 27 = .ok (.getfield 25, 3) := by decide +kernel
theorem dX3_image_30 : decode cX3_image 30 = .ok (.getfield 134, 3) := by decide +kernel
theorem dX3_image_33 : decode cX3_image 33 = .ok (.ireturn, 1) := by decide +kernel
theorem dX3_restore_0 : decode cX3_restore 0 = .ok (.aload_n 0, 1) := by decide +kernel
theorem dX3_restore_1 : decode cX3_restore 1 = .ok (.getfield 32, 3) := by decide +kernel
theorem dX3_restore_4 : decode cX3_restore 4 = .ok (.ifCond .ne 6, 3) := by decide +kernel
theorem dX3_restore_7 : decode cX3_restore 7 = .ok (.bipush (-103), 2) := by decide +kernel
theorem dX3_restore_9 : decode cX3_restore 9 = .ok (.ireturn, 1) := by decide +kernel
theorem dX3_restore_10 : decode cX3_restore 10 = .ok (.aload_n 0, 1) := by decide +kernel
theorem dX3_restore_11 : decode cX3_restore 11 = .ok (.getfield 25, 3) := by decide +kernel
theorem dX3_restore_14 : decode cX3_restore 14 = .ok (.aload_n 0, 1) := by decide +kernel
theorem dX3_restore_15 : decode cX3_restore 15 = .ok (.getfield 29, 3) := by decide +kernel
theorem dX3_restore_18 : decode cX3_restore 18 = .ok (.invokevirtual 178, 3) := by decide +kernel
theorem dX3_restore_21 : decode cX3_restore 21 = .ok (.aload_n 0, 1) := by decide +kernel
theorem dX3_restore_22 : decode cX3_restore 22 = .ok (.getfield 25, 3) := by decide +kernel
theorem dX3_restore_25 : decode cX3_restore 25 = .ok (.getfield 134, 3) := by decide +kernel
theorem dX3_restore_28 : decode cX3_restore 28 = .ok (.ireturn, 1) := by decide +kernel
theorem dX3_count_0 : decode cX3_count 0 = .ok (.iload_n 1, 1) := by decide +kernel
theorem dX3_count_1 : decode cX3_count 1 = .ok (.tableswitch 128 0 7 #[47, 55, 66, 74, 85, 107, 115, 123], 47) := by decide +kernel
theorem dX3_count_48 : decode cX3_count 48 = .ok (.aload_n 0, 1) := by decide +kernel
theorem dX3_count_49 : decode cX3_count 49 = .ok (.getfield 25, 3) := by decide +kernel
theorem dX3_count_52 : decode cX3_count 52 = .ok (.getfield 112, 3) := by decide +kernel
theorem dX3_count_55 : decode cX3_count 55 = .ok (.ireturn, 1) := by decide +kernel
theorem dX3_count_56 : decode cX3_count 56 = .ok (.aload_n 0, 1) := by decide +kernel
theorem dX3_count_57 : decode cX3_count 57 = .ok (.getfield 25, 3) := by decide +kernel
theorem dX3_count_60 : decode cX3_count 60 = .ok (.getfield 182, 3) := by decide +kernel
theorem dX3_count_63 : decode cX3_count 63 = .ok (.invokestatic 148, 3) := by decide +kernel
theorem dX3_count_66 : decode cX3_count 66 = .ok (.ireturn, 1) := by decide +kernel
theorem dX3_count_67 : decode cX3_count 67 = .ok (.aload_n 0, 1) := by decide +kernel
theorem dX3_count_68 : decode cX3_count 68 = .ok (.getfield 25, 3) := by decide +kernel
theorem dX3_count_71 : decode cX3_count 71 = .ok (.getfield 134, 3) := by decide +kernel
theorem dX3_count_74 : decode cX3_count 74 = .ok (.ireturn, 1) := by decide +kernel
theorem dX3_count_75 : decode cX3_count 75 = .ok (.aload_n 0, 1) := by decide +kernel
theorem dX3_count_76 : decode cX3_count 76 = .ok (.getfield 25, 3) := by decide +kernel
theorem dX3_count_79 : decode cX3_count 79 = .ok (.getfield 128, 3) := by decide +kernel
theorem dX3_count_82 : decode cX3_count 82 = .ok (.invokestatic 171, 3) := by decide +kernel
theorem dX3_count_85 : decode cX3_count 85 = .ok (.ireturn, 1) := by decide +kernel
theorem dX3_count_86 : decode cX3_count 86 = .ok (.aload_n 0, 1) := by decide +kernel
theorem dX3_count_87 : decode cX3_count 87 = .ok (.invokevirtual 109, 3) := by decide +kernel
theorem dX3_count_90 : decode cX3_count 90 = .ok (.ifCond .eq 16, 3) := by decide +kernel
theorem dX3_count_93 : decode cX3_count 93 = .ok (.aload_n 0, 1) := by decide +kernel
theorem dX3_count_94 : decode cX3_count 94 = .ok (.getfield 25, 3) := by decide +kernel
theorem dX3_count_97 : decode cX3_count 97 = .ok (.getfield 128, 3) := by decide +kernel
theorem dX3_count_100 : decode cX3_count 100 = .ok (.invokestatic 175, 3) := by decide +kernel
theorem dX3_count_103 : decode cX3_count 103 = .ok (.goto 4, 3) := by decide +kernel
theorem dX3_count_106 : decode cX3_count 106 = .ok (.iconst 0, 1) := by decide +kernel
theorem dX3_count_107 : decode cX3_count 107 = .ok (.ireturn, 1) := by decide +kernel
theorem dX3_count_108 : decode cX3_count 108 = .ok (.aload_n 0, 1) := by decide +kernel
theorem dX3_count_109 : decode cX3_count 109 = .ok (.getfield 25, 3) := by decide +kernel
theorem dX3_count_112 : decode cX3_count 112 = .ok (.getfield 156, 3) := by decide +kernel
theorem dX3_count_115 : decode cX3_count 115 = .ok (.ireturn, 1) := by decide +kernel
theorem dX3_count_116 : decode cX3_count 116 = .ok (.aload_n 0, 1) := by decide +kernel
theorem dX3_count_117 : decode cX3_count 117 = .ok (.getfield 10, 3) := by decide +kernel
theorem dX3_count_120 : decode cX3_count 120 = .ok (.getfield 54, 3) := by decide +kernel
theorem dX3_count_123 : decode cX3_count 123 = .ok (.ireturn, 1) := by decide +kernel
theorem dX3_count_124 : decode cX3_count 124 = .ok (.aload_n 0, 1) := by decide +kernel
theorem dX3_count_125 : decode cX3_count 125 = .ok (.getfield 36, 3) := by decide +kernel
theorem dX3_count_128 : decode cX3_count 128 = .ok (.ireturn, 1) := by decide +kernel
theorem dX3_count_129 : decode cX3_count 129 = .ok (.bipush (-102), 2) := by decide +kernel
theorem dX3_count_131 : decode cX3_count 131 = .ok (.ireturn, 1) := by decide +kernel
theorem dX3_digest_0 : decode cX3_digest 0 = .ok (.ldc2_w 185, 3) := by decide +kernel
theorem dX3_digest_3 : decode cX3_digest 3 = .ok (.lstore_n 1, 1) := by decide +kernel
theorem dX3_digest_4 : decode cX3_digest 4 = .ok (.iconst 0, 1) := by decide +kernel
theorem dX3_digest_5 : decode cX3_digest 5 = .ok (.istore_n 3, 1) := by decide +kernel
theorem dX3_digest_6 : decode cX3_digest 6 = .ok (.iload_n 3, 1) := by decide +kernel
theorem dX3_digest_7 : decode cX3_digest 7 = .ok (.aload_n 0, 1) := by decide +kernel
theorem dX3_digest_8 : decode cX3_digest 8 = .ok (.getfield 25, 3) := by decide +kernel
theorem dX3_digest_11 : decode cX3_digest 11 = .ok (.getfield 112, 3) := by decide +kernel
theorem dX3_digest_14 : decode cX3_digest 14 = .ok (.if_icmp .ge 75, 3) := by decide +kernel
theorem dX3_digest_17 : decode cX3_digest 17 = .ok (.iconst 0, 1) := by decide +kernel
theorem dX3_digest_18 : decode cX3_digest 18 = .ok (.istore 4, 2) := by decide +kernel
theorem dX3_digest_20 : decode cX3_digest 20 = .ok (.iload 4, 2) := by decide +kernel
theorem dX3_digest_22 : decode cX3_digest 22 = .ok (.iconst 5, 1) := by decide +kernel
theorem dX3_digest_23 : decode cX3_digest 23 = .ok (.if_icmp .gt 22, 3) := by decide +kernel
theorem dX3_digest_26 : decode cX3_digest 26 = .ok (.lload_n 1, 1) := by decide +kernel
theorem dX3_digest_27 : decode cX3_digest 27 = .ok (.aload_n 0, 1) := by decide +kernel
theorem dX3_digest_28 : decode cX3_digest 28 = .ok (.iload_n 3, 1) := by decide +kernel
theorem dX3_digest_29 : decode cX3_digest 29 = .ok (.iload 4, 2) := by decide +kernel
theorem dX3_digest_31 : decode cX3_digest 31 = .ok (.invokevirtual 187, 3) := by decide +kernel
theorem dX3_digest_34 : decode cX3_digest 34 = .ok (.i2l, 1) := by decide +kernel
theorem dX3_digest_35 : decode cX3_digest 35 = .ok (.invokestatic 190, 3) := by decide +kernel
theorem dX3_digest_38 : decode cX3_digest 38 = .ok (.lstore_n 1, 1) := by decide +kernel
theorem dX3_digest_39 : decode cX3_digest 39 = .ok (.iinc 4 1, 3) := by decide +kernel
theorem dX3_digest_42 : decode cX3_digest 42 = .ok (.goto (-22), 3) := by decide +kernel
theorem dX3_digest_45 : decode cX3_digest 45 = .ok (.lload_n 1, 1) := by decide +kernel
theorem dX3_digest_46 : decode cX3_digest 46 = .ok (.aload_n 0, 1) := by decide +kernel
theorem dX3_digest_47 : decode cX3_digest 47 = .ok (.iload_n 3, 1) := by decide +kernel
theorem dX3_digest_48 : decode cX3_digest 48 = .ok (.iconst 3, 1) := by decide +kernel
theorem dX3_digest_49 : decode cX3_digest 49 = .ok (.invokevirtual 194, 3) := by decide +kernel
theorem dX3_digest_52 : decode cX3_digest 52 = .ok (.i2l, 1) := by decide +kernel
theorem dX3_digest_53 : decode cX3_digest 53 = .ok (.invokestatic 190, 3) := by decide +kernel
theorem dX3_digest_56 : decode cX3_digest 56 = .ok (.lstore_n 1, 1) := by decide +kernel
theorem dX3_digest_57 : decode cX3_digest 57 = .ok (.lload_n 1, 1) := by decide +kernel
theorem dX3_digest_58 : decode cX3_digest 58 = .ok (.aload_n 0, 1) := by decide +kernel
theorem dX3_digest_59 : decode cX3_digest 59 = .ok (.iload_n 3, 1) := by decide +kernel
theorem dX3_digest_60 : decode cX3_digest 60 = .ok (.bipush 9, 2) := by decide +kernel
theorem dX3_digest_62 : decode cX3_digest 62 = .ok (.invokevirtual 194, 3) := by decide +kernel
theorem dX3_digest_65 : decode cX3_digest 65 = .ok (.i2l, 1) := by decide +kernel
theorem dX3_digest_66 : decode cX3_digest 66 = .ok (.invokestatic 190, 3) := by decide +kernel
theorem dX3_digest_69 : decode cX3_digest 69 = .ok (.lstore_n 1, 1) := by decide +kernel
theorem dX3_digest_70 : decode cX3_digest 70 = .ok (.lload_n 1, 1) := by decide +kernel
theorem dX3_digest_71 : decode cX3_digest 71 = .ok (.aload_n 0, 1) := by decide +kernel
theorem dX3_digest_72 : decode cX3_digest 72 = .ok (.iload_n 3, 1) := by decide +kernel
theorem dX3_digest_73 : decode cX3_digest 73 = .ok (.bipush 6, 2) := by decide +kernel
theorem dX3_digest_75 : decode cX3_digest 75 = .ok (.invokevirtual 197, 3) := by decide +kernel
theorem dX3_digest_78 : decode cX3_digest 78 = .ok (.i2l, 1) := by decide +kernel
theorem dX3_digest_79 : decode cX3_digest 79 = .ok (.invokestatic 190, 3) := by decide +kernel
theorem dX3_digest_82 : decode cX3_digest 82 = .ok (.lstore_n 1, 1) := by decide +kernel
theorem dX3_digest_83 : decode cX3_digest 83 = .ok (.iinc 3 1, 3) := by decide +kernel
theorem dX3_digest_86 : decode cX3_digest 86 = .ok (.goto (-80), 3) := by decide +kernel
theorem dX3_digest_89 : decode cX3_digest 89 = .ok (.aload_n 0, 1) := by decide +kernel
theorem dX3_digest_90 : decode cX3_digest 90 = .ok (.invokevirtual 109, 3) := by decide +kernel
theorem dX3_digest_93 : decode cX3_digest 93 = .ok (.ifCond .eq 9, 3) := by decide +kernel
theorem dX3_digest_96 : decode cX3_digest 96 = .ok (.aload_n 0, 1) := by decide +kernel
theorem dX3_digest_97 : decode cX3_digest 97 = .ok (.lload_n 1, 1) := by decide +kernel
theorem dX3_digest_98 : decode cX3_digest 98 = .ok (.invokevirtual 200, 3) := by decide +kernel
theorem dX3_digest_101 : decode cX3_digest 101 = .ok (.lstore_n 1, 1) := by decide +kernel
theorem dX3_digest_102 : decode cX3_digest 102 = .ok (.iconst 0, 1) := by decide +kernel
theorem dX3_digest_103 : decode cX3_digest 103 = .ok (.istore_n 3, 1) := by decide +kernel
theorem dX3_digest_104 : decode cX3_digest 104 = .ok (.iload_n 3, 1) := by decide +kernel
theorem dX3_digest_105 : decode cX3_digest 105 = .ok (.aload_n 0, 1) := by decide +kernel
theorem dX3_digest_106 : decode cX3_digest 106 = .ok (.getfield 10, 3) := by decide +kernel
theorem dX3_digest_109 : decode cX3_digest 109 = .ok (.getfield 54, 3) := by decide +kernel
theorem dX3_digest_112 : decode cX3_digest 112 = .ok (.if_icmp .ge 23, 3) := by decide +kernel
theorem dX3_digest_115 : decode cX3_digest 115 = .ok (.lload_n 1, 1) := by decide +kernel
theorem dX3_digest_116 : decode cX3_digest 116 = .ok (.aload_n 0, 1) := by decide +kernel
theorem dX3_digest_117 : decode cX3_digest 117 = .ok (.getfield 10, 3) := by decide +kernel
theorem dX3_digest_120 : decode cX3_digest 120 = .ok (.iload_n 3, 1) := by decide +kernel
theorem dX3_digest_121 : decode cX3_digest 121 = .ok (.invokevirtual 204, 3) := by decide +kernel
theorem dX3_digest_124 : decode cX3_digest 124 = .ok (.i2l, 1) := by decide +kernel
theorem dX3_digest_125 : decode cX3_digest 125 = .ok (.invokestatic 190, 3) := by decide +kernel
theorem dX3_digest_128 : decode cX3_digest 128 = .ok (.lstore_n 1, 1) := by decide +kernel
theorem dX3_digest_129 : decode cX3_digest 129 = .ok (.iinc 3 1, 3) := by decide +kernel
theorem dX3_digest_132 : decode cX3_digest 132 = .ok (.goto (-28), 3) := by decide +kernel
theorem dX3_digest_135 : decode cX3_digest 135 = .ok (.iconst 0, 1) := by decide +kernel
theorem dX3_digest_136 : decode cX3_digest 136 = .ok (.istore_n 3, 1) := by decide +kernel
theorem dX3_digest_137 : decode cX3_digest 137 = .ok (.iload_n 3, 1) := by decide +kernel
theorem dX3_digest_138 : decode cX3_digest 138 = .ok (.bipush 7, 2) := by decide +kernel
theorem dX3_digest_140 : decode cX3_digest 140 = .ok (.if_icmp .gt 20, 3) := by decide +kernel
theorem dX3_digest_143 : decode cX3_digest 143 = .ok (.lload_n 1, 1) := by decide +kernel
theorem dX3_digest_144 : decode cX3_digest 144 = .ok (.aload_n 0, 1) := by decide +kernel
theorem dX3_digest_145 : decode cX3_digest 145 = .ok (.iload_n 3, 1) := by decide +kernel
theorem dX3_digest_146 : decode cX3_digest 146 = .ok (.invokevirtual 207, 3) := by decide +kernel
theorem dX3_digest_149 : decode cX3_digest 149 = .ok (.i2l, 1) := by decide +kernel
theorem dX3_digest_150 : decode cX3_digest 150 = .ok (.invokestatic 190, 3) := by decide +kernel
theorem dX3_digest_153 : decode cX3_digest 153 = .ok (.lstore_n 1, 1) := by decide +kernel
theorem dX3_digest_154 : decode cX3_digest 154 = .ok (.iinc 3 1, 3) := by decide +kernel
theorem dX3_digest_157 : decode cX3_digest 157 = .ok (.goto (-20), 3) := by decide +kernel
theorem dX3_digest_160 : decode cX3_digest 160 = .ok (.lload_n 1, 1) := by decide +kernel
theorem dX3_digest_161 : decode cX3_digest 161 = .ok (.lreturn, 1) := by decide +kernel
theorem dX3_withLand_0 : decode cX3_withLand 0 = .ok (.lload_n 1, 1) := by decide +kernel
theorem dX3_withLand_1 : decode cX3_withLand 1 = .ok (.lstore_n 3, 1) := by decide +kernel
theorem dX3_withLand_2 : decode cX3_withLand 2 = .ok (.iconst 0, 1) := by decide +kernel
theorem dX3_withLand_3 : decode cX3_withLand 3 = .ok (.istore 5, 2) := by decide +kernel
theorem dX3_withLand_5 : decode cX3_withLand 5 = .ok (.iload 5, 2) := by decide +kernel
theorem dX3_withLand_7 : decode cX3_withLand 7 = .ok (.bipush 10, 2) := by decide +kernel
theorem dX3_withLand_9 : decode cX3_withLand 9 = .ok (.if_icmp .ge 34, 3) := by decide +kernel
theorem dX3_withLand_12 : decode cX3_withLand 12 = .ok (.lload_n 3, 1) := by decide +kernel
theorem dX3_withLand_13 : decode cX3_withLand 13 = .ok (.aload_n 0, 1) := by decide +kernel
theorem dX3_withLand_14 : decode cX3_withLand 14 = .ok (.iload 5, 2) := by decide +kernel
theorem dX3_withLand_16 : decode cX3_withLand 16 = .ok (.invokevirtual 210, 3) := by decide +kernel
theorem dX3_withLand_19 : decode cX3_withLand 19 = .ok (.i2l, 1) := by decide +kernel
theorem dX3_withLand_20 : decode cX3_withLand 20 = .ok (.invokestatic 190, 3) := by decide +kernel
theorem dX3_withLand_23 : decode cX3_withLand 23 = .ok (.lstore_n 3, 1) := by decide +kernel
theorem dX3_withLand_24 : decode cX3_withLand 24 = .ok (.lload_n 3, 1) := by decide +kernel
theorem dX3_withLand_25 : decode cX3_withLand 25 = .ok (.aload_n 0, 1) := by decide +kernel
theorem dX3_withLand_26 : decode cX3_withLand 26 = .ok (.iload 5, 2) := by decide +kernel
theorem dX3_withLand_28 : decode cX3_withLand 28 = .ok (.iconst 4, 1) := by decide +kernel
theorem dX3_withLand_29 : decode cX3_withLand 29 = .ok (.invokevirtual 213, 3) := by decide +kernel
theorem dX3_withLand_32 : decode cX3_withLand 32 = .ok (.i2l, 1) := by decide +kernel
theorem dX3_withLand_33 : decode cX3_withLand 33 = .ok (.invokestatic 190, 3) := by decide +kernel
theorem dX3_withLand_36 : decode cX3_withLand 36 = .ok (.lstore_n 3, 1) := by decide +kernel
theorem dX3_withLand_37 : decode cX3_withLand 37 = .ok (.iinc 5 1, 3) := by decide +kernel
theorem dX3_withLand_40 : decode cX3_withLand 40 = .ok (.goto (-35), 3) := by decide +kernel
theorem dX3_withLand_43 : decode cX3_withLand 43 = .ok (.lload_n 3, 1) := by decide +kernel
theorem dX3_withLand_44 : decode cX3_withLand 44 = .ok (.aload_n 0, 1) := by decide +kernel
theorem dX3_withLand_45 : decode cX3_withLand 45 = .ok (.iconst 5, 1) := by decide +kernel
theorem dX3_withLand_46 : decode cX3_withLand 46 = .ok (.invokevirtual 216, 3) := by decide +kernel
theorem dX3_withLand_49 : decode cX3_withLand 49 = .ok (.i2l, 1) := by decide +kernel
theorem dX3_withLand_50 : decode cX3_withLand 50 = .ok (.invokestatic 190, 3) := by decide +kernel
theorem dX3_withLand_53 : decode cX3_withLand 53 = .ok (.lstore_n 3, 1) := by decide +kernel
theorem dX3_withLand_54 : decode cX3_withLand 54 = .ok (.lload_n 3, 1) := by decide +kernel
theorem dX3_withLand_55 : decode cX3_withLand 55 = .ok (.aload_n 0, 1) := by decide +kernel
theorem dX3_withLand_56 : decode cX3_withLand 56 = .ok (.iconst 4, 1) := by decide +kernel
theorem dX3_withLand_57 : decode cX3_withLand 57 = .ok (.sipush 1023, 3) := by decide +kernel
theorem dX3_withLand_60 : decode cX3_withLand 60 = .ok (.iconst 0, 1) := by decide +kernel
theorem dX3_withLand_61 : decode cX3_withLand 61 = .ok (.invokevirtual 219, 3) := by decide +kernel
theorem dX3_withLand_64 : decode cX3_withLand 64 = .ok (.i2l, 1) := by decide +kernel
theorem dX3_withLand_65 : decode cX3_withLand 65 = .ok (.invokestatic 190, 3) := by decide +kernel
theorem dX3_withLand_68 : decode cX3_withLand 68 = .ok (.lstore_n 3, 1) := by decide +kernel
theorem dX3_withLand_69 : decode cX3_withLand 69 = .ok (.lload_n 3, 1) := by decide +kernel
theorem dX3_withLand_70 : decode cX3_withLand 70 = .ok (.aload_n 0, 1) := by decide +kernel
theorem dX3_withLand_71 : decode cX3_withLand 71 = .ok (.iconst 4, 1) := by decide +kernel
theorem dX3_withLand_72 : decode cX3_withLand 72 = .ok (.sipush 1023, 3) := by decide +kernel
theorem dX3_withLand_75 : decode cX3_withLand 75 = .ok (.iconst 1, 1) := by decide +kernel
theorem dX3_withLand_76 : decode cX3_withLand 76 = .ok (.invokevirtual 219, 3) := by decide +kernel
theorem dX3_withLand_79 : decode cX3_withLand 79 = .ok (.i2l, 1) := by decide +kernel
theorem dX3_withLand_80 : decode cX3_withLand 80 = .ok (.invokestatic 190, 3) := by decide +kernel
theorem dX3_withLand_83 : decode cX3_withLand 83 = .ok (.lreturn, 1) := by decide +kernel
theorem dX3_mixed_0 : decode cX3_mixed 0 = .ok (.ldc2_w 223, 3) := by decide +kernel
theorem dX3_mixed_3 : decode cX3_mixed 3 = .ok (.lload_n 0, 1) := by decide +kernel
theorem dX3_mixed_4 : decode cX3_mixed 4 = .ok (.lmul, 1) := by decide +kernel
theorem dX3_mixed_5 : decode cX3_mixed 5 = .ok (.lload_n 2, 1) := by decide +kernel
theorem dX3_mixed_6 : decode cX3_mixed 6 = .ok (.ladd, 1) := by decide +kernel
theorem dX3_mixed_7 : decode cX3_mixed 7 = .ok (.lreturn, 1) := by decide +kernel
theorem dX3_hasLeaf_0 : decode cX3_hasLeaf 0 = .ok (.aload_n 0, 1) := by decide +kernel
theorem dX3_hasLeaf_1 : decode cX3_hasLeaf 1 = .ok (.getfield 25, 3) := by decide +kernel
theorem dX3_hasLeaf_4 : decode cX3_hasLeaf 4 = .ok (.getfield 112, 3) := by decide +kernel
theorem dX3_hasLeaf_7 : decode cX3_hasLeaf 7 = .ok (.ifCond .le 7, 3) := by decide +kernel
theorem dX3_hasLeaf_10 : decode cX3_hasLeaf 10 = .ok (.iconst 1, 1) := by decide +kernel
theorem dX3_hasLeaf_11 : decode cX3_hasLeaf 11 = .ok (.goto 4, 3) := by decide +kernel
theorem dX3_hasLeaf_14 : decode cX3_hasLeaf 14 = .ok (.iconst 0, 1) := by decide +kernel
theorem dX3_hasLeaf_15 : decode cX3_hasLeaf 15 = .ok (.ireturn, 1) := by decide +kernel
theorem dX3_isStroke_0 : decode cX3_isStroke 0 = .ok (.iload_n 1, 1) := by decide +kernel
theorem dX3_isStroke_1 : decode cX3_isStroke 1 = .ok (.ifCond .lt 27, 3) := by decide +kernel
theorem dX3_isStroke_4 : decode cX3_isStroke 4 = .ok (.iload_n 1, 1) := by decide +kernel
theorem dX3_isStroke_5 : decode cX3_isStroke 5 = .ok (.aload_n 0, 1) := by decide +kernel
theorem dX3_isStroke_6 : decode cX3_isStroke 6 = .ok (.getfield 25, 3) := by decide +kernel
theorem dX3_isStroke_9 : decode cX3_isStroke 9 = .ok (.getfield 112, 3) := by decide +kernel
theorem dX3_isStroke_12 : decode cX3_isStroke 12 = .ok (.if_icmp .ge 16, 3) := by decide +kernel
theorem dX3_isStroke_15 : decode cX3_isStroke 15 = .ok (.iload_n 1, 1) := by decide +kernel
theorem dX3_isStroke_16 : decode cX3_isStroke 16 = .ok (.aload_n 0, 1) := by decide +kernel
theorem dX3_isStroke_17 : decode cX3_isStroke 17 = .ok (.getfield 18, 3) := by decide +kernel
theorem dX3_isStroke_20 : decode cX3_isStroke 20 = .ok (.arraylength, 1) := by decide +kernel
theorem dX3_isStroke_21 : decode cX3_isStroke 21 = .ok (.if_icmp .ge 7, 3) := by decide +kernel
theorem dX3_isStroke_24 : decode cX3_isStroke 24 = .ok (.iconst 1, 1) := by decide +kernel
theorem dX3_isStroke_25 : decode cX3_isStroke 25 = .ok (.goto 4, 3) := by decide +kernel
theorem dX3_isStroke_28 : decode cX3_isStroke 28 = .ok (.iconst 0, 1) := by decide +kernel
theorem dX3_isStroke_29 : decode cX3_isStroke 29 = .ok (.ireturn, 1) := by decide +kernel
theorem dX3_isLand_0 : decode cX3_isLand 0 = .ok (.aload_n 0, 1) := by decide +kernel
theorem dX3_isLand_1 : decode cX3_isLand 1 = .ok (.invokevirtual 109, 3) := by decide +kernel
theorem dX3_isLand_4 : decode cX3_isLand 4 = .ok (.ifCond .eq 14, 3) := by decide +kernel
theorem dX3_isLand_7 : decode cX3_isLand 7 = .ok (.iload_n 1, 1) := by decide +kernel
theorem dX3_isLand_8 : decode cX3_isLand 8 = .ok (.invokestatic 106, 3) := by decide +kernel
theorem dX3_isLand_11 : decode cX3_isLand 11 = .ok (.ifCond .eq 7, 3) := by decide +kernel
theorem dX3_isLand_14 : decode cX3_isLand 14 = .ok (.iconst 1, 1) := by decide +kernel
theorem dX3_isLand_15 : decode cX3_isLand 15 = .ok (.goto 4, 3) := by decide +kernel
theorem dX3_isLand_18 : decode cX3_isLand 18 = .ok (.iconst 0, 1) := by decide +kernel
theorem dX3_isLand_19 : decode cX3_isLand 19 = .ok (.ireturn, 1) := by decide +kernel
theorem dX3_isCell_0 : decode cX3_isCell 0 = .ok (.iload_n 0, 1) := by decide +kernel
theorem dX3_isCell_1 : decode cX3_isCell 1 = .ok (.ifCond .lt 13, 3) := by decide +kernel
theorem dX3_isCell_4 : decode cX3_isCell 4 = .ok (.iload_n 0, 1) := by decide +kernel
theorem dX3_isCell_5 : decode cX3_isCell 5 = .ok (.bipush 10, 2) := by decide +kernel
theorem dX3_isCell_7 : decode cX3_isCell 7 = .ok (.if_icmp .ge 7, 3) := by decide +kernel
theorem dX3_isCell_10 : decode cX3_isCell 10 = .ok (.iconst 1, 1) := by decide +kernel
theorem dX3_isCell_11 : decode cX3_isCell 11 = .ok (.goto 4, 3) := by decide +kernel
theorem dX3_isCell_14 : decode cX3_isCell 14 = .ok (.iconst 0, 1) := by decide +kernel
theorem dX3_isCell_15 : decode cX3_isCell 15 = .ok (.ireturn, 1) := by decide +kernel
theorem dX3_isKind_0 : decode cX3_isKind 0 = .ok (.iload_n 0, 1) := by decide +kernel
theorem dX3_isKind_1 : decode cX3_isKind 1 = .ok (.ifCond .lt 12, 3) := by decide +kernel
theorem dX3_isKind_4 : decode cX3_isKind 4 = .ok (.iload_n 0, 1) := by decide +kernel
theorem dX3_isKind_5 : decode cX3_isKind 5 = .ok (.iconst 4, 1) := by decide +kernel
theorem dX3_isKind_6 : decode cX3_isKind 6 = .ok (.if_icmp .gt 7, 3) := by decide +kernel
theorem dX3_isKind_9 : decode cX3_isKind 9 = .ok (.iconst 1, 1) := by decide +kernel
theorem dX3_isKind_10 : decode cX3_isKind 10 = .ok (.goto 4, 3) := by decide +kernel
theorem dX3_isKind_13 : decode cX3_isKind 13 = .ok (.iconst 0, 1) := by decide +kernel
theorem dX3_isKind_14 : decode cX3_isKind 14 = .ok (.ireturn, 1) := by decide +kernel
theorem dX3_isMinute_0 : decode cX3_isMinute 0 = .ok (.iload_n 0, 1) := by decide +kernel
theorem dX3_isMinute_1 : decode cX3_isMinute 1 = .ok (.ifCond .lt 13, 3) := by decide +kernel
theorem dX3_isMinute_4 : decode cX3_isMinute 4 = .ok (.iload_n 0, 1) := by decide +kernel
theorem dX3_isMinute_5 : decode cX3_isMinute 5 = .ok (.bipush 20, 2) := by decide +kernel
theorem dX3_isMinute_7 : decode cX3_isMinute 7 = .ok (.if_icmp .gt 7, 3) := by decide +kernel
theorem dX3_isMinute_10 : decode cX3_isMinute 10 = .ok (.iconst 1, 1) := by decide +kernel
theorem dX3_isMinute_11 : decode cX3_isMinute 11 = .ok (.goto 4, 3) := by decide +kernel
theorem dX3_isMinute_14 : decode cX3_isMinute 14 = .ok (.iconst 0, 1) := by decide +kernel
theorem dX3_isMinute_15 : decode cX3_isMinute 15 = .ok (.ireturn, 1) := by decide +kernel
theorem dX3_isMuch_0 : decode cX3_isMuch 0 = .ok (.iload_n 0, 1) := by decide +kernel
theorem dX3_isMuch_1 : decode cX3_isMuch 1 = .ok (.ifCond .lt 13, 3) := by decide +kernel
theorem dX3_isMuch_4 : decode cX3_isMuch 4 = .ok (.iload_n 0, 1) := by decide +kernel
theorem dX3_isMuch_5 : decode cX3_isMuch 5 = .ok (.bipush 99, 2) := by decide +kernel
theorem dX3_isMuch_7 : decode cX3_isMuch 7 = .ok (.if_icmp .gt 7, 3) := by decide +kernel
theorem dX3_isMuch_10 : decode cX3_isMuch 10 = .ok (.iconst 1, 1) := by decide +kernel
theorem dX3_isMuch_11 : decode cX3_isMuch 11 = .ok (.goto 4, 3) := by decide +kernel
theorem dX3_isMuch_14 : decode cX3_isMuch 14 = .ok (.iconst 0, 1) := by decide +kernel
theorem dX3_isMuch_15 : decode cX3_isMuch 15 = .ok (.ireturn, 1) := by decide +kernel
theorem dX3_comesNow_0 : decode cX3_comesNow 0 = .ok (.aload_n 0, 1) := by decide +kernel
theorem dX3_comesNow_1 : decode cX3_comesNow 1 = .ok (.iload_n 1, 1) := by decide +kernel
theorem dX3_comesNow_2 : decode cX3_comesNow 2 = .ok (.iload_n 2, 1) := by decide +kernel
theorem dX3_comesNow_3 : decode cX3_comesNow 3 = .ok (.iconst (-1), 1) := by decide +kernel
theorem dX3_comesNow_4 : decode cX3_comesNow 4 = .ok (.iconst 0, 1) := by decide +kernel
theorem dX3_comesNow_5 : decode cX3_comesNow 5 = .ok (.invokevirtual 225, 3) := by decide +kernel
theorem dX3_comesNow_8 : decode cX3_comesNow 8 = .ok (.ireturn, 1) := by decide +kernel
theorem dX3_comesIf_0 : decode cX3_comesIf 0 = .ok (.bipush 9, 2) := by decide +kernel
theorem dX3_comesIf_2 : decode cX3_comesIf 2 = .ok (.iload_n 1, 1) := by decide +kernel
theorem dX3_comesIf_3 : decode cX3_comesIf 3 = .ok (.isub, 1) := by decide +kernel
theorem dX3_comesIf_4 : decode cX3_comesIf 4 = .ok (.istore 5, 2) := by decide +kernel
theorem dX3_comesIf_6 : decode cX3_comesIf 6 = .ok (.iconst 0, 1) := by decide +kernel
theorem dX3_comesIf_7 : decode cX3_comesIf 7 = .ok (.istore 6, 2) := by decide +kernel
theorem dX3_comesIf_9 : decode cX3_comesIf 9 = .ok (.iconst 0, 1) := by decide +kernel
theorem dX3_comesIf_10 : decode cX3_comesIf 10 = .ok (.istore 7, 2) := by decide +kernel
theorem dX3_comesIf_12 : decode cX3_comesIf 12 = .ok (.iload 7, 2) := by decide +kernel
theorem dX3_comesIf_14 : decode cX3_comesIf 14 = .ok (.aload_n 0, 1) := by decide +kernel
theorem dX3_comesIf_15 : decode cX3_comesIf 15 = .ok (.getfield 25, 3) := by decide +kernel
theorem dX3_comesIf_18 : decode cX3_comesIf 18 = .ok (.getfield 112, 3) := by decide +kernel
theorem dX3_comesIf_21 : decode cX3_comesIf 21 = .ok (.if_icmp .ge 78, 3) := by decide +kernel
theorem dX3_comesIf_24 : decode cX3_comesIf 24 = .ok (.iload 7, 2) := by decide +kernel
theorem dX3_comesIf_26 : decode cX3_comesIf 26 = .ok (.aload_n 0, 1) := by decide +kernel
theorem dX3_comesIf_27 : decode cX3_comesIf 27 = .ok (.getfield 18, 3) := by decide +kernel
theorem dX3_comesIf_30 : decode cX3_comesIf 30 = .ok (.arraylength, 1) := by decide +kernel
theorem dX3_comesIf_31 : decode cX3_comesIf 31 = .ok (.if_icmp .ge 68, 3) := by decide +kernel
theorem dX3_comesIf_34 : decode cX3_comesIf 34 = .ok (.aload_n 0, 1) := by decide +kernel
theorem dX3_comesIf_35 : decode cX3_comesIf 35 = .ok (.getfield 25, 3) := by decide +kernel
theorem dX3_comesIf_38 : decode cX3_comesIf 38 = .ok (.iload 7, 2) := by decide +kernel
theorem dX3_comesIf_40 : decode cX3_comesIf 40 = .ok (.invokevirtual 94, 3) := by decide +kernel
theorem dX3_comesIf_43 : decode cX3_comesIf 43 = .ok (.ifCond .ne 50, 3) := by decide +kernel
theorem dX3_comesIf_46 : decode cX3_comesIf 46 = .ok (.aload_n 0, 1) := by decide +kernel
theorem dX3_comesIf_47 : decode cX3_comesIf 47 = .ok (.getfield 18, 3) := by decide +kernel
theorem dX3_comesIf_50 : decode cX3_comesIf 50 = .ok (.iload 7, 2) := by decide +kernel
theorem dX3_comesIf_52 : decode cX3_comesIf 52 = .ok (.aaload, 1) := by decide +kernel
theorem dX3_comesIf_53 : decode cX3_comesIf 53 = .ok (.astore 8, 2) := by decide +kernel
theorem dX3_comesIf_55 : decode cX3_comesIf 55 = .ok (.aload 8, 2) := by decide +kernel
theorem dX3_comesIf_57 : decode cX3_comesIf 57 = .ok (.iload_n 2, 1) := by decide +kernel
theorem dX3_comesIf_58 : decode cX3_comesIf 58 = .ok (.iload 7, 2) := by decide +kernel
theorem dX3_comesIf_60 : decode cX3_comesIf 60 = .ok (.iload_n 3, 1) := by decide +kernel
theorem dX3_comesIf_61 : decode cX3_comesIf 61 = .ok (.if_icmp .ne 8, 3) := by decide +kernel
theorem dX3_comesIf_64 : decode cX3_comesIf 64 = .ok (.iload 4, 2) := by decide +kernel
theorem dX3_comesIf_66 : decode cX3_comesIf 66 = .ok (.goto 8, 3) := by decide +kernel
theorem dX3_comesIf_69 : decode cX3_comesIf 69 = .ok (.aload 8, 2) := by decide +kernel
theorem dX3_comesIf_71 : decode cX3_comesIf 71 = .ok (.getfield 91, 3) := by decide +kernel
theorem dX3_comesIf_74 : decode cX3_comesIf 74 = .ok (.invokevirtual 121, 3) := by decide +kernel
theorem dX3_comesIf_77 : decode cX3_comesIf 77 = .ok (.istore 9, 2) := by decide +kernel
theorem dX3_comesIf_79 : decode cX3_comesIf 79 = .ok (.iload 6, 2) := by decide +kernel
theorem dX3_comesIf_81 : decode cX3_comesIf 81 = .ok (.aload 8, 2) := by decide +kernel
theorem dX3_comesIf_83 : decode cX3_comesIf 83 = .ok (.iload 5, 2) := by decide +kernel
theorem dX3_comesIf_85 : decode cX3_comesIf 85 = .ok (.iload 9, 2) := by decide +kernel
theorem dX3_comesIf_87 : decode cX3_comesIf 87 = .ok (.invokevirtual 228, 3) := by decide +kernel
theorem dX3_comesIf_90 : decode cX3_comesIf 90 = .ok (.iadd, 1) := by decide +kernel
theorem dX3_comesIf_91 : decode cX3_comesIf 91 = .ok (.istore 6, 2) := by decide +kernel
theorem dX3_comesIf_93 : decode cX3_comesIf 93 = .ok (.iinc 7 1, 3) := by decide +kernel
theorem dX3_comesIf_96 : decode cX3_comesIf 96 = .ok (.goto (-84), 3) := by decide +kernel
theorem dX3_comesIf_99 : decode cX3_comesIf 99 = .ok (.iload 6, 2) := by decide +kernel
theorem dX3_comesIf_101 : decode cX3_comesIf 101 = .ok (.ireturn, 1) := by decide +kernel
theorem dX3_pressOff_0 : decode cX3_pressOff 0 = .ok (.iconst 0, 1) := by decide +kernel
theorem dX3_pressOff_1 : decode cX3_pressOff 1 = .ok (.istore_n 3, 1) := by decide +kernel
theorem dX3_pressOff_2 : decode cX3_pressOff 2 = .ok (.iconst 0, 1) := by decide +kernel
theorem dX3_pressOff_3 : decode cX3_pressOff 3 = .ok (.istore 4, 2) := by decide +kernel
theorem dX3_pressOff_5 : decode cX3_pressOff 5 = .ok (.iload 4, 2) := by decide +kernel
theorem dX3_pressOff_7 : decode cX3_pressOff 7 = .ok (.aload_n 1, 1) := by decide +kernel
theorem dX3_pressOff_8 : decode cX3_pressOff 8 = .ok (.arraylength, 1) := by decide +kernel
theorem dX3_pressOff_9 : decode cX3_pressOff 9 = .ok (.if_icmp .ge 39, 3) := by decide +kernel
theorem dX3_pressOff_12 : decode cX3_pressOff 12 = .ok (.aload_n 0, 1) := by decide +kernel
theorem dX3_pressOff_13 : decode cX3_pressOff 13 = .ok (.iload 4, 2) := by decide +kernel
theorem dX3_pressOff_15 : decode cX3_pressOff 15 = .ok (.iload_n 2, 1) := by decide +kernel
theorem dX3_pressOff_16 : decode cX3_pressOff 16 = .ok (.invokevirtual 131, 3) := by decide +kernel
theorem dX3_pressOff_19 : decode cX3_pressOff 19 = .ok (.istore 5, 2) := by decide +kernel
theorem dX3_pressOff_21 : decode cX3_pressOff 21 = .ok (.iload_n 3, 1) := by decide +kernel
theorem dX3_pressOff_22 : decode cX3_pressOff 22 = .ok (.iload 5, 2) := by decide +kernel
theorem dX3_pressOff_24 : decode cX3_pressOff 24 = .ok (.iadd, 1) := by decide +kernel
theorem dX3_pressOff_25 : decode cX3_pressOff 25 = .ok (.istore_n 3, 1) := by decide +kernel
theorem dX3_pressOff_26 : decode cX3_pressOff 26 = .ok (.aload_n 1, 1) := by decide +kernel
theorem dX3_pressOff_27 : decode cX3_pressOff 27 = .ok (.iload 4, 2) := by decide +kernel
theorem dX3_pressOff_29 : decode cX3_pressOff 29 = .ok (.bipush 99, 2) := by decide +kernel
theorem dX3_pressOff_31 : decode cX3_pressOff 31 = .ok (.aload_n 1, 1) := by decide +kernel
theorem dX3_pressOff_32 : decode cX3_pressOff 32 = .ok (.iload 4, 2) := by decide +kernel
theorem dX3_pressOff_34 : decode cX3_pressOff 34 = .ok (.iaload, 1) := by decide +kernel
theorem dX3_pressOff_35 : decode cX3_pressOff 35 = .ok (.iload 5, 2) := by decide +kernel
theorem dX3_pressOff_37 : decode cX3_pressOff 37 = .ok (.iadd, 1) := by decide +kernel
theorem dX3_pressOff_38 : decode cX3_pressOff 38 = .ok (.invokestatic 231, 3) := by decide +kernel
theorem dX3_pressOff_41 : decode cX3_pressOff 41 = .ok (.iastore, 1) := by decide +kernel
theorem dX3_pressOff_42 : decode cX3_pressOff 42 = .ok (.iinc 4 1, 3) := by decide +kernel
theorem dX3_pressOff_45 : decode cX3_pressOff 45 = .ok (.goto (-40), 3) := by decide +kernel
theorem dX3_pressOff_48 : decode cX3_pressOff 48 = .ok (.iload_n 3, 1) := by decide +kernel
theorem dX3_pressOff_49 : decode cX3_pressOff 49 = .ok (.ireturn, 1) := by decide +kernel
theorem dX3_reachesAny_0 : decode cX3_reachesAny 0 = .ok (.aload_n 0, 1) := by decide +kernel
theorem dX3_reachesAny_1 : decode cX3_reachesAny 1 = .ok (.iload_n 1, 1) := by decide +kernel
theorem dX3_reachesAny_2 : decode cX3_reachesAny 2 = .ok (.iload_n 2, 1) := by decide +kernel
theorem dX3_reachesAny_3 : decode cX3_reachesAny 3 = .ok (.invokevirtual 194, 3) := by decide +kernel
theorem dX3_reachesAny_6 : decode cX3_reachesAny 6 = .ok (.istore 4, 2) := by decide +kernel
theorem dX3_reachesAny_8 : decode cX3_reachesAny 8 = .ok (.iconst 0, 1) := by decide +kernel
theorem dX3_reachesAny_9 : decode cX3_reachesAny 9 = .ok (.istore 5, 2) := by decide +kernel
theorem dX3_reachesAny_11 : decode cX3_reachesAny 11 = .ok (.iload 5, 2) := by decide +kernel
theorem dX3_reachesAny_13 : decode cX3_reachesAny 13 = .ok (.bipush 10, 2) := by decide +kernel
theorem dX3_reachesAny_15 : decode cX3_reachesAny 15 = .ok (.if_icmp .ge 60, 3) := by decide +kernel
theorem dX3_reachesAny_18 : decode cX3_reachesAny 18 = .ok (.iload_n 3, 1) := by decide +kernel
theorem dX3_reachesAny_19 : decode cX3_reachesAny 19 = .ok (.iload 5, 2) := by decide +kernel
theorem dX3_reachesAny_21 : decode cX3_reachesAny 21 = .ok (.ishr, 1) := by decide +kernel
theorem dX3_reachesAny_22 : decode cX3_reachesAny 22 = .ok (.iconst 1, 1) := by decide +kernel
theorem dX3_reachesAny_23 : decode cX3_reachesAny 23 = .ok (.iand, 1) := by decide +kernel
theorem dX3_reachesAny_24 : decode cX3_reachesAny 24 = .ok (.iconst 1, 1) := by decide +kernel
theorem dX3_reachesAny_25 : decode cX3_reachesAny 25 = .ok (.if_icmp .ne 7, 3) := by decide +kernel
theorem dX3_reachesAny_28 : decode cX3_reachesAny 28 = .ok (.iconst 1, 1) := by decide +kernel
theorem dX3_reachesAny_29 : decode cX3_reachesAny 29 = .ok (.goto 4, 3) := by decide +kernel
theorem dX3_reachesAny_32 : decode cX3_reachesAny 32 = .ok (.iconst 0, 1) := by decide +kernel
theorem dX3_reachesAny_33 : decode cX3_reachesAny 33 = .ok (.istore 6, 2) := by decide +kernel
theorem dX3_reachesAny_35 : decode cX3_reachesAny 35 = .ok (.iload 6, 2) := by decide +kernel
theorem dX3_reachesAny_37 : decode cX3_reachesAny 37 = .ok (.ifCond .eq 32, 3) := by decide +kernel
theorem dX3_reachesAny_40 : decode cX3_reachesAny 40 = .ok (.aload_n 0, 1) := by decide +kernel
theorem dX3_reachesAny_41 : decode cX3_reachesAny 41 = .ok (.iload_n 1, 1) := by decide +kernel
theorem dX3_reachesAny_42 : decode cX3_reachesAny 42 = .ok (.invokevirtual 79, 3) := by decide +kernel
theorem dX3_reachesAny_45 : decode cX3_reachesAny 45 = .ok (.ifCond .eq 24, 3) := by decide +kernel
theorem dX3_reachesAny_48 : decode cX3_reachesAny 48 = .ok (.aload_n 0, 1) := by decide +kernel
theorem dX3_reachesAny_49 : decode cX3_reachesAny 49 = .ok (.getfield 18, 3) := by decide +kernel
theorem dX3_reachesAny_52 : decode cX3_reachesAny 52 = .ok (.iload_n 1, 1) := by decide +kernel
theorem dX3_reachesAny_53 : decode cX3_reachesAny 53 = .ok (.aaload, 1) := by decide +kernel
theorem dX3_reachesAny_54 : decode cX3_reachesAny 54 = .ok (.bipush 9, 2) := by decide +kernel
theorem dX3_reachesAny_56 : decode cX3_reachesAny 56 = .ok (.iload 5, 2) := by decide +kernel
theorem dX3_reachesAny_58 : decode cX3_reachesAny 58 = .ok (.isub, 1) := by decide +kernel
theorem dX3_reachesAny_59 : decode cX3_reachesAny 59 = .ok (.iload 4, 2) := by decide +kernel
theorem dX3_reachesAny_61 : decode cX3_reachesAny 61 = .ok (.invokevirtual 228, 3) := by decide +kernel
theorem dX3_reachesAny_64 : decode cX3_reachesAny 64 = .ok (.ifCond .le 5, 3) := by decide +kernel
theorem dX3_reachesAny_67 : decode cX3_reachesAny 67 = .ok (.iconst 1, 1) := by decide +kernel
theorem dX3_reachesAny_68 : decode cX3_reachesAny 68 = .ok (.ireturn, 1) := by decide +kernel
theorem dX3_reachesAny_69 : decode cX3_reachesAny 69 = .ok (.iinc 5 1, 3) := by decide +kernel
theorem dX3_reachesAny_72 : decode cX3_reachesAny 72 = .ok (.goto (-61), 3) := by decide +kernel
theorem dX3_reachesAny_75 : decode cX3_reachesAny 75 = .ok (.iconst 0, 1) := by decide +kernel
theorem dX3_reachesAny_76 : decode cX3_reachesAny 76 = .ok (.ireturn, 1) := by decide +kernel
theorem dX3_heavy_0 : decode cX3_heavy 0 = .ok (.iconst 0, 1) := by decide +kernel
theorem dX3_heavy_1 : decode cX3_heavy 1 = .ok (.istore_n 2, 1) := by decide +kernel
theorem dX3_heavy_2 : decode cX3_heavy 2 = .ok (.iconst 1, 1) := by decide +kernel
theorem dX3_heavy_3 : decode cX3_heavy 3 = .ok (.istore_n 3, 1) := by decide +kernel
theorem dX3_heavy_4 : decode cX3_heavy 4 = .ok (.iload_n 3, 1) := by decide +kernel
theorem dX3_heavy_5 : decode cX3_heavy 5 = .ok (.bipush 9, 2) := by decide +kernel
theorem dX3_heavy_7 : decode cX3_heavy 7 = .ok (.if_icmp .gt 26, 3) := by decide +kernel
theorem dX3_heavy_10 : decode cX3_heavy 10 = .ok (.aload_n 0, 1) := by decide +kernel
theorem dX3_heavy_11 : decode cX3_heavy 11 = .ok (.iload_n 1, 1) := by decide +kernel
theorem dX3_heavy_12 : decode cX3_heavy 12 = .ok (.iload_n 3, 1) := by decide +kernel
theorem dX3_heavy_13 : decode cX3_heavy 13 = .ok (.invokevirtual 236, 3) := by decide +kernel
theorem dX3_heavy_16 : decode cX3_heavy 16 = .ok (.ifCond .eq 11, 3) := by decide +kernel
theorem dX3_heavy_19 : decode cX3_heavy 19 = .ok (.iload_n 2, 1) := by decide +kernel
theorem dX3_heavy_20 : decode cX3_heavy 20 = .ok (.iconst 1, 1) := by decide +kernel
theorem dX3_heavy_21 : decode cX3_heavy 21 = .ok (.iload_n 3, 1) := by decide +kernel
theorem dX3_heavy_22 : decode cX3_heavy 22 = .ok (.iconst 1, 1) := by decide +kernel
theorem dX3_heavy_23 : decode cX3_heavy 23 = .ok (.isub, 1) := by decide +kernel
theorem dX3_heavy_24 : decode cX3_heavy 24 = .ok (.ishl, 1) := by decide +kernel
theorem dX3_heavy_25 : decode cX3_heavy 25 = .ok (.ior, 1) := by decide +kernel
theorem dX3_heavy_26 : decode cX3_heavy 26 = .ok (.istore_n 2, 1) := by decide +kernel
theorem dX3_heavy_27 : decode cX3_heavy 27 = .ok (.iinc 3 1, 3) := by decide +kernel
theorem dX3_heavy_30 : decode cX3_heavy 30 = .ok (.goto (-26), 3) := by decide +kernel
theorem dX3_heavy_33 : decode cX3_heavy 33 = .ok (.iload_n 2, 1) := by decide +kernel
theorem dX3_heavy_34 : decode cX3_heavy 34 = .ok (.ireturn, 1) := by decide +kernel
theorem dX3_isAllFoundWith_0 : decode cX3_isAllFoundWith 0 = .ok (.iconst 0, 1) := by decide +kernel
theorem dX3_isAllFoundWith_1 : decode cX3_isAllFoundWith 1 = .ok (.istore_n 3, 1) := by decide +kernel
theorem dX3_isAllFoundWith_2 : decode cX3_isAllFoundWith 2 = .ok (.iload_n 3, 1) := by decide +kernel
theorem dX3_isAllFoundWith_3 : decode cX3_isAllFoundWith 3 = .ok (.aload_n 0, 1) := by decide +kernel
theorem dX3_isAllFoundWith_4 : decode cX3_isAllFoundWith 4 = .ok (.getfield 25, 3) := by decide +kernel
theorem dX3_isAllFoundWith_7 : decode cX3_isAllFoundWith 7 = .ok (.getfield 156, 3) := by decide +kernel
theorem dX3_isAllFoundWith_10 : decode cX3_isAllFoundWith 10 = .ok (.if_icmp .ge 53, 3) := by decide +kernel
theorem dX3_isAllFoundWith_13 : decode cX3_isAllFoundWith 13 = .ok (.iload_n 3, 1) := by decide +kernel
theorem dX3_isAllFoundWith_14 : decode cX3_isAllFoundWith 14 = .ok (.bipush 6, 2) := by decide +kernel
theorem dX3_isAllFoundWith_16 : decode cX3_isAllFoundWith 16 = .ok (.if_icmp .ge 47, 3) := by decide +kernel
theorem dX3_isAllFoundWith_19 : decode cX3_isAllFoundWith 19 = .ok (.aload_n 0, 1) := by decide +kernel
theorem dX3_isAllFoundWith_20 : decode cX3_isAllFoundWith 20 = .ok (.aload_n 0, 1) := by decide +kernel
theorem dX3_isAllFoundWith_21 : decode cX3_isAllFoundWith 21 = .ok (.getfield 25, 3) := by decide +kernel
theorem dX3_isAllFoundWith_24 : decode cX3_isAllFoundWith 24 = .ok (.getfield 240, 3) := by decide +kernel
theorem dX3_isAllFoundWith_27 : decode cX3_isAllFoundWith 27 = .ok (.iload_n 3, 1) := by decide +kernel
theorem dX3_isAllFoundWith_28 : decode cX3_isAllFoundWith 28 = .ok (.iaload, 1) := by decide +kernel
theorem dX3_isAllFoundWith_29 : decode cX3_isAllFoundWith 29 = .ok (.aload_n 0, 1) := by decide +kernel
theorem dX3_isAllFoundWith_30 : decode cX3_isAllFoundWith 30 = .ok (.getfield 25, 3) := by decide +kernel
theorem dX3_isAllFoundWith_33 : decode cX3_isAllFoundWith 33 = .ok (.getfield 243, 3) := by decide +kernel
theorem dX3_isAllFoundWith_36 : decode cX3_isAllFoundWith 36 = .ok (.iload_n 3, 1) := by decide +kernel
theorem dX3_isAllFoundWith_37 : decode cX3_isAllFoundWith 37 = .ok (.iaload, 1) := by decide +kernel
theorem dX3_isAllFoundWith_38 : decode cX3_isAllFoundWith 38 = .ok (.iload_n 1, 1) := by decide +kernel
theorem dX3_isAllFoundWith_39 : decode cX3_isAllFoundWith 39 = .ok (.iload_n 2, 1) := by decide +kernel
theorem dX3_isAllFoundWith_40 : decode cX3_isAllFoundWith 40 = .ok (.invokevirtual 225, 3) := by decide +kernel
theorem dX3_isAllFoundWith_43 : decode cX3_isAllFoundWith 43 = .ok (.aload_n 0, 1) := by decide +kernel
theorem dX3_isAllFoundWith_44 : decode cX3_isAllFoundWith 44 = .ok (.getfield 25, 3) := by decide +kernel
theorem dX3_isAllFoundWith_47 : decode cX3_isAllFoundWith 47 = .ok (.getfield 246, 3) := by decide +kernel
theorem dX3_isAllFoundWith_50 : decode cX3_isAllFoundWith 50 = .ok (.iload_n 3, 1) := by decide +kernel
theorem dX3_isAllFoundWith_51 : decode cX3_isAllFoundWith 51 = .ok (.iaload, 1) := by decide +kernel
theorem dX3_isAllFoundWith_52 : decode cX3_isAllFoundWith 52 = .ok (.if_icmp .eq 5, 3) := by decide +kernel
theorem dX3_isAllFoundWith_55 : decode cX3_isAllFoundWith 55 = .ok (.iconst 0, 1) := by decide +kernel
theorem dX3_isAllFoundWith_56 : decode cX3_isAllFoundWith 56 = .ok (.ireturn, 1) := by decide +kernel
theorem dX3_isAllFoundWith_57 : decode cX3_isAllFoundWith 57 = .ok (.iinc 3 1, 3) := by decide +kernel
theorem dX3_isAllFoundWith_60 : decode cX3_isAllFoundWith 60 = .ok (.goto (-58), 3) := by decide +kernel
theorem dX3_isAllFoundWith_63 : decode cX3_isAllFoundWith 63 = .ok (.iconst 1, 1) := by decide +kernel
theorem dX3_isAllFoundWith_64 : decode cX3_isAllFoundWith 64 = .ok (.ireturn, 1) := by decide +kernel
theorem dX3_leftAtWorst_0 : decode cX3_leftAtWorst 0 = .ok (.iconst 1, 1) := by decide +kernel
theorem dX3_leftAtWorst_1 : decode cX3_leftAtWorst 1 = .ok (.istore 5, 2) := by decide +kernel
theorem dX3_leftAtWorst_3 : decode cX3_leftAtWorst 3 = .ok (.iload 5, 2) := by decide +kernel
theorem dX3_leftAtWorst_5 : decode cX3_leftAtWorst 5 = .ok (.bipush 9, 2) := by decide +kernel
theorem dX3_leftAtWorst_7 : decode cX3_leftAtWorst 7 = .ok (.if_icmp .gt 25, 3) := by decide +kernel
theorem dX3_leftAtWorst_10 : decode cX3_leftAtWorst 10 = .ok (.aload_n 0, 1) := by decide +kernel
theorem dX3_leftAtWorst_11 : decode cX3_leftAtWorst 11 = .ok (.getfield 44, 3) := by decide +kernel
theorem dX3_leftAtWorst_14 : decode cX3_leftAtWorst 14 = .ok (.iload 5, 2) := by decide +kernel
theorem dX3_leftAtWorst_16 : decode cX3_leftAtWorst 16 = .ok (.aload_n 0, 1) := by decide +kernel
theorem dX3_leftAtWorst_17 : decode cX3_leftAtWorst 17 = .ok (.iload_n 1, 1) := by decide +kernel
theorem dX3_leftAtWorst_18 : decode cX3_leftAtWorst 18 = .ok (.iload_n 2, 1) := by decide +kernel
theorem dX3_leftAtWorst_19 : decode cX3_leftAtWorst 19 = .ok (.iload_n 3, 1) := by decide +kernel
theorem dX3_leftAtWorst_20 : decode cX3_leftAtWorst 20 = .ok (.iload 5, 2) := by decide +kernel
theorem dX3_leftAtWorst_22 : decode cX3_leftAtWorst 22 = .ok (.invokevirtual 225, 3) := by decide +kernel
theorem dX3_leftAtWorst_25 : decode cX3_leftAtWorst 25 = .ok (.iastore, 1) := by decide +kernel
theorem dX3_leftAtWorst_26 : decode cX3_leftAtWorst 26 = .ok (.iinc 5 1, 3) := by decide +kernel
theorem dX3_leftAtWorst_29 : decode cX3_leftAtWorst 29 = .ok (.goto (-26), 3) := by decide +kernel
theorem dX3_leftAtWorst_32 : decode cX3_leftAtWorst 32 = .ok (.iconst 0, 1) := by decide +kernel
theorem dX3_leftAtWorst_33 : decode cX3_leftAtWorst 33 = .ok (.istore 5, 2) := by decide +kernel
theorem dX3_leftAtWorst_35 : decode cX3_leftAtWorst 35 = .ok (.iconst 1, 1) := by decide +kernel
theorem dX3_leftAtWorst_36 : decode cX3_leftAtWorst 36 = .ok (.istore 6, 2) := by decide +kernel
theorem dX3_leftAtWorst_38 : decode cX3_leftAtWorst 38 = .ok (.iload 6, 2) := by decide +kernel
theorem dX3_leftAtWorst_40 : decode cX3_leftAtWorst 40 = .ok (.bipush 9, 2) := by decide +kernel
theorem dX3_leftAtWorst_42 : decode cX3_leftAtWorst 42 = .ok (.if_icmp .gt 29, 3) := by decide +kernel
theorem dX3_leftAtWorst_45 : decode cX3_leftAtWorst 45 = .ok (.iload 5, 2) := by decide +kernel
theorem dX3_leftAtWorst_47 : decode cX3_leftAtWorst 47 = .ok (.aload_n 0, 1) := by decide +kernel
theorem dX3_leftAtWorst_48 : decode cX3_leftAtWorst 48 = .ok (.aload_n 0, 1) := by decide +kernel
theorem dX3_leftAtWorst_49 : decode cX3_leftAtWorst 49 = .ok (.getfield 44, 3) := by decide +kernel
theorem dX3_leftAtWorst_52 : decode cX3_leftAtWorst 52 = .ok (.iload 6, 2) := by decide +kernel
theorem dX3_leftAtWorst_54 : decode cX3_leftAtWorst 54 = .ok (.iaload, 1) := by decide +kernel
theorem dX3_leftAtWorst_55 : decode cX3_leftAtWorst 55 = .ok (.iload 4, 2) := by decide +kernel
theorem dX3_leftAtWorst_57 : decode cX3_leftAtWorst 57 = .ok (.invokevirtual 249, 3) := by decide +kernel
theorem dX3_leftAtWorst_60 : decode cX3_leftAtWorst 60 = .ok (.invokestatic 252, 3) := by decide +kernel
theorem dX3_leftAtWorst_63 : decode cX3_leftAtWorst 63 = .ok (.istore 5, 2) := by decide +kernel
theorem dX3_leftAtWorst_65 : decode cX3_leftAtWorst 65 = .ok (.iinc 6 1, 3) := by decide +kernel
theorem dX3_leftAtWorst_68 : decode cX3_leftAtWorst 68 = .ok (.goto (-30), 3) := by decide +kernel
theorem dX3_leftAtWorst_71 : decode cX3_leftAtWorst 71 = .ok (.iload 5, 2) := by decide +kernel
theorem dX3_leftAtWorst_73 : decode cX3_leftAtWorst 73 = .ok (.ireturn, 1) := by decide +kernel
theorem dX3_countLike_0 : decode cX3_countLike 0 = .ok (.iconst 0, 1) := by decide +kernel
theorem dX3_countLike_1 : decode cX3_countLike 1 = .ok (.istore_n 3, 1) := by decide +kernel
theorem dX3_countLike_2 : decode cX3_countLike 2 = .ok (.iconst 1, 1) := by decide +kernel
theorem dX3_countLike_3 : decode cX3_countLike 3 = .ok (.istore 4, 2) := by decide +kernel
theorem dX3_countLike_5 : decode cX3_countLike 5 = .ok (.iload 4, 2) := by decide +kernel
theorem dX3_countLike_7 : decode cX3_countLike 7 = .ok (.bipush 9, 2) := by decide +kernel
theorem dX3_countLike_9 : decode cX3_countLike 9 = .ok (.if_icmp .gt 47, 3) := by decide +kernel
theorem dX3_countLike_12 : decode cX3_countLike 12 = .ok (.iload_n 2, 1) := by decide +kernel
theorem dX3_countLike_13 : decode cX3_countLike 13 = .ok (.iload 4, 2) := by decide +kernel
theorem dX3_countLike_15 : decode cX3_countLike 15 = .ok (.iconst 1, 1) := by decide +kernel
theorem dX3_countLike_16 : decode cX3_countLike 16 = .ok (.isub, 1) := by decide +kernel
theorem dX3_countLike_17 : decode cX3_countLike 17 = .ok (.ishr, 1) := by decide +kernel
theorem dX3_countLike_18 : decode cX3_countLike 18 = .ok (.iconst 1, 1) := by decide +kernel
theorem dX3_countLike_19 : decode cX3_countLike 19 = .ok (.iand, 1) := by decide +kernel
theorem dX3_countLike_20 : decode cX3_countLike 20 = .ok (.iconst 1, 1) := by decide +kernel
theorem dX3_countLike_21 : decode cX3_countLike 21 = .ok (.if_icmp .ne 7, 3) := by decide +kernel
theorem dX3_countLike_24 : decode cX3_countLike 24 = .ok (.iconst 1, 1) := by decide +kernel
theorem dX3_countLike_25 : decode cX3_countLike 25 = .ok (.goto 4, 3) := by decide +kernel
theorem dX3_countLike_28 : decode cX3_countLike 28 = .ok (.iconst 0, 1) := by decide +kernel
theorem dX3_countLike_29 : decode cX3_countLike 29 = .ok (.istore 5, 2) := by decide +kernel
theorem dX3_countLike_31 : decode cX3_countLike 31 = .ok (.iload 5, 2) := by decide +kernel
theorem dX3_countLike_33 : decode cX3_countLike 33 = .ok (.ifCond .eq 17, 3) := by decide +kernel
theorem dX3_countLike_36 : decode cX3_countLike 36 = .ok (.aload_n 0, 1) := by decide +kernel
theorem dX3_countLike_37 : decode cX3_countLike 37 = .ok (.getfield 44, 3) := by decide +kernel
theorem dX3_countLike_40 : decode cX3_countLike 40 = .ok (.iload 4, 2) := by decide +kernel
theorem dX3_countLike_42 : decode cX3_countLike 42 = .ok (.iaload, 1) := by decide +kernel
theorem dX3_countLike_43 : decode cX3_countLike 43 = .ok (.iload_n 1, 1) := by decide +kernel
theorem dX3_countLike_44 : decode cX3_countLike 44 = .ok (.if_icmp .ne 6, 3) := by decide +kernel
theorem dX3_countLike_47 : decode cX3_countLike 47 = .ok (.iinc 3 1, 3) := by decide +kernel
theorem dX3_countLike_50 : decode cX3_countLike 50 = .ok (.iinc 4 1, 3) := by decide +kernel
theorem dX3_countLike_53 : decode cX3_countLike 53 = .ok (.goto (-48), 3) := by decide +kernel
theorem dX3_countLike_56 : decode cX3_countLike 56 = .ok (.iload_n 3, 1) := by decide +kernel
theorem dX3_countLike_57 : decode cX3_countLike 57 = .ok (.ireturn, 1) := by decide +kernel
theorem dX3_seedAfter_0 : decode cX3_seedAfter 0 = .ok (.ldc2_w 255, 3) := by decide +kernel
theorem dX3_seedAfter_3 : decode cX3_seedAfter 3 = .ok (.iload_n 0, 1) := by decide +kernel
theorem dX3_seedAfter_4 : decode cX3_seedAfter 4 = .ok (.i2l, 1) := by decide +kernel
theorem dX3_seedAfter_5 : decode cX3_seedAfter 5 = .ok (.lmul, 1) := by decide +kernel
theorem dX3_seedAfter_6 : decode cX3_seedAfter 6 = .ok (.ldc2_w 257, 3) := by decide +kernel
theorem dX3_seedAfter_9 : decode cX3_seedAfter 9 = .ok (.ladd, 1) := by decide +kernel
theorem dX3_seedAfter_10 : decode cX3_seedAfter 10 = .ok (.ldc2_w 259, 3) := by decide +kernel
theorem dX3_seedAfter_13 : decode cX3_seedAfter 13 = .ok (.lrem, 1) := by decide +kernel
theorem dX3_seedAfter_14 : decode cX3_seedAfter 14 = .ok (.l2i, 1) := by decide +kernel
theorem dX3_seedAfter_15 : decode cX3_seedAfter 15 = .ok (.ireturn, 1) := by decide +kernel
theorem dX3_inkIn_0 : decode cX3_inkIn 0 = .ok (.iconst 0, 1) := by decide +kernel
theorem dX3_inkIn_1 : decode cX3_inkIn 1 = .ok (.istore_n 1, 1) := by decide +kernel
theorem dX3_inkIn_2 : decode cX3_inkIn 2 = .ok (.iconst 0, 1) := by decide +kernel
theorem dX3_inkIn_3 : decode cX3_inkIn 3 = .ok (.istore_n 2, 1) := by decide +kernel
theorem dX3_inkIn_4 : decode cX3_inkIn 4 = .ok (.iload_n 2, 1) := by decide +kernel
theorem dX3_inkIn_5 : decode cX3_inkIn 5 = .ok (.aload_n 0, 1) := by decide +kernel
theorem dX3_inkIn_6 : decode cX3_inkIn 6 = .ok (.arraylength, 1) := by decide +kernel
theorem dX3_inkIn_7 : decode cX3_inkIn 7 = .ok (.if_icmp .ge 15, 3) := by decide +kernel
theorem dX3_inkIn_10 : decode cX3_inkIn 10 = .ok (.iload_n 1, 1) := by decide +kernel
theorem dX3_inkIn_11 : decode cX3_inkIn 11 = .ok (.aload_n 0, 1) := by decide +kernel
theorem dX3_inkIn_12 : decode cX3_inkIn 12 = .ok (.iload_n 2, 1) := by decide +kernel
theorem dX3_inkIn_13 : decode cX3_inkIn 13 = .ok (.iaload, 1) := by decide +kernel
theorem dX3_inkIn_14 : decode cX3_inkIn 14 = .ok (.iadd, 1) := by decide +kernel
theorem dX3_inkIn_15 : decode cX3_inkIn 15 = .ok (.istore_n 1, 1) := by decide +kernel
theorem dX3_inkIn_16 : decode cX3_inkIn 16 = .ok (.iinc 2 1, 3) := by decide +kernel
theorem dX3_inkIn_19 : decode cX3_inkIn 19 = .ok (.goto (-15), 3) := by decide +kernel
theorem dX3_inkIn_22 : decode cX3_inkIn 22 = .ok (.iload_n 1, 1) := by decide +kernel
theorem dX3_inkIn_23 : decode cX3_inkIn 23 = .ok (.ireturn, 1) := by decide +kernel
theorem dX3_dryIn_0 : decode cX3_dryIn 0 = .ok (.iconst 0, 1) := by decide +kernel
theorem dX3_dryIn_1 : decode cX3_dryIn 1 = .ok (.istore_n 1, 1) := by decide +kernel
theorem dX3_dryIn_2 : decode cX3_dryIn 2 = .ok (.iconst 0, 1) := by decide +kernel
theorem dX3_dryIn_3 : decode cX3_dryIn 3 = .ok (.istore_n 2, 1) := by decide +kernel
theorem dX3_dryIn_4 : decode cX3_dryIn 4 = .ok (.iload_n 2, 1) := by decide +kernel
theorem dX3_dryIn_5 : decode cX3_dryIn 5 = .ok (.aload_n 0, 1) := by decide +kernel
theorem dX3_dryIn_6 : decode cX3_dryIn 6 = .ok (.arraylength, 1) := by decide +kernel
theorem dX3_dryIn_7 : decode cX3_dryIn 7 = .ok (.if_icmp .ge 18, 3) := by decide +kernel
theorem dX3_dryIn_10 : decode cX3_dryIn 10 = .ok (.aload_n 0, 1) := by decide +kernel
theorem dX3_dryIn_11 : decode cX3_dryIn 11 = .ok (.iload_n 2, 1) := by decide +kernel
theorem dX3_dryIn_12 : decode cX3_dryIn 12 = .ok (.iaload, 1) := by decide +kernel
theorem dX3_dryIn_13 : decode cX3_dryIn 13 = .ok (.ifCond .ne 6, 3) := by decide +kernel
theorem dX3_dryIn_16 : decode cX3_dryIn 16 = .ok (.iinc 1 1, 3) := by decide +kernel
theorem dX3_dryIn_19 : decode cX3_dryIn 19 = .ok (.iinc 2 1, 3) := by decide +kernel
theorem dX3_dryIn_22 : decode cX3_dryIn 22 = .ok (.goto (-18), 3) := by decide +kernel
theorem dX3_dryIn_25 : decode cX3_dryIn 25 = .ok (.iload_n 1, 1) := by decide +kernel
theorem dX3_dryIn_26 : decode cX3_dryIn 26 = .ok (.ireturn, 1) := by decide +kernel
theorem dX3_copyRow_0 : decode cX3_copyRow 0 = .ok (.iconst 0, 1) := by decide +kernel
theorem dX3_copyRow_1 : decode cX3_copyRow 1 = .ok (.istore_n 2, 1) := by decide +kernel
theorem dX3_copyRow_2 : decode cX3_copyRow 2 = .ok (.iload_n 2, 1) := by decide +kernel
theorem dX3_copyRow_3 : decode cX3_copyRow 3 = .ok (.aload_n 0, 1) := by decide +kernel
theorem dX3_copyRow_4 : decode cX3_copyRow 4 = .ok (.arraylength, 1) := by decide +kernel
theorem dX3_copyRow_5 : decode cX3_copyRow 5 = .ok (.if_icmp .ge 21, 3) := by decide +kernel
theorem dX3_copyRow_8 : decode cX3_copyRow 8 = .ok (.iload_n 2, 1) := by decide +kernel
theorem dX3_copyRow_9 : decode cX3_copyRow 9 = .ok (.aload_n 1, 1) := by decide +kernel
theorem dX3_copyRow_10 : decode cX3_copyRow 10 = .ok (.arraylength, 1) := by decide +kernel
theorem dX3_copyRow_11 : decode cX3_copyRow 11 = .ok (.if_icmp .ge 15, 3) := by decide +kernel
theorem dX3_copyRow_14 : decode cX3_copyRow 14 = .ok (.aload_n 1, 1) := by decide +kernel
theorem dX3_copyRow_15 : decode cX3_copyRow 15 = .ok (.iload_n 2, 1) := by decide +kernel
theorem dX3_copyRow_16 : decode cX3_copyRow 16 = .ok (.aload_n 0, 1) := by decide +kernel
theorem dX3_copyRow_17 : decode cX3_copyRow 17 = .ok (.iload_n 2, 1) := by decide +kernel
theorem dX3_copyRow_18 : decode cX3_copyRow 18 = .ok (.iaload, 1) := by decide +kernel
theorem dX3_copyRow_19 : decode cX3_copyRow 19 = .ok (.iastore, 1) := by decide +kernel
theorem dX3_copyRow_20 : decode cX3_copyRow 20 = .ok (.iinc 2 1, 3) := by decide +kernel
theorem dX3_copyRow_23 : decode cX3_copyRow 23 = .ok (.goto (-21), 3) := by decide +kernel
theorem dX3_copyRow_26 : decode cX3_copyRow 26 = .ok (.return_, 1) := by decide +kernel
theorem dX4_init_0 : decode cX4_init 0 = .ok (.aload_n 0, 1) := by decide +kernel
theorem dX4_init_1 : decode cX4_init 1 = .ok (.invokespecial 1, 3) := by decide +kernel
theorem dX4_init_4 : decode cX4_init 4 = .ok (.aload_n 0, 1) := by decide +kernel
theorem dX4_init_5 : decode cX4_init 5 = .ok (.bipush 6, 2) := by decide +kernel
theorem dX4_init_7 : decode cX4_init 7 = .ok (.newarray .int, 2) := by decide +kernel
theorem dX4_init_9 : decode cX4_init 9 = .ok (.putfield 7, 3) := by decide +kernel
theorem dX4_init_12 : decode cX4_init 12 = .ok (.aload_n 0, 1) := by decide +kernel
theorem dX4_init_13 : decode cX4_init 13 = .ok (.bipush 6, 2) := by decide +kernel
theorem dX4_init_15 : decode cX4_init 15 = .ok (.newarray .int, 2) := by decide +kernel
theorem dX4_init_17 : decode cX4_init 17 = .ok (.putfield 13, 3) := by decide +kernel
theorem dX4_init_20 : decode cX4_init 20 = .ok (.aload_n 0, 1) := by decide +kernel
theorem dX4_init_21 : decode cX4_init 21 = .ok (.bipush 6, 2) := by decide +kernel
theorem dX4_init_23 : decode cX4_init 23 = .ok (.newarray .int, 2) := by decide +kernel
theorem dX4_init_25 : decode cX4_init 25 = .ok (.putfield 16, 3) := by decide +kernel
theorem dX4_init_28 : decode cX4_init 28 = .ok (.aload_n 0, 1) := by decide +kernel
theorem dX4_init_29 : decode cX4_init 29 = .ok (.bipush 6, 2) := by decide +kernel
theorem dX4_init_31 : decode cX4_init 31 = .ok (.newarray .int, 2) := by decide +kernel
theorem dX4_init_33 : decode cX4_init 33 = .ok (.putfield 19, 3) := by decide +kernel
theorem dX4_init_36 : decode cX4_init 36 = .ok (.aload_n 0, 1) := by decide +kernel
theorem dX4_init_37 : decode cX4_init 37 = .ok (.bipush 10, 2) := by decide +kernel
theorem dX4_init_39 : decode cX4_init 39 = .ok (.newarray .int, 2) := by decide +kernel
theorem dX4_init_41 : decode cX4_init 41 = .ok (.putfield 22, 3) := by decide +kernel
theorem dX4_init_44 : decode cX4_init 44 = .ok (.aload_n 0, 1) := by decide +kernel
theorem dX4_init_45 : decode cX4_init 45 = .ok (.bipush 6, 2) := by decide +kernel
theorem dX4_init_47 : decode cX4_init 47 = .ok (.newarray .int, 2) := by decide +kernel
theorem dX4_init_49 : decode cX4_init 49 = .ok (.putfield 25, 3) := by decide +kernel
theorem dX4_init_52 : decode cX4_init 52 = .ok (.aload_n 0, 1) := by decide +kernel
theorem dX4_init_53 : decode cX4_init 53 = .ok (.bipush 6, 2) := by decide +kernel
theorem dX4_init_55 : decode cX4_init 55 = .ok (.newarray .int, 2) := by decide +kernel
theorem dX4_init_57 : decode cX4_init 57 = .ok (.putfield 28, 3) := by decide +kernel
theorem dX4_init_60 : decode cX4_init 60 = .ok (.aload_n 0, 1) := by decide +kernel
theorem dX4_init_61 : decode cX4_init 61 = .ok (.bipush 6, 2) := by decide +kernel
theorem dX4_init_63 : decode cX4_init 63 = .ok (.newarray .int, 2) := by decide +kernel
theorem dX4_init_65 : decode cX4_init 65 = .ok (.putfield 31, 3) := by decide +kernel
theorem dX4_init_68 : decode cX4_init 68 = .ok (.aload_n 0, 1) := by decide +kernel
theorem dX4_init_69 : decode cX4_init 69 = .ok (.bipush 21, 2) := by decide +kernel
theorem dX4_init_71 : decode cX4_init 71 = .ok (.newarray .byte, 2) := by decide +kernel
theorem dX4_init_73 : decode cX4_init 73 = .ok (.putfield 34, 3) := by decide +kernel
theorem dX4_init_76 : decode cX4_init 76 = .ok (.aload_n 0, 1) := by decide +kernel
theorem dX4_init_77 : decode cX4_init 77 = .ok (.bipush 90, 2) := by decide +kernel
theorem dX4_init_79 : decode cX4_init 79 = .ok (.newarray .int, 2) := by decide +kernel
theorem dX4_init_81 : decode cX4_init 81 = .ok (.putfield 38, 3) := by decide +kernel
theorem dX4_init_84 : decode cX4_init 84 = .ok (.aload_n 0, 1) := by decide +kernel
theorem dX4_init_85 : decode cX4_init 85 = .ok (.bipush 10, 2) := by decide +kernel
theorem dX4_init_87 : decode cX4_init 87 = .ok (.newarray .int, 2) := by decide +kernel
theorem dX4_init_89 : decode cX4_init 89 = .ok (.putfield 41, 3) := by decide +kernel
theorem dX4_init_92 : decode cX4_init 92 = .ok (.aload_n 0, 1) := by decide +kernel
theorem dX4_init_93 : decode cX4_init 93 = .ok (.bipush 10, 2) := by decide +kernel
theorem dX4_init_95 : decode cX4_init 95 = .ok (.newarray .int, 2) := by decide +kernel
theorem dX4_init_97 : decode cX4_init 97 = .ok (.putfield 44, 3) := by decide +kernel
theorem dX4_init_100 : decode cX4_init 100 = .ok (.aload_n 0, 1) := by decide +kernel
theorem dX4_init_101 : decode cX4_init 101 = .ok (.bipush 6, 2) := by decide +kernel
theorem dX4_init_103 : decode cX4_init 103 = .ok (.newarray .int, 2) := by decide +kernel
theorem dX4_init_105 : decode cX4_init 105 = .ok (.putfield 47, 3) := by decide +kernel
theorem dX4_init_108 : decode cX4_init 108 = .ok (.aload_n 0, 1) := by decide +kernel
theorem dX4_init_109 : decode cX4_init 109 = .ok (.bipush 6, 2) := by decide +kernel
theorem dX4_init_111 : decode cX4_init 111 = .ok (.newarray .int, 2) := by decide +kernel
theorem dX4_init_113 : decode cX4_init 113 = .ok (.putfield 50, 3) := by decide +kernel
theorem dX4_init_116 : decode cX4_init 116 = .ok (.aload_n 0, 1) := by decide +kernel
theorem dX4_init_117 : decode cX4_init 117 = .ok (.bipush 6, 2) := by decide +kernel
theorem dX4_init_119 : decode cX4_init 119 = .ok (.newarray .int, 2) := by decide +kernel
theorem dX4_init_121 : decode cX4_init 121 = .ok (.putfield 53, 3) := by decide +kernel
theorem dX4_init_124 : decode cX4_init 124 = .ok (.return_, 1) := by decide +kernel
theorem dX4_within_0 : decode cX4_within 0 = .ok (.iload_n 0, 1) := by decide +kernel
theorem dX4_within_1 : decode cX4_within 1 = .ok (.iload_n 1, 1) := by decide +kernel
theorem dX4_within_2 : decode cX4_within 2 = .ok (.if_icmp .lt 12, 3) := by decide +kernel
theorem dX4_within_5 : decode cX4_within 5 = .ok (.iload_n 0, 1) := by decide +kernel
theorem dX4_within_6 : decode cX4_within 6 = .ok (.iload_n 2, 1) := by decide +kernel
theorem dX4_within_7 : decode cX4_within 7 = .ok (.if_icmp .gt 7, 3) := by decide +kernel
theorem dX4_within_10 : decode cX4_within 10 = .ok (.iconst 1, 1) := by decide +kernel
theorem dX4_within_11 : decode cX4_within 11 = .ok (.goto 4, 3) := by decide +kernel
theorem dX4_within_14 : decode cX4_within 14 = .ok (.iconst 0, 1) := by decide +kernel
theorem dX4_within_15 : decode cX4_within 15 = .ok (.ireturn, 1) := by decide +kernel
theorem dX4_isIn_0 : decode cX4_isIn 0 = .ok (.iload_n 0, 1) := by decide +kernel
theorem dX4_isIn_1 : decode cX4_isIn 1 = .ok (.iload_n 1, 1) := by decide +kernel
theorem dX4_isIn_2 : decode cX4_isIn 2 = .ok (.ishr, 1) := by decide +kernel
theorem dX4_isIn_3 : decode cX4_isIn 3 = .ok (.iconst 1, 1) := by decide +kernel
theorem dX4_isIn_4 : decode cX4_isIn 4 = .ok (.iand, 1) := by decide +kernel
theorem dX4_isIn_5 : decode cX4_isIn 5 = .ok (.iconst 1, 1) := by decide +kernel
theorem dX4_isIn_6 : decode cX4_isIn 6 = .ok (.if_icmp .ne 7, 3) := by decide +kernel
theorem dX4_isIn_9 : decode cX4_isIn 9 = .ok (.iconst 1, 1) := by decide +kernel
theorem dX4_isIn_10 : decode cX4_isIn 10 = .ok (.goto 4, 3) := by decide +kernel
theorem dX4_isIn_13 : decode cX4_isIn 13 = .ok (.iconst 0, 1) := by decide +kernel
theorem dX4_isIn_14 : decode cX4_isIn 14 = .ok (.ireturn, 1) := by decide +kernel
theorem dX4_size_0 : decode cX4_size 0 = .ok (.iconst 0, 1) := by decide +kernel
theorem dX4_size_1 : decode cX4_size 1 = .ok (.istore_n 1, 1) := by decide +kernel
theorem dX4_size_2 : decode cX4_size 2 = .ok (.iconst 0, 1) := by decide +kernel
theorem dX4_size_3 : decode cX4_size 3 = .ok (.istore_n 2, 1) := by decide +kernel
theorem dX4_size_4 : decode cX4_size 4 = .ok (.iload_n 2, 1) := by decide +kernel
theorem dX4_size_5 : decode cX4_size 5 = .ok (.bipush 6, 2) := by decide +kernel
theorem dX4_size_7 : decode cX4_size 7 = .ok (.if_icmp .ge 17, 3) := by decide +kernel
theorem dX4_size_10 : decode cX4_size 10 = .ok (.iload_n 1, 1) := by decide +kernel
theorem dX4_size_11 : decode cX4_size 11 = .ok (.iload_n 0, 1) := by decide +kernel
theorem dX4_size_12 : decode cX4_size 12 = .ok (.iload_n 2, 1) := by decide +kernel
theorem dX4_size_13 : decode cX4_size 13 = .ok (.ishr, 1) := by decide +kernel
theorem dX4_size_14 : decode cX4_size 14 = .ok (.iconst 1, 1) := by decide +kernel
theorem dX4_size_15 : decode cX4_size 15 = .ok (.iand, 1) := by decide +kernel
theorem dX4_size_16 : decode cX4_size 16 = .ok (.iadd, 1) := by decide +kernel
theorem dX4_size_17 : decode cX4_size 17 = .ok (.istore_n 1, 1) := by decide +kernel
theorem dX4_size_18 : decode cX4_size 18 = .ok (.iinc 2 1, 3) := by decide +kernel
theorem dX4_size_21 : decode cX4_size 21 = .ok (.goto (-17), 3) := by decide +kernel
theorem dX4_size_24 : decode cX4_size 24 = .ok (.iload_n 1, 1) := by decide +kernel
theorem dX4_size_25 : decode cX4_size 25 = .ok (.ireturn, 1) := by decide +kernel
theorem dX4_letter_0 : decode cX4_letter 0 = .ok (.iload_n 1, 1) := by decide +kernel
theorem dX4_letter_1 : decode cX4_letter 1 = .ok (.bipush 32, 2) := by decide +kernel
theorem dX4_letter_3 : decode cX4_letter 3 = .ok (.bipush 126, 2) := by decide +kernel
theorem dX4_letter_5 : decode cX4_letter 5 = .ok (.invokestatic 56, 3) := by decide +kernel
theorem dX4_letter_8 : decode cX4_letter 8 = .ok (.ifCond .ne 6, 3) := by decide +kernel
theorem dX4_letter_11 : decode cX4_letter 11 = .ok (.bipush (-102), 2) := by decide +kernel
theorem dX4_letter_13 : decode cX4_letter 13 = .ok (.ireturn, 1) := by decide +kernel
theorem dX4_letter_14 : decode cX4_letter 14 = .ok (.aload_n 0, 1) := by decide +kernel
theorem dX4_letter_15 : decode cX4_letter 15 = .ok (.getfield 60, 3) := by decide +kernel
theorem dX4_letter_18 : decode cX4_letter 18 = .ok (.bipush 21, 2) := by decide +kernel
theorem dX4_letter_20 : decode cX4_letter 20 = .ok (.if_icmp .ne 6, 3) := by decide +kernel
theorem dX4_letter_23 : decode cX4_letter 23 = .ok (.bipush (-104), 2) := by decide +kernel
theorem dX4_letter_25 : decode cX4_letter 25 = .ok (.ireturn, 1) := by decide +kernel
theorem dX4_letter_26 : decode cX4_letter 26 = .ok (.aload_n 0, 1) := by decide +kernel
theorem dX4_letter_27 : decode cX4_letter 27 = .ok (.getfield 34, 3) := by decide +kernel
theorem dX4_letter_30 : decode cX4_letter 30 = .ok (.aload_n 0, 1) := by decide +kernel
theorem dX4_letter_31 : decode cX4_letter 31 = .ok (.getfield 60, 3) := by decide +kernel
theorem dX4_letter_34 : decode cX4_letter 34 = .ok (.iload_n 1, 1) := by decide +kernel
theorem dX4_letter_35 : decode cX4_letter 35 = .ok (.i2b, 1) := by decide +kernel
theorem dX4_letter_36 : decode cX4_letter 36 = .ok (.bastore, 1) := by decide +kernel
theorem dX4_letter_37 : decode cX4_letter 37 = .ok (.aload_n 0, 1) := by decide +kernel
theorem dX4_letter_38 : decode cX4_letter 38 = .ok (.dup, 1) := by decide +kernel
theorem dX4_letter_39 : decode cX4_letter 39 = .ok (.getfield 60, 3) := by decide +kernel
theorem dX4_letter_42 : decode cX4_letter 42 = .ok (.iconst 1, 1) := by decide +kernel
theorem dX4_letter_43 : decode cX4_letter 43 = .ok (.iadd, 1) := by decide +kernel
theorem dX4_letter_44 : decode cX4_letter 44 = .ok (.putfield 60, 3) := by decide +kernel
theorem dX4_letter_47 : decode cX4_letter 47 = .ok (.aload_n 0, 1) := by decide +kernel
theorem dX4_letter_48 : decode cX4_letter 48 = .ok (.getfield 60, 3) := by decide +kernel
theorem dX4_letter_51 : decode cX4_letter 51 = .ok (.ireturn, 1) := by decide +kernel
theorem dX4_blank_0 : decode cX4_blank 0 = .ok (.aload_n 0, 1) := by decide +kernel
theorem dX4_blank_1 : decode cX4_blank 1 = .ok (.getfield 60, 3) := by decide +kernel
theorem dX4_blank_4 : decode cX4_blank 4 = .ok (.istore_n 1, 1) := by decide +kernel
theorem dX4_blank_5 : decode cX4_blank 5 = .ok (.aload_n 0, 1) := by decide +kernel
theorem dX4_blank_6 : decode cX4_blank 6 = .ok (.iconst 0, 1) := by decide +kernel
theorem dX4_blank_7 : decode cX4_blank 7 = .ok (.putfield 60, 3) := by decide +kernel
theorem dX4_blank_10 : decode cX4_blank 10 = .ok (.iload_n 1, 1) := by decide +kernel
theorem dX4_blank_11 : decode cX4_blank 11 = .ok (.ireturn, 1) := by decide +kernel
theorem dX4_kindBy_0 : decode cX4_kindBy 0 = .ok (.iload_n 0, 1) := by decide +kernel
theorem dX4_kindBy_1 : decode cX4_kindBy 1 = .ok (.lookupswitch 61 #[(98, 53), (102, 57), (113, 55), (115, 51), (116, 59)], 51) := by decide +kernel
theorem dX4_kindBy_52 : decode cX4_kindBy 52 = .ok (.iconst 0, 1) := by decide +kernel
theorem dX4_kindBy_53 : decode cX4_kindBy 53 = .ok (.ireturn, 1) := by decide +kernel
theorem dX4_kindBy_54 : decode cX4_kindBy 54 = .ok (.iconst 1, 1) := by decide +kernel
theorem dX4_kindBy_55 : decode cX4_kindBy 55 = .ok (.ireturn, 1) := by decide +kernel
theorem dX4_kindBy_56 : decode cX4_kindBy 56 = .ok (.iconst 2, 1) := by decide +kernel
theorem dX4_kindBy_57 : decode cX4_kindBy 57 = .ok (.ireturn, 1) := by decide +kernel
theorem dX4_kindBy_58 : decode cX4_kindBy 58 = .ok (.iconst 3, 1) := by decide +kernel
theorem dX4_kindBy_59 : decode cX4_kindBy 59 = .ok (.ireturn, 1) := by decide +kernel
theorem dX4_kindBy_60 : decode cX4_kindBy 60 = .ok (.iconst 4, 1) := by decide +kernel
theorem dX4_kindBy_61 : decode cX4_kindBy 61 = .ok (.ireturn, 1) := by decide +kernel
theorem dX4_kindBy_62 : decode cX4_kindBy 62 = .ok (.iconst (-1), 1) := by decide +kernel
theorem dX4_kindBy_63 : decode cX4_kindBy 63 = .ok (.ireturn, 1) := by decide +kernel
theorem dX4_isGood_0 : decode cX4_isGood 0 = .ok (.aload_n 0, 1) := by decide +kernel
theorem dX4_isGood_1 : decode cX4_isGood 1 = .ok (.getfield 34, 3) := by decide +kernel
theorem dX4_isGood_4 : decode cX4_isGood 4 = .ok (.iload_n 1, 1) := by decide +kernel
theorem dX4_isGood_5 : decode cX4_isGood 5 = .ok (.baload, 1) := by decide +kernel
theorem dX4_isGood_6 : decode cX4_isGood 6 = .ok (.istore_n 2, 1) := by decide +kernel
theorem dX4_isGood_7 : decode cX4_isGood 7 = .ok (.iload_n 1, 1) := by decide +kernel
theorem dX4_isGood_8 : decode cX4_isGood 8 = .ok (.iconst 5, 1) := by decide +kernel
theorem dX4_isGood_9 : decode cX4_isGood 9 = .ok (.irem, 1) := by decide +kernel
theorem dX4_isGood_10 : decode cX4_isGood 10 = .ok (.tableswitch 76 0 3 #[30, 44, 55, 65], 30) := by decide +kernel
theorem dX4_isGood_40 : decode cX4_isGood 40 = .ok (.iload_n 2, 1) := by decide +kernel
theorem dX4_isGood_41 : decode cX4_isGood 41 = .ok (.invokestatic 64, 3) := by decide +kernel
theorem dX4_isGood_44 : decode cX4_isGood 44 = .ok (.iconst (-1), 1) := by decide +kernel
theorem dX4_isGood_45 : decode cX4_isGood 45 = .ok (.if_icmp .eq 7, 3) := by decide +kernel
theorem dX4_isGood_48 : decode cX4_isGood 48 = .ok (.iconst 1, 1) := by decide +kernel
theorem dX4_isGood_49 : decode cX4_isGood 49 = .ok (.goto 4, 3) := by decide +kernel
theorem dX4_isGood_52 : decode cX4_isGood 52 = .ok (.iconst 0, 1) := by decide +kernel
theorem dX4_isGood_53 : decode cX4_isGood 53 = .ok (.ireturn, 1) := by decide +kernel
theorem dX4_isGood_54 : decode cX4_isGood 54 = .ok (.iload_n 2, 1) := by decide +kernel
theorem dX4_isGood_55 : decode cX4_isGood 55 = .ok (.bipush 48, 2) := by decide +kernel
theorem dX4_isGood_57 : decode cX4_isGood 57 = .ok (.isub, 1) := by decide +kernel
theorem dX4_isGood_58 : decode cX4_isGood 58 = .ok (.iconst 0, 1) := by decide +kernel
theorem dX4_isGood_59 : decode cX4_isGood 59 = .ok (.bipush 9, 2) := by decide +kernel
theorem dX4_isGood_61 : decode cX4_isGood 61 = .ok (.invokestatic 56, 3) := by decide +kernel
theorem dX4_isGood_64 : decode cX4_isGood 64 = .ok (.ireturn, 1) := by decide +kernel
theorem dX4_isGood_65 : decode cX4_isGood 65 = .ok (.iload_n 2, 1) := by decide +kernel
theorem dX4_isGood_66 : decode cX4_isGood 66 = .ok (.bipush 48, 2) := by decide +kernel
theorem dX4_isGood_68 : decode cX4_isGood 68 = .ok (.isub, 1) := by decide +kernel
theorem dX4_isGood_69 : decode cX4_isGood 69 = .ok (.iconst 1, 1) := by decide +kernel
theorem dX4_isGood_70 : decode cX4_isGood 70 = .ok (.iconst 5, 1) := by decide +kernel
theorem dX4_isGood_71 : decode cX4_isGood 71 = .ok (.invokestatic 56, 3) := by decide +kernel
theorem dX4_isGood_74 : decode cX4_isGood 74 = .ok (.ireturn, 1) := by decide +kernel
theorem dX4_isGood_75 : decode cX4_isGood 75 = .ok (.iload_n 2, 1) := by decide +kernel
theorem dX4_isGood_76 : decode cX4_isGood 76 = .ok (.bipush 48, 2) := by decide +kernel
theorem dX4_isGood_78 : decode cX4_isGood 78 = .ok (.isub, 1) := by decide +kernel
theorem dX4_isGood_79 : decode cX4_isGood 79 = .ok (.iconst 1, 1) := by decide +kernel
theorem dX4_isGood_80 : decode cX4_isGood 80 = .ok (.bipush 9, 2) := by decide +kernel
theorem dX4_isGood_82 : decode cX4_isGood 82 = .ok (.invokestatic 56, 3) := by decide +kernel
theorem dX4_isGood_85 : decode cX4_isGood 85 = .ok (.ireturn, 1) := by decide +kernel
theorem dX4_isGood_86 : decode cX4_isGood 86 = .ok (.iload_n 2, 1) := by decide +kernel
theorem dX4_isGood_87 : decode cX4_isGood 87 = .ok (.bipush 44, 2) := by decide +kernel
theorem dX4_isGood_89 : decode cX4_isGood 89 = .ok (.if_icmp .ne 13, 3) := by decide +kernel
theorem dX4_isGood_92 : decode cX4_isGood 92 = .ok (.iload_n 1, 1) := by decide +kernel
theorem dX4_isGood_93 : decode cX4_isGood 93 = .ok (.bipush 19, 2) := by decide +kernel
theorem dX4_isGood_95 : decode cX4_isGood 95 = .ok (.if_icmp .ge 7, 3) := by decide +kernel
theorem dX4_isGood_98 : decode cX4_isGood 98 = .ok (.iconst 1, 1) := by decide +kernel
theorem dX4_isGood_99 : decode cX4_isGood 99 = .ok (.goto 4, 3) := by decide +kernel
theorem dX4_isGood_102 : decode cX4_isGood 102 = .ok (.iconst 0, 1) := by decide +kernel
theorem dX4_isGood_103 : decode cX4_isGood 103 = .ok (.ireturn, 1) := by decide +kernel
theorem dX4_faultNow_0 : decode cX4_faultNow 0 = .ok (.iconst 0, 1) := by decide +kernel
theorem dX4_faultNow_1 : decode cX4_faultNow 1 = .ok (.istore_n 1, 1) := by decide +kernel
theorem dX4_faultNow_2 : decode cX4_faultNow 2 = .ok (.iload_n 1, 1) := by decide +kernel
theorem dX4_faultNow_3 : decode cX4_faultNow 3 = .ok (.aload_n 0, 1) := by decide +kernel
theorem dX4_faultNow_4 : decode cX4_faultNow 4 = .ok (.getfield 60, 3) := by decide +kernel
theorem dX4_faultNow_7 : decode cX4_faultNow 7 = .ok (.if_icmp .ge 17, 3) := by decide +kernel
theorem dX4_faultNow_10 : decode cX4_faultNow 10 = .ok (.aload_n 0, 1) := by decide +kernel
theorem dX4_faultNow_11 : decode cX4_faultNow 11 = .ok (.iload_n 1, 1) := by decide +kernel
theorem dX4_faultNow_12 : decode cX4_faultNow 12 = .ok (.invokevirtual 68, 3) := by decide +kernel
theorem dX4_faultNow_15 : decode cX4_faultNow 15 = .ok (.ifCond .eq 9, 3) := by decide +kernel
theorem dX4_faultNow_18 : decode cX4_faultNow 18 = .ok (.iinc 1 1, 3) := by decide +kernel
theorem dX4_faultNow_21 : decode cX4_faultNow 21 = .ok (.goto (-19), 3) := by decide +kernel
theorem dX4_faultNow_24 : decode cX4_faultNow 24 = .ok (.iload_n 1, 1) := by decide +kernel
theorem dX4_faultNow_25 : decode cX4_faultNow 25 = .ok (.ireturn, 1) := by decide +kernel
theorem dX4_fault_0 : decode cX4_fault 0 = .ok (.aload_n 0, 1) := by decide +kernel
theorem dX4_fault_1 : decode cX4_fault 1 = .ok (.invokevirtual 72, 3) := by decide +kernel
theorem dX4_fault_4 : decode cX4_fault 4 = .ok (.ireturn, 1) := by decide +kernel
theorem dX4_longAt_0 : decode cX4_longAt 0 = .ok (.iload_n 0, 1) := by decide +kernel
theorem dX4_longAt_1 : decode cX4_longAt 1 = .ok (.iload_n 1, 1) := by decide +kernel
theorem dX4_longAt_2 : decode cX4_longAt 2 = .ok (.iadd, 1) := by decide +kernel
theorem dX4_longAt_3 : decode cX4_longAt 3 = .ok (.bipush 10, 2) := by decide +kernel
theorem dX4_longAt_5 : decode cX4_longAt 5 = .ok (.if_icmp .le 10, 3) := by decide +kernel
theorem dX4_longAt_8 : decode cX4_longAt 8 = .ok (.bipush 10, 2) := by decide +kernel
theorem dX4_longAt_10 : decode cX4_longAt 10 = .ok (.iload_n 0, 1) := by decide +kernel
theorem dX4_longAt_11 : decode cX4_longAt 11 = .ok (.isub, 1) := by decide +kernel
theorem dX4_longAt_12 : decode cX4_longAt 12 = .ok (.goto 4, 3) := by decide +kernel
theorem dX4_longAt_15 : decode cX4_longAt 15 = .ok (.iload_n 1, 1) := by decide +kernel
theorem dX4_longAt_16 : decode cX4_longAt 16 = .ok (.ireturn, 1) := by decide +kernel
theorem dX4_leaf_0 : decode cX4_leaf 0 = .ok (.aload_n 0, 1) := by decide +kernel
theorem dX4_leaf_1 : decode cX4_leaf 1 = .ok (.getfield 60, 3) := by decide +kernel
theorem dX4_leaf_4 : decode cX4_leaf 4 = .ok (.iconst 5, 1) := by decide +kernel
theorem dX4_leaf_5 : decode cX4_leaf 5 = .ok (.irem, 1) := by decide +kernel
theorem dX4_leaf_6 : decode cX4_leaf 6 = .ok (.iconst 4, 1) := by decide +kernel
theorem dX4_leaf_7 : decode cX4_leaf 7 = .ok (.if_icmp .ne 14, 3) := by decide +kernel
theorem dX4_leaf_10 : decode cX4_leaf 10 = .ok (.aload_n 0, 1) := by decide +kernel
theorem dX4_leaf_11 : decode cX4_leaf 11 = .ok (.invokevirtual 72, 3) := by decide +kernel
theorem dX4_leaf_14 : decode cX4_leaf 14 = .ok (.aload_n 0, 1) := by decide +kernel
theorem dX4_leaf_15 : decode cX4_leaf 15 = .ok (.getfield 60, 3) := by decide +kernel
theorem dX4_leaf_18 : decode cX4_leaf 18 = .ok (.if_icmp .eq 6, 3) := by decide +kernel
theorem dX4_leaf_21 : decode cX4_leaf 21 = .ok (.bipush (-103), 2) := by decide +kernel
theorem dX4_leaf_23 : decode cX4_leaf 23 = .ok (.ireturn, 1) := by decide +kernel
theorem dX4_leaf_24 : decode cX4_leaf 24 = .ok (.aload_n 0, 1) := by decide +kernel
theorem dX4_leaf_25 : decode cX4_leaf 25 = .ok (.aload_n 0, 1) := by decide +kernel
theorem dX4_leaf_26 : decode cX4_leaf 26 = .ok (.getfield 60, 3) := by decide +kernel
theorem dX4_leaf_29 : decode cX4_leaf 29 = .ok (.iconst 1, 1) := by decide +kernel
theorem dX4_leaf_30 : decode cX4_leaf 30 = .ok (.iadd, 1) := by decide +kernel
theorem dX4_leaf_31 : decode cX4_leaf 31 = .ok (.iconst 5, 1) := by decide +kernel
theorem dX4_leaf_32 : decode cX4_leaf 32 = .ok (.idiv, 1) := by decide +kernel
theorem dX4_leaf_33 : decode cX4_leaf 33 = .ok (.putfield 76, 3) := by decide +kernel
theorem dX4_leaf_36 : decode cX4_leaf 36 = .ok (.iconst 0, 1) := by decide +kernel
theorem dX4_leaf_37 : decode cX4_leaf 37 = .ok (.istore_n 1, 1) := by decide +kernel
theorem dX4_leaf_38 : decode cX4_leaf 38 = .ok (.iload_n 1, 1) := by decide +kernel
theorem dX4_leaf_39 : decode cX4_leaf 39 = .ok (.aload_n 0, 1) := by decide +kernel
theorem dX4_leaf_40 : decode cX4_leaf 40 = .ok (.getfield 76, 3) := by decide +kernel
theorem dX4_leaf_43 : decode cX4_leaf 43 = .ok (.if_icmp .ge 92, 3) := by decide +kernel
theorem dX4_leaf_46 : decode cX4_leaf 46 = .ok (.aload_n 0, 1) := by decide +kernel
theorem dX4_leaf_47 : decode cX4_leaf 47 = .ok (.getfield 7, 3) := by decide +kernel
theorem dX4_leaf_50 : decode cX4_leaf 50 = .ok (.iload_n 1, 1) := by decide +kernel
theorem dX4_leaf_51 : decode cX4_leaf 51 = .ok (.aload_n 0, 1) := by decide +kernel
theorem dX4_leaf_52 : decode cX4_leaf 52 = .ok (.getfield 34, 3) := by decide +kernel
theorem dX4_leaf_55 : decode cX4_leaf 55 = .ok (.iconst 5, 1) := by decide +kernel
theorem dX4_leaf_56 : decode cX4_leaf 56 = .ok (.iload_n 1, 1) := by decide +kernel
theorem dX4_leaf_57 : decode cX4_leaf 57 = .ok (.imul, 1) := by decide +kernel
theorem dX4_leaf_58 : decode cX4_leaf 58 = .ok (.baload, 1) := by decide +kernel
theorem dX4_leaf_59 : decode cX4_leaf 59 = .ok (.invokestatic 64, 3) := by decide +kernel
theorem dX4_leaf_62 : decode cX4_leaf 62 = .ok (.iastore, 1) := by decide +kernel
theorem dX4_leaf_63 : decode cX4_leaf 63 = .ok (.aload_n 0, 1) := by decide +kernel
theorem dX4_leaf_64 : decode cX4_leaf 64 = .ok (.getfield 13, 3) := by decide +kernel
theorem dX4_leaf_67 : decode cX4_leaf 67 = .ok (.iload_n 1, 1) := by decide +kernel
theorem dX4_leaf_68 : decode cX4_leaf 68 = .ok (.aload_n 0, 1) := by decide +kernel
theorem dX4_leaf_69 : decode cX4_leaf 69 = .ok (.getfield 34, 3) := by decide +kernel
theorem dX4_leaf_72 : decode cX4_leaf 72 = .ok (.iconst 5, 1) := by decide +kernel
theorem dX4_leaf_73 : decode cX4_leaf 73 = .ok (.iload_n 1, 1) := by decide +kernel
theorem dX4_leaf_74 : decode cX4_leaf 74 = .ok (.imul, 1) := by decide +kernel
theorem dX4_leaf_75 : decode cX4_leaf 75 = .ok (.iconst 1, 1) := by decide +kernel
theorem dX4_leaf_76 : decode cX4_leaf 76 = .ok (.iadd, 1) := by decide +kernel
theorem dX4_leaf_77 : decode cX4_leaf 77 = .ok (.baload, 1) := by decide +kernel
theorem dX4_leaf_78 : decode cX4_leaf 78 = .ok (.bipush 48, 2) := by decide +kernel
theorem dX4_leaf_80 : decode cX4_leaf 80 = .ok (.isub, 1) := by decide +kernel
theorem dX4_leaf_81 : decode cX4_leaf 81 = .ok (.iastore, 1) := by decide +kernel
theorem dX4_leaf_82 : decode cX4_leaf 82 = .ok (.aload_n 0, 1) := by decide +kernel
theorem dX4_leaf_83 : decode cX4_leaf 83 = .ok (.getfield 16, 3) := by decide +kernel
theorem dX4_leaf_86 : decode cX4_leaf 86 = .ok (.iload_n 1, 1) := by decide +kernel
theorem dX4_leaf_87 : decode cX4_leaf 87 = .ok (.aload_n 0, 1) := by decide +kernel
theorem dX4_leaf_88 : decode cX4_leaf 88 = .ok (.getfield 13, 3) := by decide +kernel
theorem dX4_leaf_91 : decode cX4_leaf 91 = .ok (.iload_n 1, 1) := by decide +kernel
theorem dX4_leaf_92 : decode cX4_leaf 92 = .ok (.iaload, 1) := by decide +kernel
theorem dX4_leaf_93 : decode cX4_leaf 93 = .ok (.aload_n 0, 1) := by decide +kernel
theorem dX4_leaf_94 : decode cX4_leaf 94 = .ok (.getfield 34, 3) := by decide +kernel
theorem dX4_leaf_97 : decode cX4_leaf 97 = .ok (.iconst 5, 1) := by decide +kernel
theorem dX4_leaf_98 : decode cX4_leaf 98 = .ok (.iload_n 1, 1) := by decide +kernel
theorem dX4_leaf_99 : decode cX4_leaf 99 = .ok (.imul, 1) := by decide +kernel
theorem dX4_leaf_100 : decode cX4_leaf 100 = .ok (.iconst 2, 1) := by decide +kernel
theorem dX4_leaf_101 : decode cX4_leaf 101 = .ok (.iadd, 1) := by decide +kernel
theorem dX4_leaf_102 : decode cX4_leaf 102 = .ok (.baload, 1) := by decide +kernel
theorem dX4_leaf_103 : decode cX4_leaf 103 = .ok (.bipush 48, 2) := by decide +kernel
theorem dX4_leaf_105 : decode cX4_leaf 105 = .ok (.isub, 1) := by decide +kernel
theorem dX4_leaf_106 : decode cX4_leaf 106 = .ok (.invokestatic 79, 3) := by decide +kernel
theorem dX4_leaf_109 : decode cX4_leaf 109 = .ok (.iastore, 1) := by decide +kernel
theorem dX4_leaf_110 : decode cX4_leaf 110 = .ok (.aload_n 0, 1) := by decide +kernel
theorem dX4_leaf_111 : decode cX4_leaf 111 = .ok (.getfield 19, 3) := by decide +kernel
theorem dX4_leaf_114 : decode cX4_leaf 114 = .ok (.iload_n 1, 1) := by decide +kernel
theorem dX4_leaf_115 : decode cX4_leaf 115 = .ok (.aload_n 0, 1) := by decide +kernel
theorem dX4_leaf_116 : decode cX4_leaf 116 = .ok (.getfield 34, 3) := by decide +kernel
theorem dX4_leaf_119 : decode cX4_leaf 119 = .ok (.iconst 5, 1) := by decide +kernel
theorem dX4_leaf_120 : decode cX4_leaf 120 = .ok (.iload_n 1, 1) := by decide +kernel
theorem dX4_leaf_121 : decode cX4_leaf 121 = .ok (.imul, 1) := by decide +kernel
theorem dX4_leaf_122 : decode cX4_leaf 122 = .ok (.iconst 3, 1) := by decide +kernel
theorem dX4_leaf_123 : decode cX4_leaf 123 = .ok (.iadd, 1) := by decide +kernel
theorem dX4_leaf_124 : decode cX4_leaf 124 = .ok (.baload, 1) := by decide +kernel
theorem dX4_leaf_125 : decode cX4_leaf 125 = .ok (.bipush 48, 2) := by decide +kernel
theorem dX4_leaf_127 : decode cX4_leaf 127 = .ok (.isub, 1) := by decide +kernel
theorem dX4_leaf_128 : decode cX4_leaf 128 = .ok (.iastore, 1) := by decide +kernel
theorem dX4_leaf_129 : decode cX4_leaf 129 = .ok (.iinc 1 1, 3) := by decide +kernel
theorem dX4_leaf_132 : decode cX4_leaf 132 = .ok (.goto (-94), 3) := by decide +kernel
theorem dX4_leaf_135 : decode cX4_leaf 135 = .ok (.iconst 0, 1) := by decide +kernel
theorem dX4_leaf_136 : decode cX4_leaf 136 = .ok (.istore_n 1, 1) := by decide +kernel
theorem dX4_leaf_137 : decode cX4_leaf 137 = .ok (.iload_n 1, 1) := by decide +kernel
theorem dX4_leaf_138 : decode cX4_leaf 138 = .ok (.bipush 10, 2) := by decide +kernel
theorem dX4_leaf_140 : decode cX4_leaf 140 = .ok (.if_icmp .ge 16, 3) := by decide +kernel
theorem dX4_leaf_143 : decode cX4_leaf 143 = .ok (.aload_n 0, 1) := by decide +kernel
theorem dX4_leaf_144 : decode cX4_leaf 144 = .ok (.getfield 22, 3) := by decide +kernel
theorem dX4_leaf_147 : decode cX4_leaf 147 = .ok (.iload_n 1, 1) := by decide +kernel
theorem dX4_leaf_148 : decode cX4_leaf 148 = .ok (.iconst 0, 1) := by decide +kernel
theorem dX4_leaf_149 : decode cX4_leaf 149 = .ok (.iastore, 1) := by decide +kernel
theorem dX4_leaf_150 : decode cX4_leaf 150 = .ok (.iinc 1 1, 3) := by decide +kernel
theorem dX4_leaf_153 : decode cX4_leaf 153 = .ok (.goto (-16), 3) := by decide +kernel
theorem dX4_leaf_156 : decode cX4_leaf 156 = .ok (.aload_n 0, 1) := by decide +kernel
theorem dX4_leaf_157 : decode cX4_leaf 157 = .ok (.dup, 1) := by decide +kernel
theorem dX4_leaf_158 : decode cX4_leaf 158 = .ok (.getfield 83, 3) := by decide +kernel
theorem dX4_leaf_161 : decode cX4_leaf 161 = .ok (.iconst 1, 1) := by decide +kernel
theorem dX4_leaf_162 : decode cX4_leaf 162 = .ok (.iadd, 1) := by decide +kernel
theorem dX4_leaf_163 : decode cX4_leaf 163 = .ok (.putfield 83, 3) := by decide +kernel
theorem dX4_leaf_166 : decode cX4_leaf 166 = .ok (.aload_n 0, 1) := by decide +kernel
theorem dX4_leaf_167 : decode cX4_leaf 167 = .ok (.iconst 0, 1) := by decide +kernel
theorem dX4_leaf_168 : decode cX4_leaf 168 = .ok (.putfield 86, 3) := by decide +kernel
theorem dX4_leaf_171 : decode cX4_leaf 171 = .ok (.aload_n 0, 1) := by decide +kernel
theorem dX4_leaf_172 : decode cX4_leaf 172 = .ok (.iconst 0, 1) := by decide +kernel
theorem dX4_leaf_173 : decode cX4_leaf 173 = .ok (.putfield 89, 3) := by decide +kernel
theorem dX4_leaf_176 : decode cX4_leaf 176 = .ok (.aload_n 0, 1) := by decide +kernel
theorem dX4_leaf_177 : decode cX4_leaf 177 = .ok (.iconst 0, 1) := by decide +kernel
theorem dX4_leaf_178 : decode cX4_leaf 178 = .ok (.putfield 92, 3) := by decide +kernel
theorem dX4_leaf_181 : decode cX4_leaf 181 = .ok (.aload_n 0, 1) := by decide +kernel
theorem dX4_leaf_182 : decode cX4_leaf 182 = .ok (.iconst 0, 1) := by decide +kernel
theorem dX4_leaf_183 : decode cX4_leaf 183 = .ok (.putfield 60, 3) := by decide +kernel
theorem dX4_leaf_186 : decode cX4_leaf 186 = .ok (.aload_n 0, 1) := by decide +kernel
theorem dX4_leaf_187 : decode cX4_leaf 187 = .ok (.getfield 76, 3) := by decide +kernel
theorem dX4_leaf_190 : decode cX4_leaf 190 = .ok (.ireturn, 1) := by decide +kernel
theorem dX4_isStroke_0 : decode cX4_isStroke 0 = .ok (.iload_n 1, 1) := by decide +kernel
theorem dX4_isStroke_1 : decode cX4_isStroke 1 = .ok (.iconst 0, 1) := by decide +kernel
theorem dX4_isStroke_2 : decode cX4_isStroke 2 = .ok (.aload_n 0, 1) := by decide +kernel
theorem dX4_isStroke_3 : decode cX4_isStroke 3 = .ok (.getfield 76, 3) := by decide +kernel
theorem dX4_isStroke_6 : decode cX4_isStroke 6 = .ok (.iconst 1, 1) := by decide +kernel
theorem dX4_isStroke_7 : decode cX4_isStroke 7 = .ok (.isub, 1) := by decide +kernel
theorem dX4_isStroke_8 : decode cX4_isStroke 8 = .ok (.invokestatic 56, 3) := by decide +kernel
theorem dX4_isStroke_11 : decode cX4_isStroke 11 = .ok (.ireturn, 1) := by decide +kernel
theorem dX4_isCell_0 : decode cX4_isCell 0 = .ok (.aload_n 0, 1) := by decide +kernel
theorem dX4_isCell_1 : decode cX4_isCell 1 = .ok (.getfield 76, 3) := by decide +kernel
theorem dX4_isCell_4 : decode cX4_isCell 4 = .ok (.ifCond .le 17, 3) := by decide +kernel
theorem dX4_isCell_7 : decode cX4_isCell 7 = .ok (.iload_n 1, 1) := by decide +kernel
theorem dX4_isCell_8 : decode cX4_isCell 8 = .ok (.iconst 0, 1) := by decide +kernel
theorem dX4_isCell_9 : decode cX4_isCell 9 = .ok (.bipush 9, 2) := by decide +kernel
theorem dX4_isCell_11 : decode cX4_isCell 11 = .ok (.invokestatic 56, 3) := by decide +kernel
theorem dX4_isCell_14 : decode cX4_isCell 14 = .ok (.ifCond .eq 7, 3) := by decide +kernel
theorem dX4_isCell_17 : decode cX4_isCell 17 = .ok (.iconst 1, 1) := by decide +kernel
theorem dX4_isCell_18 : decode cX4_isCell 18 = .ok (.goto 4, 3) := by decide +kernel
theorem dX4_isCell_21 : decode cX4_isCell 21 = .ok (.iconst 0, 1) := by decide +kernel
theorem dX4_isCell_22 : decode cX4_isCell 22 = .ok (.ireturn, 1) := by decide +kernel
theorem dX4_isMinute_0 : decode cX4_isMinute 0 = .ok (.iload_n 0, 1) := by decide +kernel
theorem dX4_isMinute_1 : decode cX4_isMinute 1 = .ok (.iconst 0, 1) := by decide +kernel
theorem dX4_isMinute_2 : decode cX4_isMinute 2 = .ok (.bipush 20, 2) := by decide +kernel
theorem dX4_isMinute_4 : decode cX4_isMinute 4 = .ok (.invokestatic 56, 3) := by decide +kernel
theorem dX4_isMinute_7 : decode cX4_isMinute 7 = .ok (.ireturn, 1) := by decide +kernel
theorem dX4_wetAt_0 : decode cX4_wetAt 0 = .ok (.iload_n 2, 1) := by decide +kernel
theorem dX4_wetAt_1 : decode cX4_wetAt 1 = .ok (.iload_n 1, 1) := by decide +kernel
theorem dX4_wetAt_2 : decode cX4_wetAt 2 = .ok (.isub, 1) := by decide +kernel
theorem dX4_wetAt_3 : decode cX4_wetAt 3 = .ok (.istore_n 3, 1) := by decide +kernel
theorem dX4_wetAt_4 : decode cX4_wetAt 4 = .ok (.iload_n 3, 1) := by decide +kernel
theorem dX4_wetAt_5 : decode cX4_wetAt 5 = .ok (.ifCond .lt 14, 3) := by decide +kernel
theorem dX4_wetAt_8 : decode cX4_wetAt 8 = .ok (.aload_n 0, 1) := by decide +kernel
theorem dX4_wetAt_9 : decode cX4_wetAt 9 = .ok (.getfield 86, 3) := by decide +kernel
theorem dX4_wetAt_12 : decode cX4_wetAt 12 = .ok (.iload_n 1, 1) := by decide +kernel
theorem dX4_wetAt_13 : decode cX4_wetAt 13 = .ok (.invokestatic 95, 3) := by decide +kernel
theorem dX4_wetAt_16 : decode cX4_wetAt 16 = .ok (.ifCond .eq 5, 3) := by decide +kernel
theorem dX4_wetAt_19 : decode cX4_wetAt 19 = .ok (.iconst 0, 1) := by decide +kernel
theorem dX4_wetAt_20 : decode cX4_wetAt 20 = .ok (.ireturn, 1) := by decide +kernel
theorem dX4_wetAt_21 : decode cX4_wetAt 21 = .ok (.aload_n 0, 1) := by decide +kernel
theorem dX4_wetAt_22 : decode cX4_wetAt 22 = .ok (.getfield 19, 3) := by decide +kernel
theorem dX4_wetAt_25 : decode cX4_wetAt 25 = .ok (.iload_n 1, 1) := by decide +kernel
theorem dX4_wetAt_26 : decode cX4_wetAt 26 = .ok (.iaload, 1) := by decide +kernel
theorem dX4_wetAt_27 : decode cX4_wetAt 27 = .ok (.istore 4, 2) := by decide +kernel
theorem dX4_wetAt_29 : decode cX4_wetAt 29 = .ok (.aload_n 0, 1) := by decide +kernel
theorem dX4_wetAt_30 : decode cX4_wetAt 30 = .ok (.getfield 7, 3) := by decide +kernel
theorem dX4_wetAt_33 : decode cX4_wetAt 33 = .ok (.iload_n 1, 1) := by decide +kernel
theorem dX4_wetAt_34 : decode cX4_wetAt 34 = .ok (.iaload, 1) := by decide +kernel
theorem dX4_wetAt_35 : decode cX4_wetAt 35 = .ok (.tableswitch 58 2 4 #[25, 36, 47], 25) := by decide +kernel
theorem dX4_wetAt_60 : decode cX4_wetAt 60 = .ok (.iload 4, 2) := by decide +kernel
theorem dX4_wetAt_62 : decode cX4_wetAt 62 = .ok (.iload_n 3, 1) := by decide +kernel
theorem dX4_wetAt_63 : decode cX4_wetAt 63 = .ok (.iconst 2, 1) := by decide +kernel
theorem dX4_wetAt_64 : decode cX4_wetAt 64 = .ok (.idiv, 1) := by decide +kernel
theorem dX4_wetAt_65 : decode cX4_wetAt 65 = .ok (.isub, 1) := by decide +kernel
theorem dX4_wetAt_66 : decode cX4_wetAt 66 = .ok (.istore 4, 2) := by decide +kernel
theorem dX4_wetAt_68 : decode cX4_wetAt 68 = .ok (.goto 31, 3) := by decide +kernel
theorem dX4_wetAt_71 : decode cX4_wetAt 71 = .ok (.iload 4, 2) := by decide +kernel
theorem dX4_wetAt_73 : decode cX4_wetAt 73 = .ok (.iconst 3, 1) := by decide +kernel
theorem dX4_wetAt_74 : decode cX4_wetAt 74 = .ok (.iload_n 3, 1) := by decide +kernel
theorem dX4_wetAt_75 : decode cX4_wetAt 75 = .ok (.imul, 1) := by decide +kernel
theorem dX4_wetAt_76 : decode cX4_wetAt 76 = .ok (.isub, 1) := by decide +kernel
theorem dX4_wetAt_77 : decode cX4_wetAt 77 = .ok (.istore 4, 2) := by decide +kernel
theorem dX4_wetAt_79 : decode cX4_wetAt 79 = .ok (.goto 20, 3) := by decide +kernel
theorem dX4_wetAt_82 : decode cX4_wetAt 82 = .ok (.iload 4, 2) := by decide +kernel
theorem dX4_wetAt_84 : decode cX4_wetAt 84 = .ok (.iconst 3, 1) := by decide +kernel
theorem dX4_wetAt_85 : decode cX4_wetAt 85 = .ok (.iload_n 3, 1) := by decide +kernel
theorem dX4_wetAt_86 : decode cX4_wetAt 86 = .ok (.isub, 1) := by decide +kernel
theorem dX4_wetAt_87 : decode cX4_wetAt 87 = .ok (.iadd, 1) := by decide +kernel
theorem dX4_wetAt_88 : decode cX4_wetAt 88 = .ok (.istore 4, 2) := by decide +kernel
theorem dX4_wetAt_90 : decode cX4_wetAt 90 = .ok (.goto 9, 3) := by decide +kernel
theorem dX4_wetAt_93 : decode cX4_wetAt 93 = .ok (.iload 4, 2) := by decide +kernel
theorem dX4_wetAt_95 : decode cX4_wetAt 95 = .ok (.iload_n 3, 1) := by decide +kernel
theorem dX4_wetAt_96 : decode cX4_wetAt 96 = .ok (.isub, 1) := by decide +kernel
theorem dX4_wetAt_97 : decode cX4_wetAt 97 = .ok (.istore 4, 2) := by decide +kernel
theorem dX4_wetAt_99 : decode cX4_wetAt 99 = .ok (.iload 4, 2) := by decide +kernel
theorem dX4_wetAt_101 : decode cX4_wetAt 101 = .ok (.ifCond .ge 7, 3) := by decide +kernel
theorem dX4_wetAt_104 : decode cX4_wetAt 104 = .ok (.iconst 0, 1) := by decide +kernel
theorem dX4_wetAt_105 : decode cX4_wetAt 105 = .ok (.goto 5, 3) := by decide +kernel
theorem dX4_wetAt_108 : decode cX4_wetAt 108 = .ok (.iload 4, 2) := by decide +kernel
theorem dX4_wetAt_110 : decode cX4_wetAt 110 = .ok (.ireturn, 1) := by decide +kernel
theorem dX4_comesOf_0 : decode cX4_comesOf 0 = .ok (.aload_n 0, 1) := by decide +kernel
theorem dX4_comesOf_1 : decode cX4_comesOf 1 = .ok (.getfield 13, 3) := by decide +kernel
theorem dX4_comesOf_4 : decode cX4_comesOf 4 = .ok (.iload_n 1, 1) := by decide +kernel
theorem dX4_comesOf_5 : decode cX4_comesOf 5 = .ok (.iaload, 1) := by decide +kernel
theorem dX4_comesOf_6 : decode cX4_comesOf 6 = .ok (.istore 4, 2) := by decide +kernel
theorem dX4_comesOf_8 : decode cX4_comesOf 8 = .ok (.iload 4, 2) := by decide +kernel
theorem dX4_comesOf_10 : decode cX4_comesOf 10 = .ok (.aload_n 0, 1) := by decide +kernel
theorem dX4_comesOf_11 : decode cX4_comesOf 11 = .ok (.getfield 16, 3) := by decide +kernel
theorem dX4_comesOf_14 : decode cX4_comesOf 14 = .ok (.iload_n 1, 1) := by decide +kernel
theorem dX4_comesOf_15 : decode cX4_comesOf 15 = .ok (.iaload, 1) := by decide +kernel
theorem dX4_comesOf_16 : decode cX4_comesOf 16 = .ok (.iadd, 1) := by decide +kernel
theorem dX4_comesOf_17 : decode cX4_comesOf 17 = .ok (.istore 5, 2) := by decide +kernel
theorem dX4_comesOf_19 : decode cX4_comesOf 19 = .ok (.aload_n 0, 1) := by decide +kernel
theorem dX4_comesOf_20 : decode cX4_comesOf 20 = .ok (.iload_n 1, 1) := by decide +kernel
theorem dX4_comesOf_21 : decode cX4_comesOf 21 = .ok (.iload_n 3, 1) := by decide +kernel
theorem dX4_comesOf_22 : decode cX4_comesOf 22 = .ok (.invokevirtual 99, 3) := by decide +kernel
theorem dX4_comesOf_25 : decode cX4_comesOf 25 = .ok (.istore 6, 2) := by decide +kernel
theorem dX4_comesOf_27 : decode cX4_comesOf 27 = .ok (.aload_n 0, 1) := by decide +kernel
theorem dX4_comesOf_28 : decode cX4_comesOf 28 = .ok (.getfield 7, 3) := by decide +kernel
theorem dX4_comesOf_31 : decode cX4_comesOf 31 = .ok (.iload_n 1, 1) := by decide +kernel
theorem dX4_comesOf_32 : decode cX4_comesOf 32 = .ok (.iaload, 1) := by decide +kernel
theorem dX4_comesOf_33 : decode cX4_comesOf 33 = .ok (.iconst 1, 1) := by decide +kernel
theorem dX4_comesOf_34 : decode cX4_comesOf 34 = .ok (.if_icmp .eq 13, 3) := by decide +kernel
theorem dX4_comesOf_37 : decode cX4_comesOf 37 = .ok (.aload_n 0, 1) := by decide +kernel
theorem dX4_comesOf_38 : decode cX4_comesOf 38 = .ok (.getfield 7, 3) := by decide +kernel
theorem dX4_comesOf_41 : decode cX4_comesOf 41 = .ok (.iload_n 1, 1) := by decide +kernel
theorem dX4_comesOf_42 : decode cX4_comesOf 42 = .ok (.iaload, 1) := by decide +kernel
theorem dX4_comesOf_43 : decode cX4_comesOf 43 = .ok (.iconst 4, 1) := by decide +kernel
theorem dX4_comesOf_44 : decode cX4_comesOf 44 = .ok (.if_icmp .ne 7, 3) := by decide +kernel
theorem dX4_comesOf_47 : decode cX4_comesOf 47 = .ok (.iconst 1, 1) := by decide +kernel
theorem dX4_comesOf_48 : decode cX4_comesOf 48 = .ok (.goto 4, 3) := by decide +kernel
theorem dX4_comesOf_51 : decode cX4_comesOf 51 = .ok (.iconst 0, 1) := by decide +kernel
theorem dX4_comesOf_52 : decode cX4_comesOf 52 = .ok (.istore 7, 2) := by decide +kernel
theorem dX4_comesOf_54 : decode cX4_comesOf 54 = .ok (.iload_n 2, 1) := by decide +kernel
theorem dX4_comesOf_55 : decode cX4_comesOf 55 = .ok (.iload 4, 2) := by decide +kernel
theorem dX4_comesOf_57 : decode cX4_comesOf 57 = .ok (.iload 5, 2) := by decide +kernel
theorem dX4_comesOf_59 : decode cX4_comesOf 59 = .ok (.iconst 1, 1) := by decide +kernel
theorem dX4_comesOf_60 : decode cX4_comesOf 60 = .ok (.isub, 1) := by decide +kernel
theorem dX4_comesOf_61 : decode cX4_comesOf 61 = .ok (.invokestatic 56, 3) := by decide +kernel
theorem dX4_comesOf_64 : decode cX4_comesOf 64 = .ok (.ifCond .eq 8, 3) := by decide +kernel
theorem dX4_comesOf_67 : decode cX4_comesOf 67 = .ok (.iload 6, 2) := by decide +kernel
theorem dX4_comesOf_69 : decode cX4_comesOf 69 = .ok (.goto 30, 3) := by decide +kernel
theorem dX4_comesOf_72 : decode cX4_comesOf 72 = .ok (.iload 7, 2) := by decide +kernel
theorem dX4_comesOf_74 : decode cX4_comesOf 74 = .ok (.ifCond .eq 24, 3) := by decide +kernel
theorem dX4_comesOf_77 : decode cX4_comesOf 77 = .ok (.iload_n 2, 1) := by decide +kernel
theorem dX4_comesOf_78 : decode cX4_comesOf 78 = .ok (.iload 4, 2) := by decide +kernel
theorem dX4_comesOf_80 : decode cX4_comesOf 80 = .ok (.iconst 1, 1) := by decide +kernel
theorem dX4_comesOf_81 : decode cX4_comesOf 81 = .ok (.isub, 1) := by decide +kernel
theorem dX4_comesOf_82 : decode cX4_comesOf 82 = .ok (.if_icmp .eq 9, 3) := by decide +kernel
theorem dX4_comesOf_85 : decode cX4_comesOf 85 = .ok (.iload_n 2, 1) := by decide +kernel
theorem dX4_comesOf_86 : decode cX4_comesOf 86 = .ok (.iload 5, 2) := by decide +kernel
theorem dX4_comesOf_88 : decode cX4_comesOf 88 = .ok (.if_icmp .ne 10, 3) := by decide +kernel
theorem dX4_comesOf_91 : decode cX4_comesOf 91 = .ok (.iload 6, 2) := by decide +kernel
theorem dX4_comesOf_93 : decode cX4_comesOf 93 = .ok (.iconst 2, 1) := by decide +kernel
theorem dX4_comesOf_94 : decode cX4_comesOf 94 = .ok (.idiv, 1) := by decide +kernel
theorem dX4_comesOf_95 : decode cX4_comesOf 95 = .ok (.goto 4, 3) := by decide +kernel
theorem dX4_comesOf_98 : decode cX4_comesOf 98 = .ok (.iconst 0, 1) := by decide +kernel
theorem dX4_comesOf_99 : decode cX4_comesOf 99 = .ok (.ireturn, 1) := by decide +kernel
theorem dX4_comesTo_0 : decode cX4_comesTo 0 = .ok (.iconst 0, 1) := by decide +kernel
theorem dX4_comesTo_1 : decode cX4_comesTo 1 = .ok (.istore_n 3, 1) := by decide +kernel
theorem dX4_comesTo_2 : decode cX4_comesTo 2 = .ok (.iconst 0, 1) := by decide +kernel
theorem dX4_comesTo_3 : decode cX4_comesTo 3 = .ok (.istore 4, 2) := by decide +kernel
theorem dX4_comesTo_5 : decode cX4_comesTo 5 = .ok (.iload 4, 2) := by decide +kernel
theorem dX4_comesTo_7 : decode cX4_comesTo 7 = .ok (.aload_n 0, 1) := by decide +kernel
theorem dX4_comesTo_8 : decode cX4_comesTo 8 = .ok (.getfield 76, 3) := by decide +kernel
theorem dX4_comesTo_11 : decode cX4_comesTo 11 = .ok (.if_icmp .ge 23, 3) := by decide +kernel
theorem dX4_comesTo_14 : decode cX4_comesTo 14 = .ok (.iload_n 3, 1) := by decide +kernel
theorem dX4_comesTo_15 : decode cX4_comesTo 15 = .ok (.aload_n 0, 1) := by decide +kernel
theorem dX4_comesTo_16 : decode cX4_comesTo 16 = .ok (.iload 4, 2) := by decide +kernel
theorem dX4_comesTo_18 : decode cX4_comesTo 18 = .ok (.bipush 9, 2) := by decide +kernel
theorem dX4_comesTo_20 : decode cX4_comesTo 20 = .ok (.iload_n 1, 1) := by decide +kernel
theorem dX4_comesTo_21 : decode cX4_comesTo 21 = .ok (.isub, 1) := by decide +kernel
theorem dX4_comesTo_22 : decode cX4_comesTo 22 = .ok (.iload_n 2, 1) := by decide +kernel
theorem dX4_comesTo_23 : decode cX4_comesTo 23 = .ok (.invokevirtual 102, 3) := by decide +kernel
theorem dX4_comesTo_26 : decode cX4_comesTo 26 = .ok (.iadd, 1) := by decide +kernel
theorem dX4_comesTo_27 : decode cX4_comesTo 27 = .ok (.istore_n 3, 1) := by decide +kernel
theorem dX4_comesTo_28 : decode cX4_comesTo 28 = .ok (.iinc 4 1, 3) := by decide +kernel
theorem dX4_comesTo_31 : decode cX4_comesTo 31 = .ok (.goto (-26), 3) := by decide +kernel
theorem dX4_comesTo_34 : decode cX4_comesTo 34 = .ok (.iload_n 3, 1) := by decide +kernel
theorem dX4_comesTo_35 : decode cX4_comesTo 35 = .ok (.ireturn, 1) := by decide +kernel
theorem dX4_strokeNow_0 : decode cX4_strokeNow 0 = .ok (.iload_n 2, 1) := by decide +kernel
theorem dX4_strokeNow_1 : decode cX4_strokeNow 1 = .ok (.tableswitch 72 0 4 #[35, 42, 49, 56, 63], 35) := by decide +kernel
theorem dX4_strokeNow_36 : decode cX4_strokeNow 36 = .ok (.aload_n 0, 1) := by decide +kernel
theorem dX4_strokeNow_37 : decode cX4_strokeNow 37 = .ok (.getfield 7, 3) := by decide +kernel
theorem dX4_strokeNow_40 : decode cX4_strokeNow 40 = .ok (.iload_n 1, 1) := by decide +kernel
theorem dX4_strokeNow_41 : decode cX4_strokeNow 41 = .ok (.iaload, 1) := by decide +kernel
theorem dX4_strokeNow_42 : decode cX4_strokeNow 42 = .ok (.ireturn, 1) := by decide +kernel
theorem dX4_strokeNow_43 : decode cX4_strokeNow 43 = .ok (.aload_n 0, 1) := by decide +kernel
theorem dX4_strokeNow_44 : decode cX4_strokeNow 44 = .ok (.getfield 13, 3) := by decide +kernel
theorem dX4_strokeNow_47 : decode cX4_strokeNow 47 = .ok (.iload_n 1, 1) := by decide +kernel
theorem dX4_strokeNow_48 : decode cX4_strokeNow 48 = .ok (.iaload, 1) := by decide +kernel
theorem dX4_strokeNow_49 : decode cX4_strokeNow 49 = .ok (.ireturn, 1) := by decide +kernel
theorem dX4_strokeNow_50 : decode cX4_strokeNow 50 = .ok (.aload_n 0, 1) := by decide +kernel
theorem dX4_strokeNow_51 : decode cX4_strokeNow 51 = .ok (.getfield 16, 3) := by decide +kernel
theorem dX4_strokeNow_54 : decode cX4_strokeNow 54 = .ok (.iload_n 1, 1) := by decide +kernel
theorem dX4_strokeNow_55 : decode cX4_strokeNow 55 = .ok (.iaload, 1) := by decide +kernel
theorem dX4_strokeNow_56 : decode cX4_strokeNow 56 = .ok (.ireturn, 1) := by decide +kernel
theorem dX4_strokeNow_57 : decode cX4_strokeNow 57 = .ok (.aload_n 0, 1) := by decide +kernel
theorem dX4_strokeNow_58 : decode cX4_strokeNow 58 = .ok (.getfield 19, 3) := by decide +kernel
theorem dX4_strokeNow_61 : decode cX4_strokeNow 61 = .ok (.iload_n 1, 1) := by decide +kernel
theorem dX4_strokeNow_62 : decode cX4_strokeNow 62 = .ok (.iaload, 1) := by decide +kernel
theorem dX4_strokeNow_63 : decode cX4_strokeNow 63 = .ok (.ireturn, 1) := by decide +kernel
theorem dX4_strokeNow_64 : decode cX4_strokeNow 64 = .ok (.aload_n 0, 1) := by decide +kernel
theorem dX4_strokeNow_65 : decode cX4_strokeNow 65 = .ok (.getfield 86, 3) := by decide +kernel
theorem dX4_strokeNow_68 : decode cX4_strokeNow 68 = .ok (.iload_n 1, 1) := by decide +kernel
theorem dX4_strokeNow_69 : decode cX4_strokeNow 69 = .ok (.ishr, 1) := by decide +kernel
theorem dX4_strokeNow_70 : decode cX4_strokeNow 70 = .ok (.iconst 1, 1) := by decide +kernel
theorem dX4_strokeNow_71 : decode cX4_strokeNow 71 = .ok (.iand, 1) := by decide +kernel
theorem dX4_strokeNow_72 : decode cX4_strokeNow 72 = .ok (.ireturn, 1) := by decide +kernel
theorem dX4_strokeNow_73 : decode cX4_strokeNow 73 = .ok (.aload_n 0, 1) := by decide +kernel
theorem dX4_strokeNow_74 : decode cX4_strokeNow 74 = .ok (.iload_n 1, 1) := by decide +kernel
theorem dX4_strokeNow_75 : decode cX4_strokeNow 75 = .ok (.invokevirtual 106, 3) := by decide +kernel
theorem dX4_strokeNow_78 : decode cX4_strokeNow 78 = .ok (.ireturn, 1) := by decide +kernel
theorem dX4_about_0 : decode cX4_about 0 = .ok (.aload_n 0, 1) := by decide +kernel
theorem dX4_about_1 : decode cX4_about 1 = .ok (.iload_n 1, 1) := by decide +kernel
theorem dX4_about_2 : decode cX4_about 2 = .ok (.invokevirtual 109, 3) := by decide +kernel
theorem dX4_about_5 : decode cX4_about 5 = .ok (.ifCond .ne 8, 3) := by decide +kernel
theorem dX4_about_8 : decode cX4_about 8 = .ok (.bipush (-101), 2) := by decide +kernel
theorem dX4_about_10 : decode cX4_about 10 = .ok (.goto 23, 3) := by decide +kernel
theorem dX4_about_13 : decode cX4_about 13 = .ok (.iload_n 2, 1) := by decide +kernel
theorem dX4_about_14 : decode cX4_about 14 = .ok (.iconst 0, 1) := by decide +kernel
theorem dX4_about_15 : decode cX4_about 15 = .ok (.iconst 5, 1) := by decide +kernel
theorem dX4_about_16 : decode cX4_about 16 = .ok (.invokestatic 56, 3) := by decide +kernel
theorem dX4_about_19 : decode cX4_about 19 = .ok (.ifCond .eq 12, 3) := by decide +kernel
theorem dX4_about_22 : decode cX4_about 22 = .ok (.aload_n 0, 1) := by decide +kernel
theorem dX4_about_23 : decode cX4_about 23 = .ok (.iload_n 1, 1) := by decide +kernel
theorem dX4_about_24 : decode cX4_about 24 = .ok (.iload_n 2, 1) := by decide +kernel
theorem dX4_about_25 : decode cX4_about 25 = .ok (.invokevirtual 112, 3) := by decide +kernel
theorem dX4_about_28 : decode cX4_about 28 = .ok (.goto 5, 3) := by decide +kernel
theorem dX4_about_31 : decode cX4_about 31 = .ok (.bipush (-102), 2) := by decide +kernel
theorem dX4_about_33 : decode cX4_about 33 = .ok (.ireturn, 1) := by decide +kernel
theorem dX4_as_0 : decode cX4_as 0 = .ok (.aload_n 0, 1) := by decide +kernel
theorem dX4_as_1 : decode cX4_as 1 = .ok (.iload_n 1, 1) := by decide +kernel
theorem dX4_as_2 : decode cX4_as 2 = .ok (.invokevirtual 109, 3) := by decide +kernel
theorem dX4_as_5 : decode cX4_as 5 = .ok (.ifCond .ne 6, 3) := by decide +kernel
theorem dX4_as_8 : decode cX4_as 8 = .ok (.bipush (-101), 2) := by decide +kernel
theorem dX4_as_10 : decode cX4_as 10 = .ok (.ireturn, 1) := by decide +kernel
theorem dX4_as_11 : decode cX4_as 11 = .ok (.iload_n 2, 1) := by decide +kernel
theorem dX4_as_12 : decode cX4_as 12 = .ok (.iconst 0, 1) := by decide +kernel
theorem dX4_as_13 : decode cX4_as 13 = .ok (.iconst 4, 1) := by decide +kernel
theorem dX4_as_14 : decode cX4_as 14 = .ok (.invokestatic 56, 3) := by decide +kernel
theorem dX4_as_17 : decode cX4_as 17 = .ok (.ifCond .ne 6, 3) := by decide +kernel
theorem dX4_as_20 : decode cX4_as 20 = .ok (.bipush (-102), 2) := by decide +kernel
theorem dX4_as_22 : decode cX4_as 22 = .ok (.ireturn, 1) := by decide +kernel
theorem dX4_as_23 : decode cX4_as 23 = .ok (.aload_n 0, 1) := by decide +kernel
theorem dX4_as_24 : decode cX4_as 24 = .ok (.getfield 7, 3) := by decide +kernel
theorem dX4_as_27 : decode cX4_as 27 = .ok (.iload_n 1, 1) := by decide +kernel
theorem dX4_as_28 : decode cX4_as 28 = .ok (.iaload, 1) := by decide +kernel
theorem dX4_as_29 : decode cX4_as 29 = .ok (.istore_n 3, 1) := by decide +kernel
theorem dX4_as_30 : decode cX4_as 30 = .ok (.iload_n 2, 1) := by decide +kernel
theorem dX4_as_31 : decode cX4_as 31 = .ok (.ifCond .eq 18, 3) := by decide +kernel
theorem dX4_as_34 : decode cX4_as 34 = .ok (.iload_n 3, 1) := by decide +kernel
theorem dX4_as_35 : decode cX4_as 35 = .ok (.iload_n 2, 1) := by decide +kernel
theorem dX4_as_36 : decode cX4_as 36 = .ok (.if_icmp .eq 13, 3) := by decide +kernel
theorem dX4_as_39 : decode cX4_as 39 = .ok (.iload_n 2, 1) := by decide +kernel
theorem dX4_as_40 : decode cX4_as 40 = .ok (.iconst 1, 1) := by decide +kernel
theorem dX4_as_41 : decode cX4_as 41 = .ok (.if_icmp .ne 12, 3) := by decide +kernel
theorem dX4_as_44 : decode cX4_as 44 = .ok (.iload_n 3, 1) := by decide +kernel
theorem dX4_as_45 : decode cX4_as 45 = .ok (.iconst 4, 1) := by decide +kernel
theorem dX4_as_46 : decode cX4_as 46 = .ok (.if_icmp .ne 7, 3) := by decide +kernel
theorem dX4_as_49 : decode cX4_as 49 = .ok (.iload_n 1, 1) := by decide +kernel
theorem dX4_as_50 : decode cX4_as 50 = .ok (.goto 4, 3) := by decide +kernel
theorem dX4_as_53 : decode cX4_as 53 = .ok (.iconst (-1), 1) := by decide +kernel
theorem dX4_as_54 : decode cX4_as 54 = .ok (.ireturn, 1) := by decide +kernel
theorem dX4_write_0 : decode cX4_write 0 = .ok (.iload_n 1, 1) := by decide +kernel
theorem dX4_write_1 : decode cX4_write 1 = .ok (.iconst 0, 1) := by decide +kernel
theorem dX4_write_2 : decode cX4_write 2 = .ok (.iconst 4, 1) := by decide +kernel
theorem dX4_write_3 : decode cX4_write 3 = .ok (.invokestatic 56, 3) := by decide +kernel
theorem dX4_write_6 : decode cX4_write 6 = .ok (.ifCond .eq 33, 3) := by decide +kernel
theorem dX4_write_9 : decode cX4_write 9 = .ok (.iload_n 2, 1) := by decide +kernel
theorem dX4_write_10 : decode cX4_write 10 = .ok (.iconst 0, 1) := by decide +kernel
theorem dX4_write_11 : decode cX4_write 11 = .ok (.bipush 9, 2) := by decide +kernel
theorem dX4_write_13 : decode cX4_write 13 = .ok (.invokestatic 56, 3) := by decide +kernel
theorem dX4_write_16 : decode cX4_write 16 = .ok (.ifCond .eq 23, 3) := by decide +kernel
theorem dX4_write_19 : decode cX4_write 19 = .ok (.iload_n 3, 1) := by decide +kernel
theorem dX4_write_20 : decode cX4_write 20 = .ok (.iconst 1, 1) := by decide +kernel
theorem dX4_write_21 : decode cX4_write 21 = .ok (.iconst 5, 1) := by decide +kernel
theorem dX4_write_22 : decode cX4_write 22 = .ok (.invokestatic 56, 3) := by decide +kernel
theorem dX4_write_25 : decode cX4_write 25 = .ok (.ifCond .eq 14, 3) := by decide +kernel
theorem dX4_write_28 : decode cX4_write 28 = .ok (.iload 4, 2) := by decide +kernel
theorem dX4_write_30 : decode cX4_write 30 = .ok (.iconst 1, 1) := by decide +kernel
theorem dX4_write_31 : decode cX4_write 31 = .ok (.bipush 9, 2) := by decide +kernel
theorem dX4_write_33 : decode cX4_write 33 = .ok (.invokestatic 56, 3) := by decide +kernel
theorem dX4_write_36 : decode cX4_write 36 = .ok (.ifCond .ne 6, 3) := by decide +kernel
theorem dX4_write_39 : decode cX4_write 39 = .ok (.bipush (-102), 2) := by decide +kernel
theorem dX4_write_41 : decode cX4_write 41 = .ok (.ireturn, 1) := by decide +kernel
theorem dX4_write_42 : decode cX4_write 42 = .ok (.aload_n 0, 1) := by decide +kernel
theorem dX4_write_43 : decode cX4_write 43 = .ok (.getfield 76, 3) := by decide +kernel
theorem dX4_write_46 : decode cX4_write 46 = .ok (.ifCond .ne 6, 3) := by decide +kernel
theorem dX4_write_49 : decode cX4_write 49 = .ok (.bipush (-103), 2) := by decide +kernel
theorem dX4_write_51 : decode cX4_write 51 = .ok (.ireturn, 1) := by decide +kernel
theorem dX4_write_52 : decode cX4_write 52 = .ok (.aload_n 0, 1) := by decide +kernel
theorem dX4_write_53 : decode cX4_write 53 = .ok (.getfield 76, 3) := by decide +kernel
theorem dX4_write_56 : decode cX4_write 56 = .ok (.bipush 6, 2) := by decide +kernel
theorem dX4_write_58 : decode cX4_write 58 = .ok (.if_icmp .ne 6, 3) := by decide +kernel
theorem dX4_write_61 : decode cX4_write 61 = .ok (.bipush (-104), 2) := by decide +kernel
theorem dX4_write_63 : decode cX4_write 63 = .ok (.ireturn, 1) := by decide +kernel
theorem dX4_write_64 : decode cX4_write 64 = .ok (.aload_n 0, 1) := by decide +kernel
theorem dX4_write_65 : decode cX4_write 65 = .ok (.getfield 7, 3) := by decide +kernel
theorem dX4_write_68 : decode cX4_write 68 = .ok (.aload_n 0, 1) := by decide +kernel
theorem dX4_write_69 : decode cX4_write 69 = .ok (.getfield 76, 3) := by decide +kernel
theorem dX4_write_72 : decode cX4_write 72 = .ok (.iload_n 1, 1) := by decide +kernel
theorem dX4_write_73 : decode cX4_write 73 = .ok (.iastore, 1) := by decide +kernel
theorem dX4_write_74 : decode cX4_write 74 = .ok (.aload_n 0, 1) := by decide +kernel
theorem dX4_write_75 : decode cX4_write 75 = .ok (.getfield 13, 3) := by decide +kernel
theorem dX4_write_78 : decode cX4_write 78 = .ok (.aload_n 0, 1) := by decide +kernel
theorem dX4_write_79 : decode cX4_write 79 = .ok (.getfield 76, 3) := by decide +kernel
theorem dX4_write_82 : decode cX4_write 82 = .ok (.iload_n 2, 1) := by decide +kernel
theorem dX4_write_83 : decode cX4_write 83 = .ok (.iastore, 1) := by decide +kernel
theorem dX4_write_84 : decode cX4_write 84 = .ok (.aload_n 0, 1) := by decide +kernel
theorem dX4_write_85 : decode cX4_write 85 = .ok (.getfield 16, 3) := by decide +kernel
theorem dX4_write_88 : decode cX4_write 88 = .ok (.aload_n 0, 1) := by decide +kernel
theorem dX4_write_89 : decode cX4_write 89 = .ok (.getfield 76, 3) := by decide +kernel
theorem dX4_write_92 : decode cX4_write 92 = .ok (.iload_n 2, 1) := by decide +kernel
theorem dX4_write_93 : decode cX4_write 93 = .ok (.iload_n 3, 1) := by decide +kernel
theorem dX4_write_94 : decode cX4_write 94 = .ok (.invokestatic 79, 3) := by decide +kernel
theorem dX4_write_97 : decode cX4_write 97 = .ok (.iastore, 1) := by decide +kernel
theorem dX4_write_98 : decode cX4_write 98 = .ok (.aload_n 0, 1) := by decide +kernel
theorem dX4_write_99 : decode cX4_write 99 = .ok (.getfield 19, 3) := by decide +kernel
theorem dX4_write_102 : decode cX4_write 102 = .ok (.aload_n 0, 1) := by decide +kernel
theorem dX4_write_103 : decode cX4_write 103 = .ok (.getfield 76, 3) := by decide +kernel
theorem dX4_write_106 : decode cX4_write 106 = .ok (.iload 4, 2) := by decide +kernel
theorem dX4_write_108 : decode cX4_write 108 = .ok (.iastore, 1) := by decide +kernel
theorem dX4_write_109 : decode cX4_write 109 = .ok (.aload_n 0, 1) := by decide +kernel
theorem dX4_write_110 : decode cX4_write 110 = .ok (.dup, 1) := by decide +kernel
theorem dX4_write_111 : decode cX4_write 111 = .ok (.getfield 86, 3) := by decide +kernel
theorem dX4_write_114 : decode cX4_write 114 = .ok (.iconst 1, 1) := by decide +kernel
theorem dX4_write_115 : decode cX4_write 115 = .ok (.aload_n 0, 1) := by decide +kernel
theorem dX4_write_116 : decode cX4_write 116 = .ok (.getfield 76, 3) := by decide +kernel
theorem dX4_write_119 : decode cX4_write 119 = .ok (.ishl, 1) := by decide +kernel
theorem dX4_write_120 : decode cX4_write 120 = .ok (.iconst (-1), 1) := by decide +kernel
theorem dX4_write_121 : decode cX4_write 121 = .ok (.ixor, 1) := by decide +kernel
theorem dX4_write_122 : decode cX4_write 122 = .ok (.iand, 1) := by decide +kernel
theorem dX4_write_123 : decode cX4_write 123 = .ok (.putfield 86, 3) := by decide +kernel
theorem dX4_write_126 : decode cX4_write 126 = .ok (.aload_n 0, 1) := by decide +kernel
theorem dX4_write_127 : decode cX4_write 127 = .ok (.dup, 1) := by decide +kernel
theorem dX4_write_128 : decode cX4_write 128 = .ok (.getfield 76, 3) := by decide +kernel
theorem dX4_write_131 : decode cX4_write 131 = .ok (.iconst 1, 1) := by decide +kernel
theorem dX4_write_132 : decode cX4_write 132 = .ok (.iadd, 1) := by decide +kernel
theorem dX4_write_133 : decode cX4_write 133 = .ok (.putfield 76, 3) := by decide +kernel
theorem dX4_write_136 : decode cX4_write 136 = .ok (.aload_n 0, 1) := by decide +kernel
theorem dX4_write_137 : decode cX4_write 137 = .ok (.getfield 76, 3) := by decide +kernel
theorem dX4_write_140 : decode cX4_write 140 = .ok (.iconst 1, 1) := by decide +kernel
theorem dX4_write_141 : decode cX4_write 141 = .ok (.isub, 1) := by decide +kernel
theorem dX4_write_142 : decode cX4_write 142 = .ok (.ireturn, 1) := by decide +kernel
theorem dX4_sand_0 : decode cX4_sand 0 = .ok (.aload_n 0, 1) := by decide +kernel
theorem dX4_sand_1 : decode cX4_sand 1 = .ok (.iload_n 1, 1) := by decide +kernel
theorem dX4_sand_2 : decode cX4_sand 2 = .ok (.invokevirtual 109, 3) := by decide +kernel
theorem dX4_sand_5 : decode cX4_sand 5 = .ok (.ifCond .ne 6, 3) := by decide +kernel
theorem dX4_sand_8 : decode cX4_sand 8 = .ok (.bipush (-101), 2) := by decide +kernel
theorem dX4_sand_10 : decode cX4_sand 10 = .ok (.ireturn, 1) := by decide +kernel
theorem dX4_sand_11 : decode cX4_sand 11 = .ok (.aload_n 0, 1) := by decide +kernel
theorem dX4_sand_12 : decode cX4_sand 12 = .ok (.getfield 86, 3) := by decide +kernel
theorem dX4_sand_15 : decode cX4_sand 15 = .ok (.iload_n 1, 1) := by decide +kernel
theorem dX4_sand_16 : decode cX4_sand 16 = .ok (.ishr, 1) := by decide +kernel
theorem dX4_sand_17 : decode cX4_sand 17 = .ok (.iconst 1, 1) := by decide +kernel
theorem dX4_sand_18 : decode cX4_sand 18 = .ok (.iand, 1) := by decide +kernel
theorem dX4_sand_19 : decode cX4_sand 19 = .ok (.istore_n 3, 1) := by decide +kernel
theorem dX4_sand_20 : decode cX4_sand 20 = .ok (.aload_n 0, 1) := by decide +kernel
theorem dX4_sand_21 : decode cX4_sand 21 = .ok (.iload_n 2, 1) := by decide +kernel
theorem dX4_sand_22 : decode cX4_sand 22 = .ok (.ifCond .eq 14, 3) := by decide +kernel
theorem dX4_sand_25 : decode cX4_sand 25 = .ok (.aload_n 0, 1) := by decide +kernel
theorem dX4_sand_26 : decode cX4_sand 26 = .ok (.getfield 86, 3) := by decide +kernel
theorem dX4_sand_29 : decode cX4_sand 29 = .ok (.iconst 1, 1) := by decide +kernel
theorem dX4_sand_30 : decode cX4_sand 30 = .ok (.iload_n 1, 1) := by decide +kernel
theorem dX4_sand_31 : decode cX4_sand 31 = .ok (.ishl, 1) := by decide +kernel
theorem dX4_sand_32 : decode cX4_sand 32 = .ok (.ior, 1) := by decide +kernel
theorem dX4_sand_33 : decode cX4_sand 33 = .ok (.goto 13, 3) := by decide +kernel
theorem dX4_sand_36 : decode cX4_sand 36 = .ok (.aload_n 0, 1) := by decide +kernel
theorem dX4_sand_37 : decode cX4_sand 37 = .ok (.getfield 86, 3) := by decide +kernel
theorem dX4_sand_40 : decode cX4_sand 40 = .ok (.iconst 1, 1) := by decide +kernel
theorem dX4_sand_41 : decode cX4_sand 41 = .ok (.iload_n 1, 1) := by decide +kernel
theorem dX4_sand_42 : decode cX4_sand 42 = .ok (.ishl, 1) := by decide +kernel
theorem dX4_sand_43 : decode cX4_sand 43 = .ok (.iconst (-1), 1) := by decide +kernel
theorem dX4_sand_44 : decode cX4_sand 44 = .ok (.ixor, 1) := by decide +kernel
theorem dX4_sand_45 : decode cX4_sand 45 = .ok (.iand, 1) := by decide +kernel
theorem dX4_sand_46 : decode cX4_sand 46 = .ok (.putfield 86, 3) := by decide +kernel
theorem dX4_sand_49 : decode cX4_sand 49 = .ok (.iload_n 3, 1) := by decide +kernel
theorem dX4_sand_50 : decode cX4_sand 50 = .ok (.ireturn, 1) := by decide +kernel
theorem dX4_wet_0 : decode cX4_wet 0 = .ok (.aload_n 0, 1) := by decide +kernel
theorem dX4_wet_1 : decode cX4_wet 1 = .ok (.iload_n 1, 1) := by decide +kernel
theorem dX4_wet_2 : decode cX4_wet 2 = .ok (.invokevirtual 109, 3) := by decide +kernel
theorem dX4_wet_5 : decode cX4_wet 5 = .ok (.ifCond .ne 8, 3) := by decide +kernel
theorem dX4_wet_8 : decode cX4_wet 8 = .ok (.bipush (-101), 2) := by decide +kernel
theorem dX4_wet_10 : decode cX4_wet 10 = .ok (.goto 21, 3) := by decide +kernel
theorem dX4_wet_13 : decode cX4_wet 13 = .ok (.iload_n 2, 1) := by decide +kernel
theorem dX4_wet_14 : decode cX4_wet 14 = .ok (.invokestatic 115, 3) := by decide +kernel
theorem dX4_wet_17 : decode cX4_wet 17 = .ok (.ifCond .eq 12, 3) := by decide +kernel
theorem dX4_wet_20 : decode cX4_wet 20 = .ok (.aload_n 0, 1) := by decide +kernel
theorem dX4_wet_21 : decode cX4_wet 21 = .ok (.iload_n 1, 1) := by decide +kernel
theorem dX4_wet_22 : decode cX4_wet 22 = .ok (.iload_n 2, 1) := by decide +kernel
theorem dX4_wet_23 : decode cX4_wet 23 = .ok (.invokevirtual 99, 3) := by decide +kernel
theorem dX4_wet_26 : decode cX4_wet 26 = .ok (.goto 5, 3) := by decide +kernel
theorem dX4_wet_29 : decode cX4_wet 29 = .ok (.bipush (-102), 2) := by decide +kernel
theorem dX4_wet_31 : decode cX4_wet 31 = .ok (.ireturn, 1) := by decide +kernel
theorem dX4_ink_0 : decode cX4_ink 0 = .ok (.aload_n 0, 1) := by decide +kernel
theorem dX4_ink_1 : decode cX4_ink 1 = .ok (.iload_n 1, 1) := by decide +kernel
theorem dX4_ink_2 : decode cX4_ink 2 = .ok (.invokevirtual 118, 3) := by decide +kernel
theorem dX4_ink_5 : decode cX4_ink 5 = .ok (.ifCond .eq 12, 3) := by decide +kernel
theorem dX4_ink_8 : decode cX4_ink 8 = .ok (.aload_n 0, 1) := by decide +kernel
theorem dX4_ink_9 : decode cX4_ink 9 = .ok (.getfield 22, 3) := by decide +kernel
theorem dX4_ink_12 : decode cX4_ink 12 = .ok (.iload_n 1, 1) := by decide +kernel
theorem dX4_ink_13 : decode cX4_ink 13 = .ok (.iaload, 1) := by decide +kernel
theorem dX4_ink_14 : decode cX4_ink 14 = .ok (.goto 5, 3) := by decide +kernel
theorem dX4_ink_17 : decode cX4_ink 17 = .ok (.bipush (-101), 2) := by decide +kernel
theorem dX4_ink_19 : decode cX4_ink 19 = .ok (.ireturn, 1) := by decide +kernel
theorem dX4_comes_0 : decode cX4_comes 0 = .ok (.aload_n 0, 1) := by decide +kernel
theorem dX4_comes_1 : decode cX4_comes 1 = .ok (.iload_n 1, 1) := by decide +kernel
theorem dX4_comes_2 : decode cX4_comes 2 = .ok (.invokevirtual 118, 3) := by decide +kernel
theorem dX4_comes_5 : decode cX4_comes 5 = .ok (.ifCond .ne 8, 3) := by decide +kernel
theorem dX4_comes_8 : decode cX4_comes 8 = .ok (.bipush (-101), 2) := by decide +kernel
theorem dX4_comes_10 : decode cX4_comes 10 = .ok (.goto 21, 3) := by decide +kernel
theorem dX4_comes_13 : decode cX4_comes 13 = .ok (.iload_n 2, 1) := by decide +kernel
theorem dX4_comes_14 : decode cX4_comes 14 = .ok (.invokestatic 115, 3) := by decide +kernel
theorem dX4_comes_17 : decode cX4_comes 17 = .ok (.ifCond .eq 12, 3) := by decide +kernel
theorem dX4_comes_20 : decode cX4_comes 20 = .ok (.aload_n 0, 1) := by decide +kernel
theorem dX4_comes_21 : decode cX4_comes 21 = .ok (.iload_n 1, 1) := by decide +kernel
theorem dX4_comes_22 : decode cX4_comes 22 = .ok (.iload_n 2, 1) := by decide +kernel
theorem dX4_comes_23 : decode cX4_comes 23 = .ok (.invokevirtual 121, 3) := by decide +kernel
theorem dX4_comes_26 : decode cX4_comes 26 = .ok (.goto 5, 3) := by decide +kernel
theorem dX4_comes_29 : decode cX4_comes 29 = .ok (.bipush (-102), 2) := by decide +kernel
theorem dX4_comes_31 : decode cX4_comes 31 = .ok (.ireturn, 1) := by decide +kernel
theorem dX4_press_0 : decode cX4_press 0 = .ok (.iconst 0, 1) := by decide +kernel
theorem dX4_press_1 : decode cX4_press 1 = .ok (.istore_n 2, 1) := by decide +kernel
theorem dX4_press_2 : decode cX4_press 2 = .ok (.iconst 0, 1) := by decide +kernel
theorem dX4_press_3 : decode cX4_press 3 = .ok (.istore_n 3, 1) := by decide +kernel
theorem dX4_press_4 : decode cX4_press 4 = .ok (.iload_n 3, 1) := by decide +kernel
theorem dX4_press_5 : decode cX4_press 5 = .ok (.bipush 10, 2) := by decide +kernel
theorem dX4_press_7 : decode cX4_press 7 = .ok (.if_icmp .ge 56, 3) := by decide +kernel
theorem dX4_press_10 : decode cX4_press 10 = .ok (.aload_n 0, 1) := by decide +kernel
theorem dX4_press_11 : decode cX4_press 11 = .ok (.iload_n 3, 1) := by decide +kernel
theorem dX4_press_12 : decode cX4_press 12 = .ok (.iload_n 1, 1) := by decide +kernel
theorem dX4_press_13 : decode cX4_press 13 = .ok (.invokevirtual 121, 3) := by decide +kernel
theorem dX4_press_16 : decode cX4_press 16 = .ok (.istore 4, 2) := by decide +kernel
theorem dX4_press_18 : decode cX4_press 18 = .ok (.iload_n 2, 1) := by decide +kernel
theorem dX4_press_19 : decode cX4_press 19 = .ok (.iload 4, 2) := by decide +kernel
theorem dX4_press_21 : decode cX4_press 21 = .ok (.iadd, 1) := by decide +kernel
theorem dX4_press_22 : decode cX4_press 22 = .ok (.istore_n 2, 1) := by decide +kernel
theorem dX4_press_23 : decode cX4_press 23 = .ok (.aload_n 0, 1) := by decide +kernel
theorem dX4_press_24 : decode cX4_press 24 = .ok (.getfield 22, 3) := by decide +kernel
theorem dX4_press_27 : decode cX4_press 27 = .ok (.iload_n 3, 1) := by decide +kernel
theorem dX4_press_28 : decode cX4_press 28 = .ok (.aload_n 0, 1) := by decide +kernel
theorem dX4_press_29 : decode cX4_press 29 = .ok (.getfield 22, 3) := by decide +kernel
theorem dX4_press_32 : decode cX4_press 32 = .ok (.iload_n 3, 1) := by decide +kernel
theorem dX4_press_33 : decode cX4_press 33 = .ok (.iaload, 1) := by decide +kernel
theorem dX4_press_34 : decode cX4_press 34 = .ok (.iload 4, 2) := by decide +kernel
theorem dX4_press_36 : decode cX4_press 36 = .ok (.iadd, 1) := by decide +kernel
theorem dX4_press_37 : decode cX4_press 37 = .ok (.bipush 99, 2) := by decide +kernel
theorem dX4_press_39 : decode cX4_press 39 = .ok (.if_icmp .le 8, 3) := by decide +kernel
theorem dX4_press_42 : decode cX4_press 42 = .ok (.bipush 99, 2) := by decide +kernel
theorem dX4_press_44 : decode cX4_press 44 = .ok (.goto 12, 3) := by decide +kernel
theorem dX4_press_47 : decode cX4_press 47 = .ok (.aload_n 0, 1) := by decide +kernel
theorem dX4_press_48 : decode cX4_press 48 = .ok (.getfield 22, 3) := by decide +kernel
theorem dX4_press_51 : decode cX4_press 51 = .ok (.iload_n 3, 1) := by decide +kernel
theorem dX4_press_52 : decode cX4_press 52 = .ok (.iaload, 1) := by decide +kernel
theorem dX4_press_53 : decode cX4_press 53 = .ok (.iload 4, 2) := by decide +kernel
theorem dX4_press_55 : decode cX4_press 55 = .ok (.iadd, 1) := by decide +kernel
theorem dX4_press_56 : decode cX4_press 56 = .ok (.iastore, 1) := by decide +kernel
theorem dX4_press_57 : decode cX4_press 57 = .ok (.iinc 3 1, 3) := by decide +kernel
theorem dX4_press_60 : decode cX4_press 60 = .ok (.goto (-56), 3) := by decide +kernel
theorem dX4_press_63 : decode cX4_press 63 = .ok (.iload_n 2, 1) := by decide +kernel
theorem dX4_press_64 : decode cX4_press 64 = .ok (.ireturn, 1) := by decide +kernel
theorem dX4_evening_0 : decode cX4_evening 0 = .ok (.iload_n 1, 1) := by decide +kernel
theorem dX4_evening_1 : decode cX4_evening 1 = .ok (.invokestatic 115, 3) := by decide +kernel
theorem dX4_evening_4 : decode cX4_evening 4 = .ok (.ifCond .ne 6, 3) := by decide +kernel
theorem dX4_evening_7 : decode cX4_evening 7 = .ok (.bipush (-102), 2) := by decide +kernel
theorem dX4_evening_9 : decode cX4_evening 9 = .ok (.ireturn, 1) := by decide +kernel
theorem dX4_evening_10 : decode cX4_evening 10 = .ok (.aload_n 0, 1) := by decide +kernel
theorem dX4_evening_11 : decode cX4_evening 11 = .ok (.getfield 76, 3) := by decide +kernel
theorem dX4_evening_14 : decode cX4_evening 14 = .ok (.ifCond .ne 6, 3) := by decide +kernel
theorem dX4_evening_17 : decode cX4_evening 17 = .ok (.bipush (-103), 2) := by decide +kernel
theorem dX4_evening_19 : decode cX4_evening 19 = .ok (.ireturn, 1) := by decide +kernel
theorem dX4_evening_20 : decode cX4_evening 20 = .ok (.aload_n 0, 1) := by decide +kernel
theorem dX4_evening_21 : decode cX4_evening 21 = .ok (.dup, 1) := by decide +kernel
theorem dX4_evening_22 : decode cX4_evening 22 = .ok (.getfield 89, 3) := by decide +kernel
theorem dX4_evening_25 : decode cX4_evening 25 = .ok (.iconst 1, 1) := by decide +kernel
theorem dX4_evening_26 : decode cX4_evening 26 = .ok (.iadd, 1) := by decide +kernel
theorem dX4_evening_27 : decode cX4_evening 27 = .ok (.putfield 89, 3) := by decide +kernel
theorem dX4_evening_30 : decode cX4_evening 30 = .ok (.aload_n 0, 1) := by decide +kernel
theorem dX4_evening_31 : decode cX4_evening 31 = .ok (.iload_n 1, 1) := by decide +kernel
theorem dX4_evening_32 : decode cX4_evening 32 = .ok (.invokevirtual 124, 3) := by decide +kernel
theorem dX4_evening_35 : decode cX4_evening 35 = .ok (.ireturn, 1) := by decide +kernel
theorem dX4_hillsNow_0 : decode cX4_hillsNow 0 = .ok (.iconst 0, 1) := by decide +kernel
theorem dX4_hillsNow_1 : decode cX4_hillsNow 1 = .ok (.istore_n 2, 1) := by decide +kernel
theorem dX4_hillsNow_2 : decode cX4_hillsNow 2 = .ok (.iconst 0, 1) := by decide +kernel
theorem dX4_hillsNow_3 : decode cX4_hillsNow 3 = .ok (.istore_n 3, 1) := by decide +kernel
theorem dX4_hillsNow_4 : decode cX4_hillsNow 4 = .ok (.iload_n 3, 1) := by decide +kernel
theorem dX4_hillsNow_5 : decode cX4_hillsNow 5 = .ok (.bipush 10, 2) := by decide +kernel
theorem dX4_hillsNow_7 : decode cX4_hillsNow 7 = .ok (.if_icmp .ge 43, 3) := by decide +kernel
theorem dX4_hillsNow_10 : decode cX4_hillsNow 10 = .ok (.iload_n 2, 1) := by decide +kernel
theorem dX4_hillsNow_11 : decode cX4_hillsNow 11 = .ok (.aload_n 0, 1) := by decide +kernel
theorem dX4_hillsNow_12 : decode cX4_hillsNow 12 = .ok (.getfield 22, 3) := by decide +kernel
theorem dX4_hillsNow_15 : decode cX4_hillsNow 15 = .ok (.iload_n 3, 1) := by decide +kernel
theorem dX4_hillsNow_16 : decode cX4_hillsNow 16 = .ok (.iaload, 1) := by decide +kernel
theorem dX4_hillsNow_17 : decode cX4_hillsNow 17 = .ok (.iload_n 1, 1) := by decide +kernel
theorem dX4_hillsNow_18 : decode cX4_hillsNow 18 = .ok (.if_icmp .lt 23, 3) := by decide +kernel
theorem dX4_hillsNow_21 : decode cX4_hillsNow 21 = .ok (.iload_n 3, 1) := by decide +kernel
theorem dX4_hillsNow_22 : decode cX4_hillsNow 22 = .ok (.ifCond .eq 15, 3) := by decide +kernel
theorem dX4_hillsNow_25 : decode cX4_hillsNow 25 = .ok (.aload_n 0, 1) := by decide +kernel
theorem dX4_hillsNow_26 : decode cX4_hillsNow 26 = .ok (.getfield 22, 3) := by decide +kernel
theorem dX4_hillsNow_29 : decode cX4_hillsNow 29 = .ok (.iload_n 3, 1) := by decide +kernel
theorem dX4_hillsNow_30 : decode cX4_hillsNow 30 = .ok (.iconst 1, 1) := by decide +kernel
theorem dX4_hillsNow_31 : decode cX4_hillsNow 31 = .ok (.isub, 1) := by decide +kernel
theorem dX4_hillsNow_32 : decode cX4_hillsNow 32 = .ok (.iaload, 1) := by decide +kernel
theorem dX4_hillsNow_33 : decode cX4_hillsNow 33 = .ok (.iload_n 1, 1) := by decide +kernel
theorem dX4_hillsNow_34 : decode cX4_hillsNow 34 = .ok (.if_icmp .ge 7, 3) := by decide +kernel
theorem dX4_hillsNow_37 : decode cX4_hillsNow 37 = .ok (.iconst 1, 1) := by decide +kernel
theorem dX4_hillsNow_38 : decode cX4_hillsNow 38 = .ok (.goto 4, 3) := by decide +kernel
theorem dX4_hillsNow_41 : decode cX4_hillsNow 41 = .ok (.iconst 0, 1) := by decide +kernel
theorem dX4_hillsNow_42 : decode cX4_hillsNow 42 = .ok (.iadd, 1) := by decide +kernel
theorem dX4_hillsNow_43 : decode cX4_hillsNow 43 = .ok (.istore_n 2, 1) := by decide +kernel
theorem dX4_hillsNow_44 : decode cX4_hillsNow 44 = .ok (.iinc 3 1, 3) := by decide +kernel
theorem dX4_hillsNow_47 : decode cX4_hillsNow 47 = .ok (.goto (-43), 3) := by decide +kernel
theorem dX4_hillsNow_50 : decode cX4_hillsNow 50 = .ok (.iload_n 2, 1) := by decide +kernel
theorem dX4_hillsNow_51 : decode cX4_hillsNow 51 = .ok (.ireturn, 1) := by decide +kernel
theorem dX4_hills_0 : decode cX4_hills 0 = .ok (.iload_n 1, 1) := by decide +kernel
theorem dX4_hills_1 : decode cX4_hills 1 = .ok (.iconst 1, 1) := by decide +kernel
theorem dX4_hills_2 : decode cX4_hills 2 = .ok (.bipush 99, 2) := by decide +kernel
theorem dX4_hills_4 : decode cX4_hills 4 = .ok (.invokestatic 56, 3) := by decide +kernel
theorem dX4_hills_7 : decode cX4_hills 7 = .ok (.ifCond .ne 6, 3) := by decide +kernel
theorem dX4_hills_10 : decode cX4_hills 10 = .ok (.bipush (-102), 2) := by decide +kernel
theorem dX4_hills_12 : decode cX4_hills 12 = .ok (.ireturn, 1) := by decide +kernel
theorem dX4_hills_13 : decode cX4_hills 13 = .ok (.aload_n 0, 1) := by decide +kernel
theorem dX4_hills_14 : decode cX4_hills 14 = .ok (.getfield 76, 3) := by decide +kernel
theorem dX4_hills_17 : decode cX4_hills 17 = .ok (.ifCond .ne 8, 3) := by decide +kernel
theorem dX4_hills_20 : decode cX4_hills 20 = .ok (.bipush (-103), 2) := by decide +kernel
theorem dX4_hills_22 : decode cX4_hills 22 = .ok (.goto 8, 3) := by decide +kernel
theorem dX4_hills_25 : decode cX4_hills 25 = .ok (.aload_n 0, 1) := by decide +kernel
theorem dX4_hills_26 : decode cX4_hills 26 = .ok (.iload_n 1, 1) := by decide +kernel
theorem dX4_hills_27 : decode cX4_hills 27 = .ok (.invokevirtual 127, 3) := by decide +kernel
theorem dX4_hills_30 : decode cX4_hills 30 = .ok (.ireturn, 1) := by decide +kernel
theorem dX4_closeNow_0 : decode cX4_closeNow 0 = .ok (.iconst (-1), 1) := by decide +kernel
theorem dX4_closeNow_1 : decode cX4_closeNow 1 = .ok (.istore_n 3, 1) := by decide +kernel
theorem dX4_closeNow_2 : decode cX4_closeNow 2 = .ok (.bipush 20, 2) := by decide +kernel
theorem dX4_closeNow_4 : decode cX4_closeNow 4 = .ok (.istore 4, 2) := by decide +kernel
theorem dX4_closeNow_6 : decode cX4_closeNow 6 = .ok (.iload 4, 2) := by decide +kernel
theorem dX4_closeNow_8 : decode cX4_closeNow 8 = .ok (.ifCond .lt 27, 3) := by decide +kernel
theorem dX4_closeNow_11 : decode cX4_closeNow 11 = .ok (.aload_n 0, 1) := by decide +kernel
theorem dX4_closeNow_12 : decode cX4_closeNow 12 = .ok (.iload_n 1, 1) := by decide +kernel
theorem dX4_closeNow_13 : decode cX4_closeNow 13 = .ok (.iload 4, 2) := by decide +kernel
theorem dX4_closeNow_15 : decode cX4_closeNow 15 = .ok (.invokevirtual 121, 3) := by decide +kernel
theorem dX4_closeNow_18 : decode cX4_closeNow 18 = .ok (.iload_n 2, 1) := by decide +kernel
theorem dX4_closeNow_19 : decode cX4_closeNow 19 = .ok (.if_icmp .ne 8, 3) := by decide +kernel
theorem dX4_closeNow_22 : decode cX4_closeNow 22 = .ok (.iload 4, 2) := by decide +kernel
theorem dX4_closeNow_24 : decode cX4_closeNow 24 = .ok (.goto 4, 3) := by decide +kernel
theorem dX4_closeNow_27 : decode cX4_closeNow 27 = .ok (.iload_n 3, 1) := by decide +kernel
theorem dX4_closeNow_28 : decode cX4_closeNow 28 = .ok (.istore_n 3, 1) := by decide +kernel
theorem dX4_closeNow_29 : decode cX4_closeNow 29 = .ok (.iinc 4 (-1), 3) := by decide +kernel
theorem dX4_closeNow_32 : decode cX4_closeNow 32 = .ok (.goto (-26), 3) := by decide +kernel
theorem dX4_closeNow_35 : decode cX4_closeNow 35 = .ok (.iload_n 3, 1) := by decide +kernel
theorem dX4_closeNow_36 : decode cX4_closeNow 36 = .ok (.ireturn, 1) := by decide +kernel
theorem dX4_close_0 : decode cX4_close 0 = .ok (.aload_n 0, 1) := by decide +kernel
theorem dX4_close_1 : decode cX4_close 1 = .ok (.iload_n 1, 1) := by decide +kernel
theorem dX4_close_2 : decode cX4_close 2 = .ok (.invokevirtual 118, 3) := by decide +kernel
theorem dX4_close_5 : decode cX4_close 5 = .ok (.ifCond .ne 8, 3) := by decide +kernel
theorem dX4_close_8 : decode cX4_close 8 = .ok (.bipush (-101), 2) := by decide +kernel
theorem dX4_close_10 : decode cX4_close 10 = .ok (.goto 24, 3) := by decide +kernel
theorem dX4_close_13 : decode cX4_close 13 = .ok (.iload_n 2, 1) := by decide +kernel
theorem dX4_close_14 : decode cX4_close 14 = .ok (.iconst 0, 1) := by decide +kernel
theorem dX4_close_15 : decode cX4_close 15 = .ok (.bipush 99, 2) := by decide +kernel
theorem dX4_close_17 : decode cX4_close 17 = .ok (.invokestatic 56, 3) := by decide +kernel
theorem dX4_close_20 : decode cX4_close 20 = .ok (.ifCond .eq 12, 3) := by decide +kernel
theorem dX4_close_23 : decode cX4_close 23 = .ok (.aload_n 0, 1) := by decide +kernel
theorem dX4_close_24 : decode cX4_close 24 = .ok (.iload_n 1, 1) := by decide +kernel
theorem dX4_close_25 : decode cX4_close 25 = .ok (.iload_n 2, 1) := by decide +kernel
theorem dX4_close_26 : decode cX4_close 26 = .ok (.invokevirtual 130, 3) := by decide +kernel
theorem dX4_close_29 : decode cX4_close 29 = .ok (.goto 5, 3) := by decide +kernel
theorem dX4_close_32 : decode cX4_close 32 = .ok (.bipush (-102), 2) := by decide +kernel
theorem dX4_close_34 : decode cX4_close 34 = .ok (.ireturn, 1) := by decide +kernel
theorem dX4_isDryAt_0 : decode cX4_isDryAt 0 = .ok (.iconst 1, 1) := by decide +kernel
theorem dX4_isDryAt_1 : decode cX4_isDryAt 1 = .ok (.istore_n 3, 1) := by decide +kernel
theorem dX4_isDryAt_2 : decode cX4_isDryAt 2 = .ok (.iconst 0, 1) := by decide +kernel
theorem dX4_isDryAt_3 : decode cX4_isDryAt 3 = .ok (.istore 4, 2) := by decide +kernel
theorem dX4_isDryAt_5 : decode cX4_isDryAt 5 = .ok (.iload 4, 2) := by decide +kernel
theorem dX4_isDryAt_7 : decode cX4_isDryAt 7 = .ok (.bipush 10, 2) := by decide +kernel
theorem dX4_isDryAt_9 : decode cX4_isDryAt 9 = .ok (.if_icmp .ge 38, 3) := by decide +kernel
theorem dX4_isDryAt_12 : decode cX4_isDryAt 12 = .ok (.iload_n 3, 1) := by decide +kernel
theorem dX4_isDryAt_13 : decode cX4_isDryAt 13 = .ok (.ifCond .eq 26, 3) := by decide +kernel
theorem dX4_isDryAt_16 : decode cX4_isDryAt 16 = .ok (.iload_n 2, 1) := by decide +kernel
theorem dX4_isDryAt_17 : decode cX4_isDryAt 17 = .ok (.iload 4, 2) := by decide +kernel
theorem dX4_isDryAt_19 : decode cX4_isDryAt 19 = .ok (.invokestatic 95, 3) := by decide +kernel
theorem dX4_isDryAt_22 : decode cX4_isDryAt 22 = .ok (.ifCond .eq 13, 3) := by decide +kernel
theorem dX4_isDryAt_25 : decode cX4_isDryAt 25 = .ok (.aload_n 0, 1) := by decide +kernel
theorem dX4_isDryAt_26 : decode cX4_isDryAt 26 = .ok (.iload 4, 2) := by decide +kernel
theorem dX4_isDryAt_28 : decode cX4_isDryAt 28 = .ok (.iload_n 1, 1) := by decide +kernel
theorem dX4_isDryAt_29 : decode cX4_isDryAt 29 = .ok (.invokevirtual 121, 3) := by decide +kernel
theorem dX4_isDryAt_32 : decode cX4_isDryAt 32 = .ok (.ifCond .ne 7, 3) := by decide +kernel
theorem dX4_isDryAt_35 : decode cX4_isDryAt 35 = .ok (.iconst 1, 1) := by decide +kernel
theorem dX4_isDryAt_36 : decode cX4_isDryAt 36 = .ok (.goto 4, 3) := by decide +kernel
theorem dX4_isDryAt_39 : decode cX4_isDryAt 39 = .ok (.iconst 0, 1) := by decide +kernel
theorem dX4_isDryAt_40 : decode cX4_isDryAt 40 = .ok (.istore_n 3, 1) := by decide +kernel
theorem dX4_isDryAt_41 : decode cX4_isDryAt 41 = .ok (.iinc 4 1, 3) := by decide +kernel
theorem dX4_isDryAt_44 : decode cX4_isDryAt 44 = .ok (.goto (-39), 3) := by decide +kernel
theorem dX4_isDryAt_47 : decode cX4_isDryAt 47 = .ok (.iload_n 3, 1) := by decide +kernel
theorem dX4_isDryAt_48 : decode cX4_isDryAt 48 = .ok (.ireturn, 1) := by decide +kernel
theorem dX4_sandNow_0 : decode cX4_sandNow 0 = .ok (.aload_n 0, 1) := by decide +kernel
theorem dX4_sandNow_1 : decode cX4_sandNow 1 = .ok (.getfield 86, 3) := by decide +kernel
theorem dX4_sandNow_4 : decode cX4_sandNow 4 = .ok (.istore 4, 2) := by decide +kernel
theorem dX4_sandNow_6 : decode cX4_sandNow 6 = .ok (.iconst (-1), 1) := by decide +kernel
theorem dX4_sandNow_7 : decode cX4_sandNow 7 = .ok (.istore 5, 2) := by decide +kernel
theorem dX4_sandNow_9 : decode cX4_sandNow 9 = .ok (.iconst 0, 1) := by decide +kernel
theorem dX4_sandNow_10 : decode cX4_sandNow 10 = .ok (.istore 6, 2) := by decide +kernel
theorem dX4_sandNow_12 : decode cX4_sandNow 12 = .ok (.iload 6, 2) := by decide +kernel
theorem dX4_sandNow_14 : decode cX4_sandNow 14 = .ok (.iconst 1, 1) := by decide +kernel
theorem dX4_sandNow_15 : decode cX4_sandNow 15 = .ok (.aload_n 0, 1) := by decide +kernel
theorem dX4_sandNow_16 : decode cX4_sandNow 16 = .ok (.getfield 76, 3) := by decide +kernel
theorem dX4_sandNow_19 : decode cX4_sandNow 19 = .ok (.ishl, 1) := by decide +kernel
theorem dX4_sandNow_20 : decode cX4_sandNow 20 = .ok (.if_icmp .ge 75, 3) := by decide +kernel
theorem dX4_sandNow_23 : decode cX4_sandNow 23 = .ok (.iload 6, 2) := by decide +kernel
theorem dX4_sandNow_25 : decode cX4_sandNow 25 = .ok (.iload 4, 2) := by decide +kernel
theorem dX4_sandNow_27 : decode cX4_sandNow 27 = .ok (.iand, 1) := by decide +kernel
theorem dX4_sandNow_28 : decode cX4_sandNow 28 = .ok (.ifCond .ne 26, 3) := by decide +kernel
theorem dX4_sandNow_31 : decode cX4_sandNow 31 = .ok (.iload 5, 2) := by decide +kernel
theorem dX4_sandNow_33 : decode cX4_sandNow 33 = .ok (.iconst (-1), 1) := by decide +kernel
theorem dX4_sandNow_34 : decode cX4_sandNow 34 = .ok (.if_icmp .eq 16, 3) := by decide +kernel
theorem dX4_sandNow_37 : decode cX4_sandNow 37 = .ok (.iload 6, 2) := by decide +kernel
theorem dX4_sandNow_39 : decode cX4_sandNow 39 = .ok (.invokestatic 133, 3) := by decide +kernel
theorem dX4_sandNow_42 : decode cX4_sandNow 42 = .ok (.iload 5, 2) := by decide +kernel
theorem dX4_sandNow_44 : decode cX4_sandNow 44 = .ok (.invokestatic 133, 3) := by decide +kernel
theorem dX4_sandNow_47 : decode cX4_sandNow 47 = .ok (.if_icmp .ge 7, 3) := by decide +kernel
theorem dX4_sandNow_50 : decode cX4_sandNow 50 = .ok (.iconst 1, 1) := by decide +kernel
theorem dX4_sandNow_51 : decode cX4_sandNow 51 = .ok (.goto 4, 3) := by decide +kernel
theorem dX4_sandNow_54 : decode cX4_sandNow 54 = .ok (.iconst 0, 1) := by decide +kernel
theorem dX4_sandNow_55 : decode cX4_sandNow 55 = .ok (.istore 7, 2) := by decide +kernel
theorem dX4_sandNow_57 : decode cX4_sandNow 57 = .ok (.aload_n 0, 1) := by decide +kernel
theorem dX4_sandNow_58 : decode cX4_sandNow 58 = .ok (.iload 4, 2) := by decide +kernel
theorem dX4_sandNow_60 : decode cX4_sandNow 60 = .ok (.iload 6, 2) := by decide +kernel
theorem dX4_sandNow_62 : decode cX4_sandNow 62 = .ok (.ior, 1) := by decide +kernel
theorem dX4_sandNow_63 : decode cX4_sandNow 63 = .ok (.putfield 86, 3) := by decide +kernel
theorem dX4_sandNow_66 : decode cX4_sandNow 66 = .ok (.iload 7, 2) := by decide +kernel
theorem dX4_sandNow_68 : decode cX4_sandNow 68 = .ok (.ifCond .eq 17, 3) := by decide +kernel
theorem dX4_sandNow_71 : decode cX4_sandNow 71 = .ok (.aload_n 0, 1) := by decide +kernel
theorem dX4_sandNow_72 : decode cX4_sandNow 72 = .ok (.iload_n 1, 1) := by decide +kernel
theorem dX4_sandNow_73 : decode cX4_sandNow 73 = .ok (.iload_n 2, 1) := by decide +kernel
theorem dX4_sandNow_74 : decode cX4_sandNow 74 = .ok (.invokevirtual 136, 3) := by decide +kernel
theorem dX4_sandNow_77 : decode cX4_sandNow 77 = .ok (.ifCond .eq 8, 3) := by decide +kernel
theorem dX4_sandNow_80 : decode cX4_sandNow 80 = .ok (.iload 6, 2) := by decide +kernel
theorem dX4_sandNow_82 : decode cX4_sandNow 82 = .ok (.goto 5, 3) := by decide +kernel
theorem dX4_sandNow_85 : decode cX4_sandNow 85 = .ok (.iload 5, 2) := by decide +kernel
theorem dX4_sandNow_87 : decode cX4_sandNow 87 = .ok (.istore 5, 2) := by decide +kernel
theorem dX4_sandNow_89 : decode cX4_sandNow 89 = .ok (.iinc 6 1, 3) := by decide +kernel
theorem dX4_sandNow_92 : decode cX4_sandNow 92 = .ok (.goto (-80), 3) := by decide +kernel
theorem dX4_sandNow_95 : decode cX4_sandNow 95 = .ok (.aload_n 0, 1) := by decide +kernel
theorem dX4_sandNow_96 : decode cX4_sandNow 96 = .ok (.iload 4, 2) := by decide +kernel
theorem dX4_sandNow_98 : decode cX4_sandNow 98 = .ok (.putfield 86, 3) := by decide +kernel
theorem dX4_sandNow_101 : decode cX4_sandNow 101 = .ok (.iload_n 3, 1) := by decide +kernel
theorem dX4_sandNow_102 : decode cX4_sandNow 102 = .ok (.iconst 1, 1) := by decide +kernel
theorem dX4_sandNow_103 : decode cX4_sandNow 103 = .ok (.if_icmp .ne 8, 3) := by decide +kernel
theorem dX4_sandNow_106 : decode cX4_sandNow 106 = .ok (.iload 5, 2) := by decide +kernel
theorem dX4_sandNow_108 : decode cX4_sandNow 108 = .ok (.goto 8, 3) := by decide +kernel
theorem dX4_sandNow_111 : decode cX4_sandNow 111 = .ok (.iload 5, 2) := by decide +kernel
theorem dX4_sandNow_113 : decode cX4_sandNow 113 = .ok (.invokestatic 133, 3) := by decide +kernel
theorem dX4_sandNow_116 : decode cX4_sandNow 116 = .ok (.ireturn, 1) := by decide +kernel
theorem dX4_toSand_0 : decode cX4_toSand 0 = .ok (.iload_n 1, 1) := by decide +kernel
theorem dX4_toSand_1 : decode cX4_toSand 1 = .ok (.invokestatic 115, 3) := by decide +kernel
theorem dX4_toSand_4 : decode cX4_toSand 4 = .ok (.ifCond .eq 23, 3) := by decide +kernel
theorem dX4_toSand_7 : decode cX4_toSand 7 = .ok (.iload_n 2, 1) := by decide +kernel
theorem dX4_toSand_8 : decode cX4_toSand 8 = .ok (.iconst 0, 1) := by decide +kernel
theorem dX4_toSand_9 : decode cX4_toSand 9 = .ok (.sipush 1023, 3) := by decide +kernel
theorem dX4_toSand_12 : decode cX4_toSand 12 = .ok (.invokestatic 56, 3) := by decide +kernel
theorem dX4_toSand_15 : decode cX4_toSand 15 = .ok (.ifCond .eq 12, 3) := by decide +kernel
theorem dX4_toSand_18 : decode cX4_toSand 18 = .ok (.iload_n 3, 1) := by decide +kernel
theorem dX4_toSand_19 : decode cX4_toSand 19 = .ok (.iconst 0, 1) := by decide +kernel
theorem dX4_toSand_20 : decode cX4_toSand 20 = .ok (.iconst 1, 1) := by decide +kernel
theorem dX4_toSand_21 : decode cX4_toSand 21 = .ok (.invokestatic 56, 3) := by decide +kernel
theorem dX4_toSand_24 : decode cX4_toSand 24 = .ok (.ifCond .ne 6, 3) := by decide +kernel
theorem dX4_toSand_27 : decode cX4_toSand 27 = .ok (.bipush (-102), 2) := by decide +kernel
theorem dX4_toSand_29 : decode cX4_toSand 29 = .ok (.ireturn, 1) := by decide +kernel
theorem dX4_toSand_30 : decode cX4_toSand 30 = .ok (.aload_n 0, 1) := by decide +kernel
theorem dX4_toSand_31 : decode cX4_toSand 31 = .ok (.getfield 76, 3) := by decide +kernel
theorem dX4_toSand_34 : decode cX4_toSand 34 = .ok (.ifCond .ne 8, 3) := by decide +kernel
theorem dX4_toSand_37 : decode cX4_toSand 37 = .ok (.bipush (-103), 2) := by decide +kernel
theorem dX4_toSand_39 : decode cX4_toSand 39 = .ok (.goto 10, 3) := by decide +kernel
theorem dX4_toSand_42 : decode cX4_toSand 42 = .ok (.aload_n 0, 1) := by decide +kernel
theorem dX4_toSand_43 : decode cX4_toSand 43 = .ok (.iload_n 1, 1) := by decide +kernel
theorem dX4_toSand_44 : decode cX4_toSand 44 = .ok (.iload_n 2, 1) := by decide +kernel
theorem dX4_toSand_45 : decode cX4_toSand 45 = .ok (.iload_n 3, 1) := by decide +kernel
theorem dX4_toSand_46 : decode cX4_toSand 46 = .ok (.invokevirtual 139, 3) := by decide +kernel
theorem dX4_toSand_49 : decode cX4_toSand 49 = .ok (.ireturn, 1) := by decide +kernel
theorem dX4_found_0 : decode cX4_found 0 = .ok (.aload_n 0, 1) := by decide +kernel
theorem dX4_found_1 : decode cX4_found 1 = .ok (.iload_n 1, 1) := by decide +kernel
theorem dX4_found_2 : decode cX4_found 2 = .ok (.invokevirtual 118, 3) := by decide +kernel
theorem dX4_found_5 : decode cX4_found 5 = .ok (.ifCond .ne 6, 3) := by decide +kernel
theorem dX4_found_8 : decode cX4_found 8 = .ok (.bipush (-101), 2) := by decide +kernel
theorem dX4_found_10 : decode cX4_found 10 = .ok (.ireturn, 1) := by decide +kernel
theorem dX4_found_11 : decode cX4_found 11 = .ok (.iload_n 2, 1) := by decide +kernel
theorem dX4_found_12 : decode cX4_found 12 = .ok (.invokestatic 115, 3) := by decide +kernel
theorem dX4_found_15 : decode cX4_found 15 = .ok (.ifCond .eq 13, 3) := by decide +kernel
theorem dX4_found_18 : decode cX4_found 18 = .ok (.iload_n 3, 1) := by decide +kernel
theorem dX4_found_19 : decode cX4_found 19 = .ok (.iconst 0, 1) := by decide +kernel
theorem dX4_found_20 : decode cX4_found 20 = .ok (.bipush 99, 2) := by decide +kernel
theorem dX4_found_22 : decode cX4_found 22 = .ok (.invokestatic 56, 3) := by decide +kernel
theorem dX4_found_25 : decode cX4_found 25 = .ok (.ifCond .ne 6, 3) := by decide +kernel
theorem dX4_found_28 : decode cX4_found 28 = .ok (.bipush (-102), 2) := by decide +kernel
theorem dX4_found_30 : decode cX4_found 30 = .ok (.ireturn, 1) := by decide +kernel
theorem dX4_found_31 : decode cX4_found 31 = .ok (.aload_n 0, 1) := by decide +kernel
theorem dX4_found_32 : decode cX4_found 32 = .ok (.getfield 92, 3) := by decide +kernel
theorem dX4_found_35 : decode cX4_found 35 = .ok (.bipush 6, 2) := by decide +kernel
theorem dX4_found_37 : decode cX4_found 37 = .ok (.if_icmp .ne 6, 3) := by decide +kernel
theorem dX4_found_40 : decode cX4_found 40 = .ok (.bipush (-104), 2) := by decide +kernel
theorem dX4_found_42 : decode cX4_found 42 = .ok (.ireturn, 1) := by decide +kernel
theorem dX4_found_43 : decode cX4_found 43 = .ok (.aload_n 0, 1) := by decide +kernel
theorem dX4_found_44 : decode cX4_found 44 = .ok (.getfield 25, 3) := by decide +kernel
theorem dX4_found_47 : decode cX4_found 47 = .ok (.aload_n 0, 1) := by decide +kernel
theorem dX4_found_48 : decode cX4_found 48 = .ok (.getfield 92, 3) := by decide +kernel
theorem dX4_found_51 : decode cX4_found 51 = .ok (.iload_n 1, 1) := by decide +kernel
theorem dX4_found_52 : decode cX4_found 52 = .ok (.iastore, 1) := by decide +kernel
theorem dX4_found_53 : decode cX4_found 53 = .ok (.aload_n 0, 1) := by decide +kernel
theorem dX4_found_54 : decode cX4_found 54 = .ok (.getfield 28, 3) := by decide +kernel
theorem dX4_found_57 : decode cX4_found 57 = .ok (.aload_n 0, 1) := by decide +kernel
theorem dX4_found_58 : decode cX4_found 58 = .ok (.getfield 92, 3) := by decide +kernel
theorem dX4_found_61 : decode cX4_found 61 = .ok (.iload_n 2, 1) := by decide +kernel
theorem dX4_found_62 : decode cX4_found 62 = .ok (.iastore, 1) := by decide +kernel
theorem dX4_found_63 : decode cX4_found 63 = .ok (.aload_n 0, 1) := by decide +kernel
theorem dX4_found_64 : decode cX4_found 64 = .ok (.getfield 31, 3) := by decide +kernel
theorem dX4_found_67 : decode cX4_found 67 = .ok (.aload_n 0, 1) := by decide +kernel
theorem dX4_found_68 : decode cX4_found 68 = .ok (.getfield 92, 3) := by decide +kernel
theorem dX4_found_71 : decode cX4_found 71 = .ok (.iload_n 3, 1) := by decide +kernel
theorem dX4_found_72 : decode cX4_found 72 = .ok (.iastore, 1) := by decide +kernel
theorem dX4_found_73 : decode cX4_found 73 = .ok (.aload_n 0, 1) := by decide +kernel
theorem dX4_found_74 : decode cX4_found 74 = .ok (.dup, 1) := by decide +kernel
theorem dX4_found_75 : decode cX4_found 75 = .ok (.getfield 92, 3) := by decide +kernel
theorem dX4_found_78 : decode cX4_found 78 = .ok (.iconst 1, 1) := by decide +kernel
theorem dX4_found_79 : decode cX4_found 79 = .ok (.iadd, 1) := by decide +kernel
theorem dX4_found_80 : decode cX4_found 80 = .ok (.putfield 92, 3) := by decide +kernel
theorem dX4_found_83 : decode cX4_found 83 = .ok (.aload_n 0, 1) := by decide +kernel
theorem dX4_found_84 : decode cX4_found 84 = .ok (.getfield 92, 3) := by decide +kernel
theorem dX4_found_87 : decode cX4_found 87 = .ok (.ireturn, 1) := by decide +kernel
theorem dX4_forget_0 : decode cX4_forget 0 = .ok (.aload_n 0, 1) := by decide +kernel
theorem dX4_forget_1 : decode cX4_forget 1 = .ok (.getfield 92, 3) := by decide +kernel
theorem dX4_forget_4 : decode cX4_forget 4 = .ok (.istore_n 1, 1) := by decide +kernel
theorem dX4_forget_5 : decode cX4_forget 5 = .ok (.aload_n 0, 1) := by decide +kernel
theorem dX4_forget_6 : decode cX4_forget 6 = .ok (.iconst 0, 1) := by decide +kernel
theorem dX4_forget_7 : decode cX4_forget 7 = .ok (.putfield 92, 3) := by decide +kernel
theorem dX4_forget_10 : decode cX4_forget 10 = .ok (.iload_n 1, 1) := by decide +kernel
theorem dX4_forget_11 : decode cX4_forget 11 = .ok (.ireturn, 1) := by decide +kernel
theorem dX4_isFound_0 : decode cX4_isFound 0 = .ok (.iconst 1, 1) := by decide +kernel
theorem dX4_isFound_1 : decode cX4_isFound 1 = .ok (.istore_n 1, 1) := by decide +kernel
theorem dX4_isFound_2 : decode cX4_isFound 2 = .ok (.iconst 0, 1) := by decide +kernel
theorem dX4_isFound_3 : decode cX4_isFound 3 = .ok (.istore_n 2, 1) := by decide +kernel
theorem dX4_isFound_4 : decode cX4_isFound 4 = .ok (.iload_n 2, 1) := by decide +kernel
theorem dX4_isFound_5 : decode cX4_isFound 5 = .ok (.aload_n 0, 1) := by decide +kernel
theorem dX4_isFound_6 : decode cX4_isFound 6 = .ok (.getfield 92, 3) := by decide +kernel
theorem dX4_isFound_9 : decode cX4_isFound 9 = .ok (.if_icmp .ge 44, 3) := by decide +kernel
theorem dX4_isFound_12 : decode cX4_isFound 12 = .ok (.iload_n 1, 1) := by decide +kernel
theorem dX4_isFound_13 : decode cX4_isFound 13 = .ok (.ifCond .eq 32, 3) := by decide +kernel
theorem dX4_isFound_16 : decode cX4_isFound 16 = .ok (.aload_n 0, 1) := by decide +kernel
theorem dX4_isFound_17 : decode cX4_isFound 17 = .ok (.aload_n 0, 1) := by decide +kernel
theorem dX4_isFound_18 : decode cX4_isFound 18 = .ok (.getfield 25, 3) := by decide +kernel
theorem dX4_isFound_21 : decode cX4_isFound 21 = .ok (.iload_n 2, 1) := by decide +kernel
theorem dX4_isFound_22 : decode cX4_isFound 22 = .ok (.iaload, 1) := by decide +kernel
theorem dX4_isFound_23 : decode cX4_isFound 23 = .ok (.aload_n 0, 1) := by decide +kernel
theorem dX4_isFound_24 : decode cX4_isFound 24 = .ok (.getfield 28, 3) := by decide +kernel
theorem dX4_isFound_27 : decode cX4_isFound 27 = .ok (.iload_n 2, 1) := by decide +kernel
theorem dX4_isFound_28 : decode cX4_isFound 28 = .ok (.iaload, 1) := by decide +kernel
theorem dX4_isFound_29 : decode cX4_isFound 29 = .ok (.invokevirtual 121, 3) := by decide +kernel
theorem dX4_isFound_32 : decode cX4_isFound 32 = .ok (.aload_n 0, 1) := by decide +kernel
theorem dX4_isFound_33 : decode cX4_isFound 33 = .ok (.getfield 31, 3) := by decide +kernel
theorem dX4_isFound_36 : decode cX4_isFound 36 = .ok (.iload_n 2, 1) := by decide +kernel
theorem dX4_isFound_37 : decode cX4_isFound 37 = .ok (.iaload, 1) := by decide +kernel
theorem dX4_isFound_38 : decode cX4_isFound 38 = .ok (.if_icmp .ne 7, 3) := by decide +kernel
theorem dX4_isFound_41 : decode cX4_isFound 41 = .ok (.iconst 1, 1) := by decide +kernel
theorem dX4_isFound_42 : decode cX4_isFound 42 = .ok (.goto 4, 3) := by decide +kernel
theorem dX4_isFound_45 : decode cX4_isFound 45 = .ok (.iconst 0, 1) := by decide +kernel
theorem dX4_isFound_46 : decode cX4_isFound 46 = .ok (.istore_n 1, 1) := by decide +kernel
theorem dX4_isFound_47 : decode cX4_isFound 47 = .ok (.iinc 2 1, 3) := by decide +kernel
theorem dX4_isFound_50 : decode cX4_isFound 50 = .ok (.goto (-46), 3) := by decide +kernel
theorem dX4_isFound_53 : decode cX4_isFound 53 = .ok (.iload_n 1, 1) := by decide +kernel
theorem dX4_isFound_54 : decode cX4_isFound 54 = .ok (.ireturn, 1) := by decide +kernel
theorem dX4_heavyOf_0 : decode cX4_heavyOf 0 = .ok (.aload_n 0, 1) := by decide +kernel
theorem dX4_heavyOf_1 : decode cX4_heavyOf 1 = .ok (.getfield 19, 3) := by decide +kernel
theorem dX4_heavyOf_4 : decode cX4_heavyOf 4 = .ok (.iload_n 1, 1) := by decide +kernel
theorem dX4_heavyOf_5 : decode cX4_heavyOf 5 = .ok (.iaload, 1) := by decide +kernel
theorem dX4_heavyOf_6 : decode cX4_heavyOf 6 = .ok (.istore_n 2, 1) := by decide +kernel
theorem dX4_heavyOf_7 : decode cX4_heavyOf 7 = .ok (.iconst 0, 1) := by decide +kernel
theorem dX4_heavyOf_8 : decode cX4_heavyOf 8 = .ok (.istore_n 3, 1) := by decide +kernel
theorem dX4_heavyOf_9 : decode cX4_heavyOf 9 = .ok (.iconst 1, 1) := by decide +kernel
theorem dX4_heavyOf_10 : decode cX4_heavyOf 10 = .ok (.istore 4, 2) := by decide +kernel
theorem dX4_heavyOf_12 : decode cX4_heavyOf 12 = .ok (.iload 4, 2) := by decide +kernel
theorem dX4_heavyOf_14 : decode cX4_heavyOf 14 = .ok (.bipush 9, 2) := by decide +kernel
theorem dX4_heavyOf_16 : decode cX4_heavyOf 16 = .ok (.if_icmp .gt 37, 3) := by decide +kernel
theorem dX4_heavyOf_19 : decode cX4_heavyOf 19 = .ok (.aload_n 0, 1) := by decide +kernel
theorem dX4_heavyOf_20 : decode cX4_heavyOf 20 = .ok (.getfield 19, 3) := by decide +kernel
theorem dX4_heavyOf_23 : decode cX4_heavyOf 23 = .ok (.iload_n 1, 1) := by decide +kernel
theorem dX4_heavyOf_24 : decode cX4_heavyOf 24 = .ok (.iload 4, 2) := by decide +kernel
theorem dX4_heavyOf_26 : decode cX4_heavyOf 26 = .ok (.iastore, 1) := by decide +kernel
theorem dX4_heavyOf_27 : decode cX4_heavyOf 27 = .ok (.iload_n 3, 1) := by decide +kernel
theorem dX4_heavyOf_28 : decode cX4_heavyOf 28 = .ok (.aload_n 0, 1) := by decide +kernel
theorem dX4_heavyOf_29 : decode cX4_heavyOf 29 = .ok (.invokevirtual 142, 3) := by decide +kernel
theorem dX4_heavyOf_32 : decode cX4_heavyOf 32 = .ok (.ifCond .eq 12, 3) := by decide +kernel
theorem dX4_heavyOf_35 : decode cX4_heavyOf 35 = .ok (.iconst 1, 1) := by decide +kernel
theorem dX4_heavyOf_36 : decode cX4_heavyOf 36 = .ok (.iload 4, 2) := by decide +kernel
theorem dX4_heavyOf_38 : decode cX4_heavyOf 38 = .ok (.iconst 1, 1) := by decide +kernel
theorem dX4_heavyOf_39 : decode cX4_heavyOf 39 = .ok (.isub, 1) := by decide +kernel
theorem dX4_heavyOf_40 : decode cX4_heavyOf 40 = .ok (.ishl, 1) := by decide +kernel
theorem dX4_heavyOf_41 : decode cX4_heavyOf 41 = .ok (.goto 4, 3) := by decide +kernel
theorem dX4_heavyOf_44 : decode cX4_heavyOf 44 = .ok (.iconst 0, 1) := by decide +kernel
theorem dX4_heavyOf_45 : decode cX4_heavyOf 45 = .ok (.ior, 1) := by decide +kernel
theorem dX4_heavyOf_46 : decode cX4_heavyOf 46 = .ok (.istore_n 3, 1) := by decide +kernel
theorem dX4_heavyOf_47 : decode cX4_heavyOf 47 = .ok (.iinc 4 1, 3) := by decide +kernel
theorem dX4_heavyOf_50 : decode cX4_heavyOf 50 = .ok (.goto (-38), 3) := by decide +kernel
theorem dX4_heavyOf_53 : decode cX4_heavyOf 53 = .ok (.aload_n 0, 1) := by decide +kernel
theorem dX4_heavyOf_54 : decode cX4_heavyOf 54 = .ok (.getfield 19, 3) := by decide +kernel
theorem dX4_heavyOf_57 : decode cX4_heavyOf 57 = .ok (.iload_n 1, 1) := by decide +kernel
theorem dX4_heavyOf_58 : decode cX4_heavyOf 58 = .ok (.iload_n 2, 1) := by decide +kernel
theorem dX4_heavyOf_59 : decode cX4_heavyOf 59 = .ok (.iastore, 1) := by decide +kernel
theorem dX4_heavyOf_60 : decode cX4_heavyOf 60 = .ok (.iload_n 3, 1) := by decide +kernel
theorem dX4_heavyOf_61 : decode cX4_heavyOf 61 = .ok (.ireturn, 1) := by decide +kernel
theorem dX4_layComes_0 : decode cX4_layComes 0 = .ok (.aload_n 0, 1) := by decide +kernel
theorem dX4_layComes_1 : decode cX4_layComes 1 = .ok (.getfield 19, 3) := by decide +kernel
theorem dX4_layComes_4 : decode cX4_layComes 4 = .ok (.iload_n 1, 1) := by decide +kernel
theorem dX4_layComes_5 : decode cX4_layComes 5 = .ok (.iaload, 1) := by decide +kernel
theorem dX4_layComes_6 : decode cX4_layComes 6 = .ok (.istore_n 3, 1) := by decide +kernel
theorem dX4_layComes_7 : decode cX4_layComes 7 = .ok (.iconst 1, 1) := by decide +kernel
theorem dX4_layComes_8 : decode cX4_layComes 8 = .ok (.istore 4, 2) := by decide +kernel
theorem dX4_layComes_10 : decode cX4_layComes 10 = .ok (.iload 4, 2) := by decide +kernel
theorem dX4_layComes_12 : decode cX4_layComes 12 = .ok (.bipush 9, 2) := by decide +kernel
theorem dX4_layComes_14 : decode cX4_layComes 14 = .ok (.if_icmp .gt 55, 3) := by decide +kernel
theorem dX4_layComes_17 : decode cX4_layComes 17 = .ok (.aload_n 0, 1) := by decide +kernel
theorem dX4_layComes_18 : decode cX4_layComes 18 = .ok (.getfield 19, 3) := by decide +kernel
theorem dX4_layComes_21 : decode cX4_layComes 21 = .ok (.iload_n 1, 1) := by decide +kernel
theorem dX4_layComes_22 : decode cX4_layComes 22 = .ok (.iload 4, 2) := by decide +kernel
theorem dX4_layComes_24 : decode cX4_layComes 24 = .ok (.iastore, 1) := by decide +kernel
theorem dX4_layComes_25 : decode cX4_layComes 25 = .ok (.iconst 0, 1) := by decide +kernel
theorem dX4_layComes_26 : decode cX4_layComes 26 = .ok (.istore 5, 2) := by decide +kernel
theorem dX4_layComes_28 : decode cX4_layComes 28 = .ok (.iload 5, 2) := by decide +kernel
theorem dX4_layComes_30 : decode cX4_layComes 30 = .ok (.bipush 10, 2) := by decide +kernel
theorem dX4_layComes_32 : decode cX4_layComes 32 = .ok (.if_icmp .ge 31, 3) := by decide +kernel
theorem dX4_layComes_35 : decode cX4_layComes 35 = .ok (.aload_n 0, 1) := by decide +kernel
theorem dX4_layComes_36 : decode cX4_layComes 36 = .ok (.getfield 38, 3) := by decide +kernel
theorem dX4_layComes_39 : decode cX4_layComes 39 = .ok (.bipush 9, 2) := by decide +kernel
theorem dX4_layComes_41 : decode cX4_layComes 41 = .ok (.iload 5, 2) := by decide +kernel
theorem dX4_layComes_43 : decode cX4_layComes 43 = .ok (.imul, 1) := by decide +kernel
theorem dX4_layComes_44 : decode cX4_layComes 44 = .ok (.iload 4, 2) := by decide +kernel
theorem dX4_layComes_46 : decode cX4_layComes 46 = .ok (.iadd, 1) := by decide +kernel
theorem dX4_layComes_47 : decode cX4_layComes 47 = .ok (.iconst 1, 1) := by decide +kernel
theorem dX4_layComes_48 : decode cX4_layComes 48 = .ok (.isub, 1) := by decide +kernel
theorem dX4_layComes_49 : decode cX4_layComes 49 = .ok (.aload_n 0, 1) := by decide +kernel
theorem dX4_layComes_50 : decode cX4_layComes 50 = .ok (.iload 5, 2) := by decide +kernel
theorem dX4_layComes_52 : decode cX4_layComes 52 = .ok (.iload_n 2, 1) := by decide +kernel
theorem dX4_layComes_53 : decode cX4_layComes 53 = .ok (.invokevirtual 121, 3) := by decide +kernel
theorem dX4_layComes_56 : decode cX4_layComes 56 = .ok (.iastore, 1) := by decide +kernel
theorem dX4_layComes_57 : decode cX4_layComes 57 = .ok (.iinc 5 1, 3) := by decide +kernel
theorem dX4_layComes_60 : decode cX4_layComes 60 = .ok (.goto (-32), 3) := by decide +kernel
theorem dX4_layComes_63 : decode cX4_layComes 63 = .ok (.iinc 4 1, 3) := by decide +kernel
theorem dX4_layComes_66 : decode cX4_layComes 66 = .ok (.goto (-56), 3) := by decide +kernel
theorem dX4_layComes_69 : decode cX4_layComes 69 = .ok (.aload_n 0, 1) := by decide +kernel
theorem dX4_layComes_70 : decode cX4_layComes 70 = .ok (.getfield 19, 3) := by decide +kernel
theorem dX4_layComes_73 : decode cX4_layComes 73 = .ok (.iload_n 1, 1) := by decide +kernel
theorem dX4_layComes_74 : decode cX4_layComes 74 = .ok (.iload_n 3, 1) := by decide +kernel
theorem dX4_layComes_75 : decode cX4_layComes 75 = .ok (.iastore, 1) := by decide +kernel
theorem dX4_layComes_76 : decode cX4_layComes 76 = .ok (.return_, 1) := by decide +kernel
theorem dX4_worstAt_0 : decode cX4_worstAt 0 = .ok (.iconst 0, 1) := by decide +kernel
theorem dX4_worstAt_1 : decode cX4_worstAt 1 = .ok (.istore_n 3, 1) := by decide +kernel
theorem dX4_worstAt_2 : decode cX4_worstAt 2 = .ok (.iconst 0, 1) := by decide +kernel
theorem dX4_worstAt_3 : decode cX4_worstAt 3 = .ok (.istore 4, 2) := by decide +kernel
theorem dX4_worstAt_5 : decode cX4_worstAt 5 = .ok (.iload 4, 2) := by decide +kernel
theorem dX4_worstAt_7 : decode cX4_worstAt 7 = .ok (.bipush 9, 2) := by decide +kernel
theorem dX4_worstAt_9 : decode cX4_worstAt 9 = .ok (.if_icmp .ge 96, 3) := by decide +kernel
theorem dX4_worstAt_12 : decode cX4_worstAt 12 = .ok (.iconst 0, 1) := by decide +kernel
theorem dX4_worstAt_13 : decode cX4_worstAt 13 = .ok (.istore 5, 2) := by decide +kernel
theorem dX4_worstAt_15 : decode cX4_worstAt 15 = .ok (.iconst 0, 1) := by decide +kernel
theorem dX4_worstAt_16 : decode cX4_worstAt 16 = .ok (.istore 6, 2) := by decide +kernel
theorem dX4_worstAt_18 : decode cX4_worstAt 18 = .ok (.iload 6, 2) := by decide +kernel
theorem dX4_worstAt_20 : decode cX4_worstAt 20 = .ok (.bipush 9, 2) := by decide +kernel
theorem dX4_worstAt_22 : decode cX4_worstAt 22 = .ok (.if_icmp .ge 64, 3) := by decide +kernel
theorem dX4_worstAt_25 : decode cX4_worstAt 25 = .ok (.iload 5, 2) := by decide +kernel
theorem dX4_worstAt_27 : decode cX4_worstAt 27 = .ok (.iload_n 1, 1) := by decide +kernel
theorem dX4_worstAt_28 : decode cX4_worstAt 28 = .ok (.iload 4, 2) := by decide +kernel
theorem dX4_worstAt_30 : decode cX4_worstAt 30 = .ok (.invokestatic 95, 3) := by decide +kernel
theorem dX4_worstAt_33 : decode cX4_worstAt 33 = .ok (.ifCond .eq 43, 3) := by decide +kernel
theorem dX4_worstAt_36 : decode cX4_worstAt 36 = .ok (.iload_n 1, 1) := by decide +kernel
theorem dX4_worstAt_37 : decode cX4_worstAt 37 = .ok (.iload 6, 2) := by decide +kernel
theorem dX4_worstAt_39 : decode cX4_worstAt 39 = .ok (.invokestatic 95, 3) := by decide +kernel
theorem dX4_worstAt_42 : decode cX4_worstAt 42 = .ok (.ifCond .eq 34, 3) := by decide +kernel
theorem dX4_worstAt_45 : decode cX4_worstAt 45 = .ok (.aload_n 0, 1) := by decide +kernel
theorem dX4_worstAt_46 : decode cX4_worstAt 46 = .ok (.getfield 38, 3) := by decide +kernel
theorem dX4_worstAt_49 : decode cX4_worstAt 49 = .ok (.bipush 9, 2) := by decide +kernel
theorem dX4_worstAt_51 : decode cX4_worstAt 51 = .ok (.iload_n 2, 1) := by decide +kernel
theorem dX4_worstAt_52 : decode cX4_worstAt 52 = .ok (.imul, 1) := by decide +kernel
theorem dX4_worstAt_53 : decode cX4_worstAt 53 = .ok (.iload 4, 2) := by decide +kernel
theorem dX4_worstAt_55 : decode cX4_worstAt 55 = .ok (.iadd, 1) := by decide +kernel
theorem dX4_worstAt_56 : decode cX4_worstAt 56 = .ok (.iaload, 1) := by decide +kernel
theorem dX4_worstAt_57 : decode cX4_worstAt 57 = .ok (.aload_n 0, 1) := by decide +kernel
theorem dX4_worstAt_58 : decode cX4_worstAt 58 = .ok (.getfield 38, 3) := by decide +kernel
theorem dX4_worstAt_61 : decode cX4_worstAt 61 = .ok (.bipush 9, 2) := by decide +kernel
theorem dX4_worstAt_63 : decode cX4_worstAt 63 = .ok (.iload_n 2, 1) := by decide +kernel
theorem dX4_worstAt_64 : decode cX4_worstAt 64 = .ok (.imul, 1) := by decide +kernel
theorem dX4_worstAt_65 : decode cX4_worstAt 65 = .ok (.iload 6, 2) := by decide +kernel
theorem dX4_worstAt_67 : decode cX4_worstAt 67 = .ok (.iadd, 1) := by decide +kernel
theorem dX4_worstAt_68 : decode cX4_worstAt 68 = .ok (.iaload, 1) := by decide +kernel
theorem dX4_worstAt_69 : decode cX4_worstAt 69 = .ok (.if_icmp .ne 7, 3) := by decide +kernel
theorem dX4_worstAt_72 : decode cX4_worstAt 72 = .ok (.iconst 1, 1) := by decide +kernel
theorem dX4_worstAt_73 : decode cX4_worstAt 73 = .ok (.goto 4, 3) := by decide +kernel
theorem dX4_worstAt_76 : decode cX4_worstAt 76 = .ok (.iconst 0, 1) := by decide +kernel
theorem dX4_worstAt_77 : decode cX4_worstAt 77 = .ok (.iadd, 1) := by decide +kernel
theorem dX4_worstAt_78 : decode cX4_worstAt 78 = .ok (.istore 5, 2) := by decide +kernel
theorem dX4_worstAt_80 : decode cX4_worstAt 80 = .ok (.iinc 6 1, 3) := by decide +kernel
theorem dX4_worstAt_83 : decode cX4_worstAt 83 = .ok (.goto (-65), 3) := by decide +kernel
theorem dX4_worstAt_86 : decode cX4_worstAt 86 = .ok (.iload 5, 2) := by decide +kernel
theorem dX4_worstAt_88 : decode cX4_worstAt 88 = .ok (.iload_n 3, 1) := by decide +kernel
theorem dX4_worstAt_89 : decode cX4_worstAt 89 = .ok (.if_icmp .le 8, 3) := by decide +kernel
theorem dX4_worstAt_92 : decode cX4_worstAt 92 = .ok (.iload 5, 2) := by decide +kernel
theorem dX4_worstAt_94 : decode cX4_worstAt 94 = .ok (.goto 4, 3) := by decide +kernel
theorem dX4_worstAt_97 : decode cX4_worstAt 97 = .ok (.iload_n 3, 1) := by decide +kernel
theorem dX4_worstAt_98 : decode cX4_worstAt 98 = .ok (.istore_n 3, 1) := by decide +kernel
theorem dX4_worstAt_99 : decode cX4_worstAt 99 = .ok (.iinc 4 1, 3) := by decide +kernel
theorem dX4_worstAt_102 : decode cX4_worstAt 102 = .ok (.goto (-97), 3) := by decide +kernel
theorem dX4_worstAt_105 : decode cX4_worstAt 105 = .ok (.iload_n 3, 1) := by decide +kernel
theorem dX4_worstAt_106 : decode cX4_worstAt 106 = .ok (.ireturn, 1) := by decide +kernel
theorem dX4_lookNow_0 : decode cX4_lookNow 0 = .ok (.aload_n 0, 1) := by decide +kernel
theorem dX4_lookNow_1 : decode cX4_lookNow 1 = .ok (.iload_n 1, 1) := by decide +kernel
theorem dX4_lookNow_2 : decode cX4_lookNow 2 = .ok (.invokevirtual 106, 3) := by decide +kernel
theorem dX4_lookNow_5 : decode cX4_lookNow 5 = .ok (.istore_n 3, 1) := by decide +kernel
theorem dX4_lookNow_6 : decode cX4_lookNow 6 = .ok (.iconst (-1), 1) := by decide +kernel
theorem dX4_lookNow_7 : decode cX4_lookNow 7 = .ok (.istore 4, 2) := by decide +kernel
theorem dX4_lookNow_9 : decode cX4_lookNow 9 = .ok (.iload_n 3, 1) := by decide +kernel
theorem dX4_lookNow_10 : decode cX4_lookNow 10 = .ok (.ifCond .ne 7, 3) := by decide +kernel
theorem dX4_lookNow_13 : decode cX4_lookNow 13 = .ok (.iconst 0, 1) := by decide +kernel
theorem dX4_lookNow_14 : decode cX4_lookNow 14 = .ok (.goto 5, 3) := by decide +kernel
theorem dX4_lookNow_17 : decode cX4_lookNow 17 = .ok (.ldc 146, 2) := by decide +kernel
theorem dX4_lookNow_19 : decode cX4_lookNow 19 = .ok (.istore 5, 2) := by decide +kernel
theorem dX4_lookNow_21 : decode cX4_lookNow 21 = .ok (.aload_n 0, 1) := by decide +kernel
theorem dX4_lookNow_22 : decode cX4_lookNow 22 = .ok (.iload_n 1, 1) := by decide +kernel
theorem dX4_lookNow_23 : decode cX4_lookNow 23 = .ok (.iload_n 2, 1) := by decide +kernel
theorem dX4_lookNow_24 : decode cX4_lookNow 24 = .ok (.invokevirtual 147, 3) := by decide +kernel
theorem dX4_lookNow_27 : decode cX4_lookNow 27 = .ok (.iconst 0, 1) := by decide +kernel
theorem dX4_lookNow_28 : decode cX4_lookNow 28 = .ok (.istore 6, 2) := by decide +kernel
theorem dX4_lookNow_30 : decode cX4_lookNow 30 = .ok (.iload 6, 2) := by decide +kernel
theorem dX4_lookNow_32 : decode cX4_lookNow 32 = .ok (.bipush 10, 2) := by decide +kernel
theorem dX4_lookNow_34 : decode cX4_lookNow 34 = .ok (.if_icmp .ge 50, 3) := by decide +kernel
theorem dX4_lookNow_37 : decode cX4_lookNow 37 = .ok (.aload_n 0, 1) := by decide +kernel
theorem dX4_lookNow_38 : decode cX4_lookNow 38 = .ok (.iload_n 3, 1) := by decide +kernel
theorem dX4_lookNow_39 : decode cX4_lookNow 39 = .ok (.iload 6, 2) := by decide +kernel
theorem dX4_lookNow_41 : decode cX4_lookNow 41 = .ok (.invokevirtual 151, 3) := by decide +kernel
theorem dX4_lookNow_44 : decode cX4_lookNow 44 = .ok (.istore 7, 2) := by decide +kernel
theorem dX4_lookNow_46 : decode cX4_lookNow 46 = .ok (.iload 7, 2) := by decide +kernel
theorem dX4_lookNow_48 : decode cX4_lookNow 48 = .ok (.iload 5, 2) := by decide +kernel
theorem dX4_lookNow_50 : decode cX4_lookNow 50 = .ok (.if_icmp .ge 8, 3) := by decide +kernel
theorem dX4_lookNow_53 : decode cX4_lookNow 53 = .ok (.iload 6, 2) := by decide +kernel
theorem dX4_lookNow_55 : decode cX4_lookNow 55 = .ok (.goto 5, 3) := by decide +kernel
theorem dX4_lookNow_58 : decode cX4_lookNow 58 = .ok (.iload 4, 2) := by decide +kernel
theorem dX4_lookNow_60 : decode cX4_lookNow 60 = .ok (.istore 4, 2) := by decide +kernel
theorem dX4_lookNow_62 : decode cX4_lookNow 62 = .ok (.iload 7, 2) := by decide +kernel
theorem dX4_lookNow_64 : decode cX4_lookNow 64 = .ok (.iload 5, 2) := by decide +kernel
theorem dX4_lookNow_66 : decode cX4_lookNow 66 = .ok (.if_icmp .ge 8, 3) := by decide +kernel
theorem dX4_lookNow_69 : decode cX4_lookNow 69 = .ok (.iload 7, 2) := by decide +kernel
theorem dX4_lookNow_71 : decode cX4_lookNow 71 = .ok (.goto 5, 3) := by decide +kernel
theorem dX4_lookNow_74 : decode cX4_lookNow 74 = .ok (.iload 5, 2) := by decide +kernel
theorem dX4_lookNow_76 : decode cX4_lookNow 76 = .ok (.istore 5, 2) := by decide +kernel
theorem dX4_lookNow_78 : decode cX4_lookNow 78 = .ok (.iinc 6 1, 3) := by decide +kernel
theorem dX4_lookNow_81 : decode cX4_lookNow 81 = .ok (.goto (-51), 3) := by decide +kernel
theorem dX4_lookNow_84 : decode cX4_lookNow 84 = .ok (.iload 4, 2) := by decide +kernel
theorem dX4_lookNow_86 : decode cX4_lookNow 86 = .ok (.ireturn, 1) := by decide +kernel
theorem dX4_look_0 : decode cX4_look 0 = .ok (.aload_n 0, 1) := by decide +kernel
theorem dX4_look_1 : decode cX4_look 1 = .ok (.iload_n 1, 1) := by decide +kernel
theorem dX4_look_2 : decode cX4_look 2 = .ok (.invokevirtual 109, 3) := by decide +kernel
theorem dX4_look_5 : decode cX4_look 5 = .ok (.ifCond .ne 8, 3) := by decide +kernel
theorem dX4_look_8 : decode cX4_look 8 = .ok (.bipush (-101), 2) := by decide +kernel
theorem dX4_look_10 : decode cX4_look 10 = .ok (.goto 21, 3) := by decide +kernel
theorem dX4_look_13 : decode cX4_look 13 = .ok (.iload_n 2, 1) := by decide +kernel
theorem dX4_look_14 : decode cX4_look 14 = .ok (.invokestatic 115, 3) := by decide +kernel
theorem dX4_look_17 : decode cX4_look 17 = .ok (.ifCond .eq 12, 3) := by decide +kernel
theorem dX4_look_20 : decode cX4_look 20 = .ok (.aload_n 0, 1) := by decide +kernel
theorem dX4_look_21 : decode cX4_look 21 = .ok (.iload_n 1, 1) := by decide +kernel
theorem dX4_look_22 : decode cX4_look 22 = .ok (.iload_n 2, 1) := by decide +kernel
theorem dX4_look_23 : decode cX4_look 23 = .ok (.invokevirtual 154, 3) := by decide +kernel
theorem dX4_look_26 : decode cX4_look 26 = .ok (.goto 5, 3) := by decide +kernel
theorem dX4_look_29 : decode cX4_look 29 = .ok (.bipush (-102), 2) := by decide +kernel
theorem dX4_look_31 : decode cX4_look 31 = .ok (.ireturn, 1) := by decide +kernel
theorem dX4_draw_0 : decode cX4_draw 0 = .ok (.aload_n 0, 1) := by decide +kernel
theorem dX4_draw_1 : decode cX4_draw 1 = .ok (.ldc2_w 157, 3) := by decide +kernel
theorem dX4_draw_4 : decode cX4_draw 4 = .ok (.aload_n 0, 1) := by decide +kernel
theorem dX4_draw_5 : decode cX4_draw 5 = .ok (.getfield 159, 3) := by decide +kernel
theorem dX4_draw_8 : decode cX4_draw 8 = .ok (.lmul, 1) := by decide +kernel
theorem dX4_draw_9 : decode cX4_draw 9 = .ok (.ldc2_w 163, 3) := by decide +kernel
theorem dX4_draw_12 : decode cX4_draw 12 = .ok (.ladd, 1) := by decide +kernel
theorem dX4_draw_13 : decode cX4_draw 13 = .ok (.ldc2_w 165, 3) := by decide +kernel
theorem dX4_draw_16 : decode cX4_draw 16 = .ok (.land, 1) := by decide +kernel
theorem dX4_draw_17 : decode cX4_draw 17 = .ok (.putfield 159, 3) := by decide +kernel
theorem dX4_draw_20 : decode cX4_draw 20 = .ok (.aload_n 0, 1) := by decide +kernel
theorem dX4_draw_21 : decode cX4_draw 21 = .ok (.getfield 159, 3) := by decide +kernel
theorem dX4_draw_24 : decode cX4_draw 24 = .ok (.ldc2_w 167, 3) := by decide +kernel
theorem dX4_draw_27 : decode cX4_draw 27 = .ok (.ldiv, 1) := by decide +kernel
theorem dX4_draw_28 : decode cX4_draw 28 = .ok (.iload_n 1, 1) := by decide +kernel
theorem dX4_draw_29 : decode cX4_draw 29 = .ok (.i2l, 1) := by decide +kernel
theorem dX4_draw_30 : decode cX4_draw 30 = .ok (.lrem, 1) := by decide +kernel
theorem dX4_draw_31 : decode cX4_draw 31 = .ok (.l2i, 1) := by decide +kernel
theorem dX4_draw_32 : decode cX4_draw 32 = .ok (.ireturn, 1) := by decide +kernel
theorem dX4_inkAll_0 : decode cX4_inkAll 0 = .ok (.iconst 0, 1) := by decide +kernel
theorem dX4_inkAll_1 : decode cX4_inkAll 1 = .ok (.istore_n 1, 1) := by decide +kernel
theorem dX4_inkAll_2 : decode cX4_inkAll 2 = .ok (.iconst 0, 1) := by decide +kernel
theorem dX4_inkAll_3 : decode cX4_inkAll 3 = .ok (.istore_n 2, 1) := by decide +kernel
theorem dX4_inkAll_4 : decode cX4_inkAll 4 = .ok (.iload_n 2, 1) := by decide +kernel
theorem dX4_inkAll_5 : decode cX4_inkAll 5 = .ok (.bipush 10, 2) := by decide +kernel
theorem dX4_inkAll_7 : decode cX4_inkAll 7 = .ok (.if_icmp .ge 18, 3) := by decide +kernel
theorem dX4_inkAll_10 : decode cX4_inkAll 10 = .ok (.iload_n 1, 1) := by decide +kernel
theorem dX4_inkAll_11 : decode cX4_inkAll 11 = .ok (.aload_n 0, 1) := by decide +kernel
theorem dX4_inkAll_12 : decode cX4_inkAll 12 = .ok (.getfield 22, 3) := by decide +kernel
theorem dX4_inkAll_15 : decode cX4_inkAll 15 = .ok (.iload_n 2, 1) := by decide +kernel
theorem dX4_inkAll_16 : decode cX4_inkAll 16 = .ok (.iaload, 1) := by decide +kernel
theorem dX4_inkAll_17 : decode cX4_inkAll 17 = .ok (.iadd, 1) := by decide +kernel
theorem dX4_inkAll_18 : decode cX4_inkAll 18 = .ok (.istore_n 1, 1) := by decide +kernel
theorem dX4_inkAll_19 : decode cX4_inkAll 19 = .ok (.iinc 2 1, 3) := by decide +kernel
theorem dX4_inkAll_22 : decode cX4_inkAll 22 = .ok (.goto (-18), 3) := by decide +kernel
theorem dX4_inkAll_25 : decode cX4_inkAll 25 = .ok (.iload_n 1, 1) := by decide +kernel
theorem dX4_inkAll_26 : decode cX4_inkAll 26 = .ok (.ireturn, 1) := by decide +kernel
theorem dX4_dry_0 : decode cX4_dry 0 = .ok (.iconst 0, 1) := by decide +kernel
theorem dX4_dry_1 : decode cX4_dry 1 = .ok (.istore_n 1, 1) := by decide +kernel
theorem dX4_dry_2 : decode cX4_dry 2 = .ok (.iconst 0, 1) := by decide +kernel
theorem dX4_dry_3 : decode cX4_dry 3 = .ok (.istore_n 2, 1) := by decide +kernel
theorem dX4_dry_4 : decode cX4_dry 4 = .ok (.iload_n 2, 1) := by decide +kernel
theorem dX4_dry_5 : decode cX4_dry 5 = .ok (.bipush 10, 2) := by decide +kernel
theorem dX4_dry_7 : decode cX4_dry 7 = .ok (.if_icmp .ge 33, 3) := by decide +kernel
theorem dX4_dry_10 : decode cX4_dry 10 = .ok (.aload_n 0, 1) := by decide +kernel
theorem dX4_dry_11 : decode cX4_dry 11 = .ok (.getfield 76, 3) := by decide +kernel
theorem dX4_dry_14 : decode cX4_dry 14 = .ok (.ifCond .le 26, 3) := by decide +kernel
theorem dX4_dry_17 : decode cX4_dry 17 = .ok (.iload_n 1, 1) := by decide +kernel
theorem dX4_dry_18 : decode cX4_dry 18 = .ok (.aload_n 0, 1) := by decide +kernel
theorem dX4_dry_19 : decode cX4_dry 19 = .ok (.getfield 22, 3) := by decide +kernel
theorem dX4_dry_22 : decode cX4_dry 22 = .ok (.iload_n 2, 1) := by decide +kernel
theorem dX4_dry_23 : decode cX4_dry 23 = .ok (.iaload, 1) := by decide +kernel
theorem dX4_dry_24 : decode cX4_dry 24 = .ok (.ifCond .ne 7, 3) := by decide +kernel
theorem dX4_dry_27 : decode cX4_dry 27 = .ok (.iconst 1, 1) := by decide +kernel
theorem dX4_dry_28 : decode cX4_dry 28 = .ok (.goto 4, 3) := by decide +kernel
theorem dX4_dry_31 : decode cX4_dry 31 = .ok (.iconst 0, 1) := by decide +kernel
theorem dX4_dry_32 : decode cX4_dry 32 = .ok (.iadd, 1) := by decide +kernel
theorem dX4_dry_33 : decode cX4_dry 33 = .ok (.istore_n 1, 1) := by decide +kernel
theorem dX4_dry_34 : decode cX4_dry 34 = .ok (.iinc 2 1, 3) := by decide +kernel
theorem dX4_dry_37 : decode cX4_dry 37 = .ok (.goto (-33), 3) := by decide +kernel
theorem dX4_dry_40 : decode cX4_dry 40 = .ok (.iload_n 1, 1) := by decide +kernel
theorem dX4_dry_41 : decode cX4_dry 41 = .ok (.ireturn, 1) := by decide +kernel
theorem dX4_yearsNow_0 : decode cX4_yearsNow 0 = .ok (.iconst 0, 1) := by decide +kernel
theorem dX4_yearsNow_1 : decode cX4_yearsNow 1 = .ok (.istore 4, 2) := by decide +kernel
theorem dX4_yearsNow_3 : decode cX4_yearsNow 3 = .ok (.iload 4, 2) := by decide +kernel
theorem dX4_yearsNow_5 : decode cX4_yearsNow 5 = .ok (.bipush 10, 2) := by decide +kernel
theorem dX4_yearsNow_7 : decode cX4_yearsNow 7 = .ok (.if_icmp .ge 23, 3) := by decide +kernel
theorem dX4_yearsNow_10 : decode cX4_yearsNow 10 = .ok (.aload_n 0, 1) := by decide +kernel
theorem dX4_yearsNow_11 : decode cX4_yearsNow 11 = .ok (.getfield 41, 3) := by decide +kernel
theorem dX4_yearsNow_14 : decode cX4_yearsNow 14 = .ok (.iload 4, 2) := by decide +kernel
theorem dX4_yearsNow_16 : decode cX4_yearsNow 16 = .ok (.aload_n 0, 1) := by decide +kernel
theorem dX4_yearsNow_17 : decode cX4_yearsNow 17 = .ok (.getfield 22, 3) := by decide +kernel
theorem dX4_yearsNow_20 : decode cX4_yearsNow 20 = .ok (.iload 4, 2) := by decide +kernel
theorem dX4_yearsNow_22 : decode cX4_yearsNow 22 = .ok (.iaload, 1) := by decide +kernel
theorem dX4_yearsNow_23 : decode cX4_yearsNow 23 = .ok (.iastore, 1) := by decide +kernel
theorem dX4_yearsNow_24 : decode cX4_yearsNow 24 = .ok (.iinc 4 1, 3) := by decide +kernel
theorem dX4_yearsNow_27 : decode cX4_yearsNow 27 = .ok (.goto (-24), 3) := by decide +kernel
theorem dX4_yearsNow_30 : decode cX4_yearsNow 30 = .ok (.aload_n 0, 1) := by decide +kernel
theorem dX4_yearsNow_31 : decode cX4_yearsNow 31 = .ok (.iload_n 2, 1) := by decide +kernel
theorem dX4_yearsNow_32 : decode cX4_yearsNow 32 = .ok (.i2l, 1) := by decide +kernel
theorem dX4_yearsNow_33 : decode cX4_yearsNow 33 = .ok (.putfield 159, 3) := by decide +kernel
theorem dX4_yearsNow_36 : decode cX4_yearsNow 36 = .ok (.iconst 0, 1) := by decide +kernel
theorem dX4_yearsNow_37 : decode cX4_yearsNow 37 = .ok (.istore 4, 2) := by decide +kernel
theorem dX4_yearsNow_39 : decode cX4_yearsNow 39 = .ok (.iload 4, 2) := by decide +kernel
theorem dX4_yearsNow_41 : decode cX4_yearsNow 41 = .ok (.iload_n 1, 1) := by decide +kernel
theorem dX4_yearsNow_42 : decode cX4_yearsNow 42 = .ok (.if_icmp .ge 20, 3) := by decide +kernel
theorem dX4_yearsNow_45 : decode cX4_yearsNow 45 = .ok (.aload_n 0, 1) := by decide +kernel
theorem dX4_yearsNow_46 : decode cX4_yearsNow 46 = .ok (.aload_n 0, 1) := by decide +kernel
theorem dX4_yearsNow_47 : decode cX4_yearsNow 47 = .ok (.bipush 21, 2) := by decide +kernel
theorem dX4_yearsNow_49 : decode cX4_yearsNow 49 = .ok (.invokevirtual 169, 3) := by decide +kernel
theorem dX4_yearsNow_52 : decode cX4_yearsNow 52 = .ok (.invokevirtual 124, 3) := by decide +kernel
theorem dX4_yearsNow_55 : decode cX4_yearsNow 55 = .ok (.pop, 1) := by decide +kernel
theorem dX4_yearsNow_56 : decode cX4_yearsNow 56 = .ok (.iinc 4 1, 3) := by decide +kernel
theorem dX4_yearsNow_59 : decode cX4_yearsNow 59 = .ok (.goto (-20), 3) := by decide +kernel
theorem dX4_yearsNow_62 : decode cX4_yearsNow 62 = .ok (.aload_n 0, 1) := by decide +kernel
theorem dX4_yearsNow_63 : decode cX4_yearsNow 63 = .ok (.invokevirtual 172, 3) := by decide +kernel
theorem dX4_yearsNow_66 : decode cX4_yearsNow 66 = .ok (.istore 4, 2) := by decide +kernel
theorem dX4_yearsNow_68 : decode cX4_yearsNow 68 = .ok (.aload_n 0, 1) := by decide +kernel
theorem dX4_yearsNow_69 : decode cX4_yearsNow 69 = .ok (.invokevirtual 175, 3) := by decide +kernel
theorem dX4_yearsNow_72 : decode cX4_yearsNow 72 = .ok (.istore 5, 2) := by decide +kernel
theorem dX4_yearsNow_74 : decode cX4_yearsNow 74 = .ok (.iconst 0, 1) := by decide +kernel
theorem dX4_yearsNow_75 : decode cX4_yearsNow 75 = .ok (.istore 6, 2) := by decide +kernel
theorem dX4_yearsNow_77 : decode cX4_yearsNow 77 = .ok (.iload 6, 2) := by decide +kernel
theorem dX4_yearsNow_79 : decode cX4_yearsNow 79 = .ok (.bipush 10, 2) := by decide +kernel
theorem dX4_yearsNow_81 : decode cX4_yearsNow 81 = .ok (.if_icmp .ge 23, 3) := by decide +kernel
theorem dX4_yearsNow_84 : decode cX4_yearsNow 84 = .ok (.aload_n 0, 1) := by decide +kernel
theorem dX4_yearsNow_85 : decode cX4_yearsNow 85 = .ok (.getfield 22, 3) := by decide +kernel
theorem dX4_yearsNow_88 : decode cX4_yearsNow 88 = .ok (.iload 6, 2) := by decide +kernel
theorem dX4_yearsNow_90 : decode cX4_yearsNow 90 = .ok (.aload_n 0, 1) := by decide +kernel
theorem dX4_yearsNow_91 : decode cX4_yearsNow 91 = .ok (.getfield 41, 3) := by decide +kernel
theorem dX4_yearsNow_94 : decode cX4_yearsNow 94 = .ok (.iload 6, 2) := by decide +kernel
theorem dX4_yearsNow_96 : decode cX4_yearsNow 96 = .ok (.iaload, 1) := by decide +kernel
theorem dX4_yearsNow_97 : decode cX4_yearsNow 97 = .ok (.iastore, 1) := by decide +kernel
theorem dX4_yearsNow_98 : decode cX4_yearsNow 98 = .ok (.iinc 6 1, 3) := by decide +kernel
theorem dX4_yearsNow_101 : decode cX4_yearsNow 101 = .ok (.goto (-24), 3) := by decide +kernel
theorem dX4_yearsNow_104 : decode cX4_yearsNow 104 = .ok (.iload_n 3, 1) := by decide +kernel
theorem dX4_yearsNow_105 : decode cX4_yearsNow 105 = .ok (.ifCond .ne 8, 3) := by decide +kernel
theorem dX4_yearsNow_108 : decode cX4_yearsNow 108 = .ok (.iload 4, 2) := by decide +kernel
theorem dX4_yearsNow_110 : decode cX4_yearsNow 110 = .ok (.goto 18, 3) := by decide +kernel
theorem dX4_yearsNow_113 : decode cX4_yearsNow 113 = .ok (.iload_n 3, 1) := by decide +kernel
theorem dX4_yearsNow_114 : decode cX4_yearsNow 114 = .ok (.iconst 1, 1) := by decide +kernel
theorem dX4_yearsNow_115 : decode cX4_yearsNow 115 = .ok (.if_icmp .ne 8, 3) := by decide +kernel
theorem dX4_yearsNow_118 : decode cX4_yearsNow 118 = .ok (.iload 5, 2) := by decide +kernel
theorem dX4_yearsNow_120 : decode cX4_yearsNow 120 = .ok (.goto 8, 3) := by decide +kernel
theorem dX4_yearsNow_123 : decode cX4_yearsNow 123 = .ok (.aload_n 0, 1) := by decide +kernel
theorem dX4_yearsNow_124 : decode cX4_yearsNow 124 = .ok (.getfield 159, 3) := by decide +kernel
theorem dX4_yearsNow_127 : decode cX4_yearsNow 127 = .ok (.l2i, 1) := by decide +kernel
theorem dX4_yearsNow_128 : decode cX4_yearsNow 128 = .ok (.ireturn, 1) := by decide +kernel
theorem dX4_years_0 : decode cX4_years 0 = .ok (.iload_n 1, 1) := by decide +kernel
theorem dX4_years_1 : decode cX4_years 1 = .ok (.iconst 1, 1) := by decide +kernel
theorem dX4_years_2 : decode cX4_years 2 = .ok (.bipush 60, 2) := by decide +kernel
theorem dX4_years_4 : decode cX4_years 4 = .ok (.invokestatic 56, 3) := by decide +kernel
theorem dX4_years_7 : decode cX4_years 7 = .ok (.ifCond .eq 16, 3) := by decide +kernel
theorem dX4_years_10 : decode cX4_years 10 = .ok (.iload_n 2, 1) := by decide +kernel
theorem dX4_years_11 : decode cX4_years 11 = .ok (.ifCond .lt 12, 3) := by decide +kernel
theorem dX4_years_14 : decode cX4_years 14 = .ok (.iload_n 3, 1) := by decide +kernel
theorem dX4_years_15 : decode cX4_years 15 = .ok (.iconst 0, 1) := by decide +kernel
theorem dX4_years_16 : decode cX4_years 16 = .ok (.iconst 2, 1) := by decide +kernel
theorem dX4_years_17 : decode cX4_years 17 = .ok (.invokestatic 56, 3) := by decide +kernel
theorem dX4_years_20 : decode cX4_years 20 = .ok (.ifCond .ne 6, 3) := by decide +kernel
theorem dX4_years_23 : decode cX4_years 23 = .ok (.bipush (-102), 2) := by decide +kernel
theorem dX4_years_25 : decode cX4_years 25 = .ok (.ireturn, 1) := by decide +kernel
theorem dX4_years_26 : decode cX4_years 26 = .ok (.aload_n 0, 1) := by decide +kernel
theorem dX4_years_27 : decode cX4_years 27 = .ok (.getfield 76, 3) := by decide +kernel
theorem dX4_years_30 : decode cX4_years 30 = .ok (.ifCond .ne 8, 3) := by decide +kernel
theorem dX4_years_33 : decode cX4_years 33 = .ok (.bipush (-103), 2) := by decide +kernel
theorem dX4_years_35 : decode cX4_years 35 = .ok (.goto 10, 3) := by decide +kernel
theorem dX4_years_38 : decode cX4_years 38 = .ok (.aload_n 0, 1) := by decide +kernel
theorem dX4_years_39 : decode cX4_years 39 = .ok (.iload_n 1, 1) := by decide +kernel
theorem dX4_years_40 : decode cX4_years 40 = .ok (.iload_n 2, 1) := by decide +kernel
theorem dX4_years_41 : decode cX4_years 41 = .ok (.iload_n 3, 1) := by decide +kernel
theorem dX4_years_42 : decode cX4_years 42 = .ok (.invokevirtual 178, 3) := by decide +kernel
theorem dX4_years_45 : decode cX4_years 45 = .ok (.ireturn, 1) := by decide +kernel
theorem dX4_image_0 : decode cX4_image 0 = .ok (.aload_n 0, 1) := by decide +kernel
theorem dX4_image_1 : decode cX4_image 1 = .ok (.getfield 76, 3) := by decide +kernel
theorem dX4_image_4 : decode cX4_image 4 = .ok (.ifCond .ne 6, 3) := by decide +kernel
theorem dX4_image_7 : decode cX4_image 7 = .ok (.bipush (-103), 2) := by decide +kernel
theorem dX4_image_9 : decode cX4_image 9 = .ok (.ireturn, 1) := by decide +kernel
theorem dX4_image_10 : decode cX4_image 10 = .ok (.aload_n 0, 1) := by decide +kernel
theorem dX4_image_11 : decode cX4_image 11 = .ok (.iconst 1, 1) := by decide +kernel
theorem dX4_image_12 : decode cX4_image 12 = .ok (.putfield 181, 3) := by decide +kernel
theorem dX4_image_15 : decode cX4_image 15 = .ok (.aload_n 0, 1) := by decide +kernel
theorem dX4_image_16 : decode cX4_image 16 = .ok (.aload_n 0, 1) := by decide +kernel
theorem dX4_image_17 : decode cX4_image 17 = .ok (.getfield 83, 3) := by decide +kernel
theorem dX4_image_20 : decode cX4_image 20 = .ok (.putfield 185, 3) := by decide +kernel
theorem dX4_image_23 : decode cX4_image 23 = .ok (.aload_n 0, 1) := by decide +kernel
theorem dX4_image_24 : decode cX4_image 24 = .ok (.aload_n 0, 1) := by decide +kernel
theorem dX4_image_25 : decode cX4_image 25 = .ok (.getfield 76, 3) := by decide +kernel
theorem dX4_image_28 : decode cX4_image 28 = .ok (.putfield 188, 3) := by decide +kernel
theorem dX4_image_31 : decode cX4_image 31 = .ok (.aload_n 0, 1) := by decide +kernel
theorem dX4_image_32 : decode cX4_image 32 = .ok (.aload_n 0, 1) := by decide +kernel
theorem dX4_image_33 : decode cX4_image 33 = .ok (.getfield 86, 3) := by decide +kernel
theorem dX4_image_36 : decode cX4_image 36 = .ok (.putfield 191, 3) := by decide +kernel
theorem dX4_image_39 : decode cX4_image 39 = .ok (.aload_n 0, 1) := by decide +kernel
theorem dX4_image_40 : decode cX4_image 40 = .ok (.aload_n 0, 1) := by decide +kernel
theorem dX4_image_41 : decode cX4_image 41 = .ok (.getfield 89, 3) := by decide +kernel
theorem dX4_image_44 : decode cX4_image 44 = .ok (.putfield 194, 3) := by decide +kernel
theorem dX4_image_47 : decode cX4_image 47 = .ok (.aload_n 0, 1) := by decide +kernel
theorem dX4_image_48 : decode cX4_image 48 = .ok (.aload_n 0, 1) := by decide +kernel
theorem dX4_image_49 : decode cX4_image 49 = .ok (.getfield 92, 3) := by decide +kernel
theorem dX4_image_52 : decode cX4_image 52 = .ok (.putfield 197, 3) := by decide +kernel
theorem dX4_image_55 : decode cX4_image 55 = .ok (.iconst 0, 1) := by decide +kernel
theorem dX4_image_56 : decode cX4_image 56 = .ok (.istore_n 1, 1) := by decide +kernel
theorem dX4_image_57 : decode cX4_image 57 = .ok (.iload_n 1, 1) := by decide +kernel
theorem dX4_image_58 : decode cX4_image 58 = .ok (.bipush 10, 2) := by decide +kernel
theorem dX4_image_60 : decode cX4_image 60 = .ok (.if_icmp .ge 21, 3) := by decide +kernel
theorem dX4_image_63 : decode cX4_image 63 = .ok (.aload_n 0, 1) := by decide +kernel
theorem dX4_image_64 : decode cX4_image 64 = .ok (.getfield 44, 3) := by decide +kernel
theorem dX4_image_67 : decode cX4_image 67 = .ok (.iload_n 1, 1) := by decide +kernel
theorem dX4_image_68 : decode cX4_image 68 = .ok (.aload_n 0, 1) := by decide +kernel
theorem dX4_image_69 : decode cX4_image 69 = .ok (.getfield 22, 3) := by decide +kernel
theorem dX4_image_72 : decode cX4_image 72 = .ok (.iload_n 1, 1) := by decide +kernel
theorem dX4_image_73 : decode cX4_image 73 = .ok (.iaload, 1) := by decide +kernel
theorem dX4_image_74 : decode cX4_image 74 = .ok (.iastore, 1) := by decide +kernel
theorem dX4_image_75 : decode cX4_image 75 = .ok (.iinc 1 1, 3) := by decide +kernel
theorem dX4_image_78 : decode cX4_image 78 = .ok (.goto (-21), 3) := by decide +kernel
theorem dX4_image_81 : decode cX4_image 81 = .ok (.iconst 0, 1) := by decide +kernel
theorem dX4_image_82 : decode cX4_image 82 = .ok (.istore_n 1, 1) := by decide +kernel
theorem dX4_image_83 : decode cX4_image 83 = .ok (.iload_n 1, 1) := by decide +kernel
theorem dX4_image_84 : decode cX4_image 84 = .ok (.bipush 6, 2) := by decide +kernel
theorem dX4_image_86 : decode cX4_image 86 = .ok (.if_icmp .ge 45, 3) := by decide +kernel
theorem dX4_image_89 : decode cX4_image 89 = .ok (.aload_n 0, 1) := by decide +kernel
theorem dX4_image_90 : decode cX4_image 90 = .ok (.getfield 47, 3) := by decide +kernel
theorem dX4_image_93 : decode cX4_image 93 = .ok (.iload_n 1, 1) := by decide +kernel
theorem dX4_image_94 : decode cX4_image 94 = .ok (.aload_n 0, 1) := by decide +kernel
theorem dX4_image_95 : decode cX4_image 95 = .ok (.getfield 25, 3) := by decide +kernel
theorem dX4_image_98 : decode cX4_image 98 = .ok (.iload_n 1, 1) := by decide +kernel
theorem dX4_image_99 : decode cX4_image 99 = .ok (.iaload, 1) := by decide +kernel
theorem dX4_image_100 : decode cX4_image 100 = .ok (.iastore, 1) := by decide +kernel
theorem dX4_image_101 : decode cX4_image 101 = .ok (.aload_n 0, 1) := by decide +kernel
theorem dX4_image_102 : decode cX4_image 102 = .ok (.getfield 50, 3) := by decide +kernel
theorem dX4_image_105 : decode cX4_image 105 = .ok (.iload_n 1, 1) := by decide +kernel
theorem dX4_image_106 : decode cX4_image 106 = .ok (.aload_n 0, 1) := by decide +kernel
theorem dX4_image_107 : decode cX4_image 107 = .ok (.getfield 28, 3) := by decide +kernel
theorem dX4_image_110 : decode cX4_image 110 = .ok (.iload_n 1, 1) := by decide +kernel
theorem dX4_image_111 : decode cX4_image 111 = .ok (.iaload, 1) := by decide +kernel
theorem dX4_image_112 : decode cX4_image 112 = .ok (.iastore, 1) := by decide +kernel
theorem dX4_image_113 : decode cX4_image 113 = .ok (.aload_n 0, 1) := by decide +kernel
theorem dX4_image_114 : decode cX4_image 114 = .ok (.getfield 53, 3) := by decide +kernel
theorem dX4_image_117 : decode cX4_image 117 = .ok (.iload_n 1, 1) := by decide +kernel
theorem dX4_image_118 : decode cX4_image 118 = .ok (.aload_n 0, 1) := by decide +kernel
theorem dX4_image_119 : decode cX4_image 119 = .ok (.getfield 31, 3) := by decide +kernel
theorem dX4_image_122 : decode cX4_image 122 = .ok (.iload_n 1, 1) := by decide +kernel
theorem dX4_image_123 : decode cX4_image 123 = .ok (.iaload, 1) := by decide +kernel
theorem dX4_image_124 : decode cX4_image 124 = .ok (.iastore, 1) := by decide +kernel
theorem dX4_image_125 : decode cX4_image 125 = .ok (.iinc 1 1, 3) := by decide +kernel
theorem dX4_image_128 : decode cX4_image 128 = .ok (.goto (-45), 3) := by decide +kernel
theorem dX4_image_131 : decode cX4_image 131 = .ok (.aload_n 0, 1) := by decide +kernel
theorem dX4_image_132 : decode cX4_image 132 = .ok (.getfield 89, 3) := by decide +kernel
theorem dX4_image_135 : decode cX4_image 135 = .ok (.ireturn, 1) := by decide +kernel
theorem dX4_restore_0 : decode cX4_restore 0 = .ok (.aload_n 0, 1) := by decide +kernel
theorem dX4_restore_1 : decode cX4_restore 1 = .ok (.getfield 181, 3) := by decide +kernel
theorem dX4_restore_4 : decode cX4_restore 4 = .ok (.ifCond .eq 14, 3) := by decide +kernel
theorem dX4_restore_7 : decode cX4_restore 7 = .ok (.aload_n 0, 1) := by decide +kernel
theorem dX4_restore_8 : decode cX4_restore 8 = .ok (.getfield 185, 3) := by decide +kernel
theorem dX4_restore_11 : decode cX4_restore 11 = .ok (.aload_n 0, 1) := by decide +kernel
theorem dX4_restore_12 : decode cX4_restore 12 = .ok (.getfield 83, 3) := by decide +kernel
theorem dX4_restore_15 : decode cX4_restore 15 = .ok (.if_icmp .eq 6, 3) := by decide +kernel
theorem dX4_restore_18 : decode cX4_restore 18 = .ok (.bipush (-103), 2) := by decide +kernel
theorem dX4_restore_20 : decode cX4_restore 20 = .ok (.ireturn, 1) := by decide +kernel
theorem dX4_restore_21 : decode cX4_restore 21 = .ok (.aload_n 0, 1) := by decide +kernel
theorem dX4_restore_22 : decode cX4_restore 22 = .ok (.aload_n 0, 1) := by decide +kernel
theorem dX4_restore_23 : decode cX4_restore 23 = .ok (.getfield 188, 3) := by decide +kernel
theorem dX4_restore_26 : decode cX4_restore 26 = .ok (.putfield 76, 3) := by decide +kernel
theorem dX4_restore_29 : decode cX4_restore 29 = .ok (.aload_n 0, 1) := by decide +kernel
theorem dX4_restore_30 : decode cX4_restore 30 = .ok (.aload_n 0, 1) := by decide +kernel
theorem dX4_restore_31 : decode cX4_restore 31 = .ok (.getfield 191, 3) := by decide +kernel
theorem dX4_restore_34 : decode cX4_restore 34 = .ok (.putfield 86, 3) := by decide +kernel
theorem dX4_restore_37 : decode cX4_restore 37 = .ok (.aload_n 0, 1) := by decide +kernel
theorem dX4_restore_38 : decode cX4_restore 38 = .ok (.aload_n 0, 1) := by decide +kernel
theorem dX4_restore_39 : decode cX4_restore 39 = .ok (.getfield 194, 3) := by decide +kernel
theorem dX4_restore_42 : decode cX4_restore 42 = .ok (.putfield 89, 3) := by decide +kernel
theorem dX4_restore_45 : decode cX4_restore 45 = .ok (.aload_n 0, 1) := by decide +kernel
theorem dX4_restore_46 : decode cX4_restore 46 = .ok (.aload_n 0, 1) := by decide +kernel
theorem dX4_restore_47 : decode cX4_restore 47 = .ok (.getfield 197, 3) := by decide +kernel
theorem dX4_restore_50 : decode cX4_restore 50 = .ok (.putfield 92, 3) := by decide +kernel
theorem dX4_restore_53 : decode cX4_restore 53 = .ok (.iconst 0, 1) := by decide +kernel
theorem dX4_restore_54 : decode cX4_restore 54 = .ok (.istore_n 1, 1) := by decide +kernel
theorem dX4_restore_55 : decode cX4_restore 55 = .ok (.iload_n 1, 1) := by decide +kernel
theorem dX4_restore_56 : decode cX4_restore 56 = .ok (.bipush 10, 2) := by decide +kernel
theorem dX4_restore_58 : decode cX4_restore 58 = .ok (.if_icmp .ge 21, 3) := by decide +kernel
theorem dX4_restore_61 : decode cX4_restore 61 = .ok (.aload_n 0, 1) := by decide +kernel
theorem dX4_restore_62 : decode cX4_restore 62 = .ok (.getfield 22, 3) := by decide +kernel
theorem dX4_restore_65 : decode cX4_restore 65 = .ok (.iload_n 1, 1) := by decide +kernel
theorem dX4_restore_66 : decode cX4_restore 66 = .ok (.aload_n 0, 1) := by decide +kernel
theorem dX4_restore_67 : decode cX4_restore 67 = .ok (.getfield 44, 3) := by decide +kernel
theorem dX4_restore_70 : decode cX4_restore 70 = .ok (.iload_n 1, 1) := by decide +kernel
theorem dX4_restore_71 : decode cX4_restore 71 = .ok (.iaload, 1) := by decide +kernel
theorem dX4_restore_72 : decode cX4_restore 72 = .ok (.iastore, 1) := by decide +kernel
theorem dX4_restore_73 : decode cX4_restore 73 = .ok (.iinc 1 1, 3) := by decide +kernel
theorem dX4_restore_76 : decode cX4_restore 76 = .ok (.goto (-21), 3) := by decide +kernel
theorem dX4_restore_79 : decode cX4_restore 79 = .ok (.iconst 0, 1) := by decide +kernel
theorem dX4_restore_80 : decode cX4_restore 80 = .ok (.istore_n 1, 1) := by decide +kernel
theorem dX4_restore_81 : decode cX4_restore 81 = .ok (.iload_n 1, 1) := by decide +kernel
theorem dX4_restore_82 : decode cX4_restore 82 = .ok (.bipush 6, 2) := by decide +kernel
theorem dX4_restore_84 : decode cX4_restore 84 = .ok (.if_icmp .ge 45, 3) := by decide +kernel
theorem dX4_restore_87 : decode cX4_restore 87 = .ok (.aload_n 0, 1) := by decide +kernel
theorem dX4_restore_88 : decode cX4_restore 88 = .ok (.getfield 25, 3) := by decide +kernel
theorem dX4_restore_91 : decode cX4_restore 91 = .ok (.iload_n 1, 1) := by decide +kernel
theorem dX4_restore_92 : decode cX4_restore 92 = .ok (.aload_n 0, 1) := by decide +kernel
theorem dX4_restore_93 : decode cX4_restore 93 = .ok (.getfield 47, 3) := by decide +kernel
theorem dX4_restore_96 : decode cX4_restore 96 = .ok (.iload_n 1, 1) := by decide +kernel
theorem dX4_restore_97 : decode cX4_restore 97 = .ok (.iaload, 1) := by decide +kernel
theorem dX4_restore_98 : decode cX4_restore 98 = .ok (.iastore, 1) := by decide +kernel
theorem dX4_restore_99 : decode cX4_restore 99 = .ok (.aload_n 0, 1) := by decide +kernel
theorem dX4_restore_100 : decode cX4_restore 100 = .ok (.getfield 28, 3) := by decide +kernel
theorem dX4_restore_103 : decode cX4_restore 103 = .ok (.iload_n 1, 1) := by decide +kernel
theorem dX4_restore_104 : decode cX4_restore 104 = .ok (.aload_n 0, 1) := by decide +kernel
theorem dX4_restore_105 : decode cX4_restore 105 = .ok (.getfield 50, 3) := by decide +kernel
theorem dX4_restore_108 : decode cX4_restore 108 = .ok (.iload_n 1, 1) := by decide +kernel
theorem dX4_restore_109 : decode cX4_restore 109 = .ok (.iaload, 1) := by decide +kernel
theorem dX4_restore_110 : decode cX4_restore 110 = .ok (.iastore, 1) := by decide +kernel
theorem dX4_restore_111 : decode cX4_restore 111 = .ok (.aload_n 0, 1) := by decide +kernel
theorem dX4_restore_112 : decode cX4_restore 112 = .ok (.getfield 31, 3) := by decide +kernel
theorem dX4_restore_115 : decode cX4_restore 115 = .ok (.iload_n 1, 1) := by decide +kernel
theorem dX4_restore_116 : decode cX4_restore 116 = .ok (.aload_n 0, 1) := by decide +kernel
theorem dX4_restore_117 : decode cX4_restore 117 = .ok (.getfield 53, 3) := by decide +kernel
theorem dX4_restore_120 : decode cX4_restore 120 = .ok (.iload_n 1, 1) := by decide +kernel
theorem dX4_restore_121 : decode cX4_restore 121 = .ok (.iaload, 1) := by decide +kernel
theorem dX4_restore_122 : decode cX4_restore 122 = .ok (.iastore, 1) := by decide +kernel
theorem dX4_restore_123 : decode cX4_restore 123 = .ok (.iinc 1 1, 3) := by decide +kernel
theorem dX4_restore_126 : decode cX4_restore 126 = .ok (.goto (-45), 3) := by decide +kernel
theorem dX4_restore_129 : decode cX4_restore 129 = .ok (.aload_n 0, 1) := by decide +kernel
theorem dX4_restore_130 : decode cX4_restore 130 = .ok (.getfield 89, 3) := by decide +kernel
theorem dX4_restore_133 : decode cX4_restore 133 = .ok (.ireturn, 1) := by decide +kernel
theorem dX4_howMany_0 : decode cX4_howMany 0 = .ok (.iload_n 1, 1) := by decide +kernel
theorem dX4_howMany_1 : decode cX4_howMany 1 = .ok (.tableswitch 90 0 7 #[47, 52, 60, 65, 70, 75, 80, 85], 47) := by decide +kernel
theorem dX4_howMany_48 : decode cX4_howMany 48 = .ok (.aload_n 0, 1) := by decide +kernel
theorem dX4_howMany_49 : decode cX4_howMany 49 = .ok (.getfield 76, 3) := by decide +kernel
theorem dX4_howMany_52 : decode cX4_howMany 52 = .ok (.ireturn, 1) := by decide +kernel
theorem dX4_howMany_53 : decode cX4_howMany 53 = .ok (.aload_n 0, 1) := by decide +kernel
theorem dX4_howMany_54 : decode cX4_howMany 54 = .ok (.getfield 86, 3) := by decide +kernel
theorem dX4_howMany_57 : decode cX4_howMany 57 = .ok (.invokestatic 133, 3) := by decide +kernel
theorem dX4_howMany_60 : decode cX4_howMany 60 = .ok (.ireturn, 1) := by decide +kernel
theorem dX4_howMany_61 : decode cX4_howMany 61 = .ok (.aload_n 0, 1) := by decide +kernel
theorem dX4_howMany_62 : decode cX4_howMany 62 = .ok (.getfield 89, 3) := by decide +kernel
theorem dX4_howMany_65 : decode cX4_howMany 65 = .ok (.ireturn, 1) := by decide +kernel
theorem dX4_howMany_66 : decode cX4_howMany 66 = .ok (.aload_n 0, 1) := by decide +kernel
theorem dX4_howMany_67 : decode cX4_howMany 67 = .ok (.invokevirtual 172, 3) := by decide +kernel
theorem dX4_howMany_70 : decode cX4_howMany 70 = .ok (.ireturn, 1) := by decide +kernel
theorem dX4_howMany_71 : decode cX4_howMany 71 = .ok (.aload_n 0, 1) := by decide +kernel
theorem dX4_howMany_72 : decode cX4_howMany 72 = .ok (.invokevirtual 175, 3) := by decide +kernel
theorem dX4_howMany_75 : decode cX4_howMany 75 = .ok (.ireturn, 1) := by decide +kernel
theorem dX4_howMany_76 : decode cX4_howMany 76 = .ok (.aload_n 0, 1) := by decide +kernel
theorem dX4_howMany_77 : decode cX4_howMany 77 = .ok (.getfield 92, 3) := by decide +kernel
theorem dX4_howMany_80 : decode cX4_howMany 80 = .ok (.ireturn, 1) := by decide +kernel
theorem dX4_howMany_81 : decode cX4_howMany 81 = .ok (.aload_n 0, 1) := by decide +kernel
theorem dX4_howMany_82 : decode cX4_howMany 82 = .ok (.getfield 60, 3) := by decide +kernel
theorem dX4_howMany_85 : decode cX4_howMany 85 = .ok (.ireturn, 1) := by decide +kernel
theorem dX4_howMany_86 : decode cX4_howMany 86 = .ok (.aload_n 0, 1) := by decide +kernel
theorem dX4_howMany_87 : decode cX4_howMany 87 = .ok (.getfield 83, 3) := by decide +kernel
theorem dX4_howMany_90 : decode cX4_howMany 90 = .ok (.ireturn, 1) := by decide +kernel
theorem dX4_howMany_91 : decode cX4_howMany 91 = .ok (.bipush (-102), 2) := by decide +kernel
theorem dX4_howMany_93 : decode cX4_howMany 93 = .ok (.ireturn, 1) := by decide +kernel
theorem dX4_count_0 : decode cX4_count 0 = .ok (.aload_n 0, 1) := by decide +kernel
theorem dX4_count_1 : decode cX4_count 1 = .ok (.iload_n 1, 1) := by decide +kernel
theorem dX4_count_2 : decode cX4_count 2 = .ok (.invokevirtual 200, 3) := by decide +kernel
theorem dX4_count_5 : decode cX4_count 5 = .ok (.ireturn, 1) := by decide +kernel
theorem dX4_mix_0 : decode cX4_mix 0 = .ok (.aload_n 0, 1) := by decide +kernel
theorem dX4_mix_1 : decode cX4_mix 1 = .ok (.ldc2_w 203, 3) := by decide +kernel
theorem dX4_mix_4 : decode cX4_mix 4 = .ok (.aload_n 0, 1) := by decide +kernel
theorem dX4_mix_5 : decode cX4_mix 5 = .ok (.getfield 205, 3) := by decide +kernel
theorem dX4_mix_8 : decode cX4_mix 8 = .ok (.lmul, 1) := by decide +kernel
theorem dX4_mix_9 : decode cX4_mix 9 = .ok (.lload_n 1, 1) := by decide +kernel
theorem dX4_mix_10 : decode cX4_mix 10 = .ok (.ladd, 1) := by decide +kernel
theorem dX4_mix_11 : decode cX4_mix 11 = .ok (.putfield 205, 3) := by decide +kernel
theorem dX4_mix_14 : decode cX4_mix 14 = .ok (.return_, 1) := by decide +kernel
theorem dX4_digest_0 : decode cX4_digest 0 = .ok (.aload_n 0, 1) := by decide +kernel
theorem dX4_digest_1 : decode cX4_digest 1 = .ok (.ldc2_w 208, 3) := by decide +kernel
theorem dX4_digest_4 : decode cX4_digest 4 = .ok (.putfield 205, 3) := by decide +kernel
theorem dX4_digest_7 : decode cX4_digest 7 = .ok (.iconst 0, 1) := by decide +kernel
theorem dX4_digest_8 : decode cX4_digest 8 = .ok (.istore_n 1, 1) := by decide +kernel
theorem dX4_digest_9 : decode cX4_digest 9 = .ok (.iload_n 1, 1) := by decide +kernel
theorem dX4_digest_10 : decode cX4_digest 10 = .ok (.aload_n 0, 1) := by decide +kernel
theorem dX4_digest_11 : decode cX4_digest 11 = .ok (.getfield 76, 3) := by decide +kernel
theorem dX4_digest_14 : decode cX4_digest 14 = .ok (.if_icmp .ge 69, 3) := by decide +kernel
theorem dX4_digest_17 : decode cX4_digest 17 = .ok (.iconst 0, 1) := by decide +kernel
theorem dX4_digest_18 : decode cX4_digest 18 = .ok (.istore_n 2, 1) := by decide +kernel
theorem dX4_digest_19 : decode cX4_digest 19 = .ok (.iload_n 2, 1) := by decide +kernel
theorem dX4_digest_20 : decode cX4_digest 20 = .ok (.bipush 6, 2) := by decide +kernel
theorem dX4_digest_22 : decode cX4_digest 22 = .ok (.if_icmp .ge 20, 3) := by decide +kernel
theorem dX4_digest_25 : decode cX4_digest 25 = .ok (.aload_n 0, 1) := by decide +kernel
theorem dX4_digest_26 : decode cX4_digest 26 = .ok (.aload_n 0, 1) := by decide +kernel
theorem dX4_digest_27 : decode cX4_digest 27 = .ok (.iload_n 1, 1) := by decide +kernel
theorem dX4_digest_28 : decode cX4_digest 28 = .ok (.iload_n 2, 1) := by decide +kernel
theorem dX4_digest_29 : decode cX4_digest 29 = .ok (.invokevirtual 112, 3) := by decide +kernel
theorem dX4_digest_32 : decode cX4_digest 32 = .ok (.i2l, 1) := by decide +kernel
theorem dX4_digest_33 : decode cX4_digest 33 = .ok (.invokevirtual 210, 3) := by decide +kernel
theorem dX4_digest_36 : decode cX4_digest 36 = .ok (.iinc 2 1, 3) := by decide +kernel
theorem dX4_digest_39 : decode cX4_digest 39 = .ok (.goto (-20), 3) := by decide +kernel
theorem dX4_digest_42 : decode cX4_digest 42 = .ok (.aload_n 0, 1) := by decide +kernel
theorem dX4_digest_43 : decode cX4_digest 43 = .ok (.aload_n 0, 1) := by decide +kernel
theorem dX4_digest_44 : decode cX4_digest 44 = .ok (.iload_n 1, 1) := by decide +kernel
theorem dX4_digest_45 : decode cX4_digest 45 = .ok (.iconst 3, 1) := by decide +kernel
theorem dX4_digest_46 : decode cX4_digest 46 = .ok (.invokevirtual 99, 3) := by decide +kernel
theorem dX4_digest_49 : decode cX4_digest 49 = .ok (.i2l, 1) := by decide +kernel
theorem dX4_digest_50 : decode cX4_digest 50 = .ok (.invokevirtual 210, 3) := by decide +kernel
theorem dX4_digest_53 : decode cX4_digest 53 = .ok (.aload_n 0, 1) := by decide +kernel
theorem dX4_digest_54 : decode cX4_digest 54 = .ok (.aload_n 0, 1) := by decide +kernel
theorem dX4_digest_55 : decode cX4_digest 55 = .ok (.iload_n 1, 1) := by decide +kernel
theorem dX4_digest_56 : decode cX4_digest 56 = .ok (.bipush 9, 2) := by decide +kernel
theorem dX4_digest_58 : decode cX4_digest 58 = .ok (.invokevirtual 99, 3) := by decide +kernel
theorem dX4_digest_61 : decode cX4_digest 61 = .ok (.i2l, 1) := by decide +kernel
theorem dX4_digest_62 : decode cX4_digest 62 = .ok (.invokevirtual 210, 3) := by decide +kernel
theorem dX4_digest_65 : decode cX4_digest 65 = .ok (.aload_n 0, 1) := by decide +kernel
theorem dX4_digest_66 : decode cX4_digest 66 = .ok (.aload_n 0, 1) := by decide +kernel
theorem dX4_digest_67 : decode cX4_digest 67 = .ok (.iload_n 1, 1) := by decide +kernel
theorem dX4_digest_68 : decode cX4_digest 68 = .ok (.bipush 6, 2) := by decide +kernel
theorem dX4_digest_70 : decode cX4_digest 70 = .ok (.invokevirtual 154, 3) := by decide +kernel
theorem dX4_digest_73 : decode cX4_digest 73 = .ok (.i2l, 1) := by decide +kernel
theorem dX4_digest_74 : decode cX4_digest 74 = .ok (.invokevirtual 210, 3) := by decide +kernel
theorem dX4_digest_77 : decode cX4_digest 77 = .ok (.iinc 1 1, 3) := by decide +kernel
theorem dX4_digest_80 : decode cX4_digest 80 = .ok (.goto (-71), 3) := by decide +kernel
theorem dX4_digest_83 : decode cX4_digest 83 = .ok (.aload_n 0, 1) := by decide +kernel
theorem dX4_digest_84 : decode cX4_digest 84 = .ok (.getfield 76, 3) := by decide +kernel
theorem dX4_digest_87 : decode cX4_digest 87 = .ok (.ifCond .le 77, 3) := by decide +kernel
theorem dX4_digest_90 : decode cX4_digest 90 = .ok (.iconst 0, 1) := by decide +kernel
theorem dX4_digest_91 : decode cX4_digest 91 = .ok (.istore_n 1, 1) := by decide +kernel
theorem dX4_digest_92 : decode cX4_digest 92 = .ok (.iload_n 1, 1) := by decide +kernel
theorem dX4_digest_93 : decode cX4_digest 93 = .ok (.bipush 10, 2) := by decide +kernel
theorem dX4_digest_95 : decode cX4_digest 95 = .ok (.if_icmp .ge 31, 3) := by decide +kernel
theorem dX4_digest_98 : decode cX4_digest 98 = .ok (.aload_n 0, 1) := by decide +kernel
theorem dX4_digest_99 : decode cX4_digest 99 = .ok (.aload_n 0, 1) := by decide +kernel
theorem dX4_digest_100 : decode cX4_digest 100 = .ok (.getfield 22, 3) := by decide +kernel
theorem dX4_digest_103 : decode cX4_digest 103 = .ok (.iload_n 1, 1) := by decide +kernel
theorem dX4_digest_104 : decode cX4_digest 104 = .ok (.iaload, 1) := by decide +kernel
theorem dX4_digest_105 : decode cX4_digest 105 = .ok (.i2l, 1) := by decide +kernel
theorem dX4_digest_106 : decode cX4_digest 106 = .ok (.invokevirtual 210, 3) := by decide +kernel
theorem dX4_digest_109 : decode cX4_digest 109 = .ok (.aload_n 0, 1) := by decide +kernel
theorem dX4_digest_110 : decode cX4_digest 110 = .ok (.aload_n 0, 1) := by decide +kernel
theorem dX4_digest_111 : decode cX4_digest 111 = .ok (.iload_n 1, 1) := by decide +kernel
theorem dX4_digest_112 : decode cX4_digest 112 = .ok (.iconst 4, 1) := by decide +kernel
theorem dX4_digest_113 : decode cX4_digest 113 = .ok (.invokevirtual 121, 3) := by decide +kernel
theorem dX4_digest_116 : decode cX4_digest 116 = .ok (.i2l, 1) := by decide +kernel
theorem dX4_digest_117 : decode cX4_digest 117 = .ok (.invokevirtual 210, 3) := by decide +kernel
theorem dX4_digest_120 : decode cX4_digest 120 = .ok (.iinc 1 1, 3) := by decide +kernel
theorem dX4_digest_123 : decode cX4_digest 123 = .ok (.goto (-31), 3) := by decide +kernel
theorem dX4_digest_126 : decode cX4_digest 126 = .ok (.aload_n 0, 1) := by decide +kernel
theorem dX4_digest_127 : decode cX4_digest 127 = .ok (.aload_n 0, 1) := by decide +kernel
theorem dX4_digest_128 : decode cX4_digest 128 = .ok (.iconst 5, 1) := by decide +kernel
theorem dX4_digest_129 : decode cX4_digest 129 = .ok (.invokevirtual 127, 3) := by decide +kernel
theorem dX4_digest_132 : decode cX4_digest 132 = .ok (.i2l, 1) := by decide +kernel
theorem dX4_digest_133 : decode cX4_digest 133 = .ok (.invokevirtual 210, 3) := by decide +kernel
theorem dX4_digest_136 : decode cX4_digest 136 = .ok (.aload_n 0, 1) := by decide +kernel
theorem dX4_digest_137 : decode cX4_digest 137 = .ok (.aload_n 0, 1) := by decide +kernel
theorem dX4_digest_138 : decode cX4_digest 138 = .ok (.iconst 4, 1) := by decide +kernel
theorem dX4_digest_139 : decode cX4_digest 139 = .ok (.sipush 1023, 3) := by decide +kernel
theorem dX4_digest_142 : decode cX4_digest 142 = .ok (.iconst 0, 1) := by decide +kernel
theorem dX4_digest_143 : decode cX4_digest 143 = .ok (.invokevirtual 139, 3) := by decide +kernel
theorem dX4_digest_146 : decode cX4_digest 146 = .ok (.i2l, 1) := by decide +kernel
theorem dX4_digest_147 : decode cX4_digest 147 = .ok (.invokevirtual 210, 3) := by decide +kernel
theorem dX4_digest_150 : decode cX4_digest 150 = .ok (.aload_n 0, 1) := by decide +kernel
theorem dX4_digest_151 : decode cX4_digest 151 = .ok (.aload_n 0, 1) := by decide +kernel
theorem dX4_digest_152 : decode cX4_digest 152 = .ok (.iconst 4, 1) := by decide +kernel
theorem dX4_digest_153 : decode cX4_digest 153 = .ok (.sipush 1023, 3) := by decide +kernel
theorem dX4_digest_156 : decode cX4_digest 156 = .ok (.iconst 1, 1) := by decide +kernel
theorem dX4_digest_157 : decode cX4_digest 157 = .ok (.invokevirtual 139, 3) := by decide +kernel
theorem dX4_digest_160 : decode cX4_digest 160 = .ok (.i2l, 1) := by decide +kernel
theorem dX4_digest_161 : decode cX4_digest 161 = .ok (.invokevirtual 210, 3) := by decide +kernel
theorem dX4_digest_164 : decode cX4_digest 164 = .ok (.iconst 0, 1) := by decide +kernel
theorem dX4_digest_165 : decode cX4_digest 165 = .ok (.istore_n 1, 1) := by decide +kernel
theorem dX4_digest_166 : decode cX4_digest 166 = .ok (.iload_n 1, 1) := by decide +kernel
theorem dX4_digest_167 : decode cX4_digest 167 = .ok (.aload_n 0, 1) := by decide +kernel
theorem dX4_digest_168 : decode cX4_digest 168 = .ok (.getfield 60, 3) := by decide +kernel
theorem dX4_digest_171 : decode cX4_digest 171 = .ok (.if_icmp .ge 20, 3) := by decide +kernel
theorem dX4_digest_174 : decode cX4_digest 174 = .ok (.aload_n 0, 1) := by decide +kernel
theorem dX4_digest_175 : decode cX4_digest 175 = .ok (.aload_n 0, 1) := by decide +kernel
theorem dX4_digest_176 : decode cX4_digest 176 = .ok (.getfield 34, 3) := by decide +kernel
theorem dX4_digest_179 : decode cX4_digest 179 = .ok (.iload_n 1, 1) := by decide +kernel
theorem dX4_digest_180 : decode cX4_digest 180 = .ok (.baload, 1) := by decide +kernel
theorem dX4_digest_181 : decode cX4_digest 181 = .ok (.i2l, 1) := by decide +kernel
theorem dX4_digest_182 : decode cX4_digest 182 = .ok (.invokevirtual 210, 3) := by decide +kernel
theorem dX4_digest_185 : decode cX4_digest 185 = .ok (.iinc 1 1, 3) := by decide +kernel
theorem dX4_digest_188 : decode cX4_digest 188 = .ok (.goto (-22), 3) := by decide +kernel
theorem dX4_digest_191 : decode cX4_digest 191 = .ok (.iconst 0, 1) := by decide +kernel
theorem dX4_digest_192 : decode cX4_digest 192 = .ok (.istore_n 1, 1) := by decide +kernel
theorem dX4_digest_193 : decode cX4_digest 193 = .ok (.iload_n 1, 1) := by decide +kernel
theorem dX4_digest_194 : decode cX4_digest 194 = .ok (.bipush 8, 2) := by decide +kernel
theorem dX4_digest_196 : decode cX4_digest 196 = .ok (.if_icmp .ge 19, 3) := by decide +kernel
theorem dX4_digest_199 : decode cX4_digest 199 = .ok (.aload_n 0, 1) := by decide +kernel
theorem dX4_digest_200 : decode cX4_digest 200 = .ok (.aload_n 0, 1) := by decide +kernel
theorem dX4_digest_201 : decode cX4_digest 201 = .ok (.iload_n 1, 1) := by decide +kernel
theorem dX4_digest_202 : decode cX4_digest 202 = .ok (.invokevirtual 200, 3) := by decide +kernel
theorem dX4_digest_205 : decode cX4_digest 205 = .ok (.i2l, 1) := by decide +kernel
theorem dX4_digest_206 : decode cX4_digest 206 = .ok (.invokevirtual 210, 3) := by decide +kernel
theorem dX4_digest_209 : decode cX4_digest 209 = .ok (.iinc 1 1, 3) := by decide +kernel
theorem dX4_digest_212 : decode cX4_digest 212 = .ok (.goto (-19), 3) := by decide +kernel
theorem dX4_digest_215 : decode cX4_digest 215 = .ok (.aload_n 0, 1) := by decide +kernel
theorem dX4_digest_216 : decode cX4_digest 216 = .ok (.getfield 205, 3) := by decide +kernel
theorem dX4_digest_219 : decode cX4_digest 219 = .ok (.lreturn, 1) := by decide +kernel
theorem dJ6_bitCount_0f7a4_0 : decode cJ6_bitCount_0f7a4 0 = .ok (.iload_n 0, 1) := by decide +kernel
theorem dJ6_bitCount_0f7a4_1 : decode cJ6_bitCount_0f7a4 1 = .ok (.iload_n 0, 1) := by decide +kernel
theorem dJ6_bitCount_0f7a4_2 : decode cJ6_bitCount_0f7a4 2 = .ok (.iconst 1, 1) := by decide +kernel
theorem dJ6_bitCount_0f7a4_3 : decode cJ6_bitCount_0f7a4 3 = .ok (.iushr, 1) := by decide +kernel
theorem dJ6_bitCount_0f7a4_4 : decode cJ6_bitCount_0f7a4 4 = .ok (.ldc_w 265, 3) := by decide +kernel
theorem dJ6_bitCount_0f7a4_7 : decode cJ6_bitCount_0f7a4 7 = .ok (.iand, 1) := by decide +kernel
theorem dJ6_bitCount_0f7a4_8 : decode cJ6_bitCount_0f7a4 8 = .ok (.isub, 1) := by decide +kernel
theorem dJ6_bitCount_0f7a4_9 : decode cJ6_bitCount_0f7a4 9 = .ok (.istore_n 0, 1) := by decide +kernel
theorem dJ6_bitCount_0f7a4_10 : decode cJ6_bitCount_0f7a4 10 = .ok (.iload_n 0, 1) := by decide +kernel
theorem dJ6_bitCount_0f7a4_11 : decode cJ6_bitCount_0f7a4 11 = .ok (.ldc_w 266, 3) := by decide +kernel
theorem dJ6_bitCount_0f7a4_14 : decode cJ6_bitCount_0f7a4 14 = .ok (.iand, 1) := by decide +kernel
theorem dJ6_bitCount_0f7a4_15 : decode cJ6_bitCount_0f7a4 15 = .ok (.iload_n 0, 1) := by decide +kernel
theorem dJ6_bitCount_0f7a4_16 : decode cJ6_bitCount_0f7a4 16 = .ok (.iconst 2, 1) := by decide +kernel
theorem dJ6_bitCount_0f7a4_17 : decode cJ6_bitCount_0f7a4 17 = .ok (.iushr, 1) := by decide +kernel
theorem dJ6_bitCount_0f7a4_18 : decode cJ6_bitCount_0f7a4 18 = .ok (.ldc_w 266, 3) := by decide +kernel
theorem dJ6_bitCount_0f7a4_21 : decode cJ6_bitCount_0f7a4 21 = .ok (.iand, 1) := by decide +kernel
theorem dJ6_bitCount_0f7a4_22 : decode cJ6_bitCount_0f7a4 22 = .ok (.iadd, 1) := by decide +kernel
theorem dJ6_bitCount_0f7a4_23 : decode cJ6_bitCount_0f7a4 23 = .ok (.istore_n 0, 1) := by decide +kernel
theorem dJ6_bitCount_0f7a4_24 : decode cJ6_bitCount_0f7a4 24 = .ok (.iload_n 0, 1) := by decide +kernel
theorem dJ6_bitCount_0f7a4_25 : decode cJ6_bitCount_0f7a4 25 = .ok (.iload_n 0, 1) := by decide +kernel
theorem dJ6_bitCount_0f7a4_26 : decode cJ6_bitCount_0f7a4 26 = .ok (.iconst 4, 1) := by decide +kernel
theorem dJ6_bitCount_0f7a4_27 : decode cJ6_bitCount_0f7a4 27 = .ok (.iushr, 1) := by decide +kernel
theorem dJ6_bitCount_0f7a4_28 : decode cJ6_bitCount_0f7a4 28 = .ok (.iadd, 1) := by decide +kernel
theorem dJ6_bitCount_0f7a4_29 : decode cJ6_bitCount_0f7a4 29 = .ok (.ldc_w 267, 3) := by decide +kernel
theorem dJ6_bitCount_0f7a4_32 : decode cJ6_bitCount_0f7a4 32 = .ok (.iand, 1) := by decide +kernel
theorem dJ6_bitCount_0f7a4_33 : decode cJ6_bitCount_0f7a4 33 = .ok (.istore_n 0, 1) := by decide +kernel
theorem dJ6_bitCount_0f7a4_34 : decode cJ6_bitCount_0f7a4 34 = .ok (.iload_n 0, 1) := by decide +kernel
theorem dJ6_bitCount_0f7a4_35 : decode cJ6_bitCount_0f7a4 35 = .ok (.iload_n 0, 1) := by decide +kernel
theorem dJ6_bitCount_0f7a4_36 : decode cJ6_bitCount_0f7a4 36 = .ok (.bipush 8, 2) := by decide +kernel
theorem dJ6_bitCount_0f7a4_38 : decode cJ6_bitCount_0f7a4 38 = .ok (.iushr, 1) := by decide +kernel
theorem dJ6_bitCount_0f7a4_39 : decode cJ6_bitCount_0f7a4 39 = .ok (.iadd, 1) := by decide +kernel
theorem dJ6_bitCount_0f7a4_40 : decode cJ6_bitCount_0f7a4 40 = .ok (.istore_n 0, 1) := by decide +kernel
theorem dJ6_bitCount_0f7a4_41 : decode cJ6_bitCount_0f7a4 41 = .ok (.iload_n 0, 1) := by decide +kernel
theorem dJ6_bitCount_0f7a4_42 : decode cJ6_bitCount_0f7a4 42 = .ok (.iload_n 0, 1) := by decide +kernel
theorem dJ6_bitCount_0f7a4_43 : decode cJ6_bitCount_0f7a4 43 = .ok (.bipush 16, 2) := by decide +kernel
theorem dJ6_bitCount_0f7a4_45 : decode cJ6_bitCount_0f7a4 45 = .ok (.iushr, 1) := by decide +kernel
theorem dJ6_bitCount_0f7a4_46 : decode cJ6_bitCount_0f7a4 46 = .ok (.iadd, 1) := by decide +kernel
theorem dJ6_bitCount_0f7a4_47 : decode cJ6_bitCount_0f7a4 47 = .ok (.istore_n 0, 1) := by decide +kernel
theorem dJ6_bitCount_0f7a4_48 : decode cJ6_bitCount_0f7a4 48 = .ok (.iload_n 0, 1) := by decide +kernel
theorem dJ6_bitCount_0f7a4_49 : decode cJ6_bitCount_0f7a4 49 = .ok (.bipush 63, 2) := by decide +kernel
theorem dJ6_bitCount_0f7a4_51 : decode cJ6_bitCount_0f7a4 51 = .ok (.iand, 1) := by decide +kernel
theorem dJ6_bitCount_0f7a4_52 : decode cJ6_bitCount_0f7a4 52 = .ok (.ireturn, 1) := by decide +kernel
theorem dJ0_indexOf_0f7a4_0 : decode cJ0_indexOf_0f7a4 0 = .ok (.aload_n 0, 1) := by decide +kernel
theorem dJ0_indexOf_0f7a4_1 : decode cJ0_indexOf_0f7a4 1 = .ok (.iload_n 1, 1) := by decide +kernel
theorem dJ0_indexOf_0f7a4_2 : decode cJ0_indexOf_0f7a4 2 = .ok (.iconst 0, 1) := by decide +kernel
theorem dJ0_indexOf_0f7a4_3 : decode cJ0_indexOf_0f7a4 3 = .ok (.invokevirtual 633, 3) := by decide +kernel
theorem dJ0_indexOf_0f7a4_6 : decode cJ0_indexOf_0f7a4 6 = .ok (.ireturn, 1) := by decide +kernel
theorem dJ0_indexOf_7cf53_0 : decode cJ0_indexOf_7cf53 0 = .ok (.aload_n 0, 1) := by decide +kernel
theorem dJ0_indexOf_7cf53_1 : decode cJ0_indexOf_7cf53 1 = .ok (.invokevirtual 492, 3) := by decide +kernel
theorem dJ0_indexOf_7cf53_4 : decode cJ0_indexOf_7cf53 4 = .ok (.ifCond .eq 19, 3) := by decide +kernel
theorem dJ0_indexOf_7cf53_7 : decode cJ0_indexOf_7cf53 7 = .ok (.aload_n 0, 1) := by decide +kernel
theorem dJ0_indexOf_7cf53_8 : decode cJ0_indexOf_7cf53 8 = .ok (.getfield 9, 3) := by decide +kernel
theorem dJ0_indexOf_7cf53_11 : decode cJ0_indexOf_7cf53 11 = .ok (.iload_n 1, 1) := by decide +kernel
theorem dJ0_indexOf_7cf53_12 : decode cJ0_indexOf_7cf53 12 = .ok (.iload_n 2, 1) := by decide +kernel
theorem dJ0_indexOf_7cf53_13 : decode cJ0_indexOf_7cf53 13 = .ok (.aload_n 0, 1) := by decide +kernel
theorem dJ0_indexOf_7cf53_14 : decode cJ0_indexOf_7cf53 14 = .ok (.invokevirtual 505, 3) := by decide +kernel
theorem dJ0_indexOf_7cf53_17 : decode cJ0_indexOf_7cf53 17 = .ok (.invokestatic 637, 3) := by decide +kernel
theorem dJ0_indexOf_7cf53_20 : decode cJ0_indexOf_7cf53 20 = .ok (.goto 16, 3) := by decide +kernel
theorem dJ0_indexOf_7cf53_23 : decode cJ0_indexOf_7cf53 23 = .ok (.aload_n 0, 1) := by decide +kernel
theorem dJ0_indexOf_7cf53_24 : decode cJ0_indexOf_7cf53 24 = .ok (.getfield 9, 3) := by decide +kernel
theorem dJ0_indexOf_7cf53_27 : decode cJ0_indexOf_7cf53 27 = .ok (.iload_n 1, 1) := by decide +kernel
theorem dJ0_indexOf_7cf53_28 : decode cJ0_indexOf_7cf53 28 = .ok (.iload_n 2, 1) := by decide +kernel
theorem dJ0_indexOf_7cf53_29 : decode cJ0_indexOf_7cf53 29 = .ok (.aload_n 0, 1) := by decide +kernel
theorem dJ0_indexOf_7cf53_30 : decode cJ0_indexOf_7cf53 30 = .ok (.invokevirtual 505, 3) := by decide +kernel
theorem dJ0_indexOf_7cf53_33 : decode cJ0_indexOf_7cf53 33 = .ok (.invokestatic 640, 3) := by decide +kernel
theorem dJ0_indexOf_7cf53_36 : decode cJ0_indexOf_7cf53 36 = .ok (.ireturn, 1) := by decide +kernel
theorem dJ0_isLatin1_aae02_0 : decode cJ0_isLatin1_aae02 0 = .ok (.getstatic 38, 3) := by decide +kernel
theorem dJ0_isLatin1_aae02_3 : decode cJ0_isLatin1_aae02 3 = .ok (.ifCond .eq 14, 3) := by decide +kernel
theorem dJ0_isLatin1_aae02_6 : decode cJ0_isLatin1_aae02 6 = .ok (.aload_n 0, 1) := by decide +kernel
theorem dJ0_isLatin1_aae02_7 : decode cJ0_isLatin1_aae02 7 = .ok (.getfield 15, 3) := by decide +kernel
theorem dJ0_isLatin1_aae02_10 : decode cJ0_isLatin1_aae02 10 = .ok (.ifCond .ne 7, 3) := by decide +kernel
theorem dJ0_isLatin1_aae02_13 : decode cJ0_isLatin1_aae02 13 = .ok (.iconst 1, 1) := by decide +kernel
theorem dJ0_isLatin1_aae02_14 : decode cJ0_isLatin1_aae02 14 = .ok (.goto 4, 3) := by decide +kernel
theorem dJ0_isLatin1_aae02_17 : decode cJ0_isLatin1_aae02 17 = .ok (.iconst 0, 1) := by decide +kernel
theorem dJ0_isLatin1_aae02_18 : decode cJ0_isLatin1_aae02 18 = .ok (.ireturn, 1) := by decide +kernel
theorem dJ1_canEncode_9a6ad_0 : decode cJ1_canEncode_9a6ad 0 = .ok (.iload_n 0, 1) := by decide +kernel
theorem dJ1_canEncode_9a6ad_1 : decode cJ1_canEncode_9a6ad 1 = .ok (.ifCond .lt 14, 3) := by decide +kernel
theorem dJ1_canEncode_9a6ad_4 : decode cJ1_canEncode_9a6ad 4 = .ok (.iload_n 0, 1) := by decide +kernel
theorem dJ1_canEncode_9a6ad_5 : decode cJ1_canEncode_9a6ad 5 = .ok (.sipush 255, 3) := by decide +kernel
theorem dJ1_canEncode_9a6ad_8 : decode cJ1_canEncode_9a6ad 8 = .ok (.if_icmp .gt 7, 3) := by decide +kernel
theorem dJ1_canEncode_9a6ad_11 : decode cJ1_canEncode_9a6ad 11 = .ok (.iconst 1, 1) := by decide +kernel
theorem dJ1_canEncode_9a6ad_12 : decode cJ1_canEncode_9a6ad 12 = .ok (.goto 4, 3) := by decide +kernel
theorem dJ1_canEncode_9a6ad_15 : decode cJ1_canEncode_9a6ad 15 = .ok (.iconst 0, 1) := by decide +kernel
theorem dJ1_canEncode_9a6ad_16 : decode cJ1_canEncode_9a6ad 16 = .ok (.ireturn, 1) := by decide +kernel
theorem dJ1_indexOf_4cfef_0 : decode cJ1_indexOf_4cfef 0 = .ok (.iload_n 1, 1) := by decide +kernel
theorem dJ1_indexOf_4cfef_1 : decode cJ1_indexOf_4cfef 1 = .ok (.invokestatic 88, 3) := by decide +kernel
theorem dJ1_indexOf_4cfef_4 : decode cJ1_indexOf_4cfef 4 = .ok (.ifCond .ne 5, 3) := by decide +kernel
theorem dJ1_indexOf_4cfef_7 : decode cJ1_indexOf_4cfef 7 = .ok (.iconst (-1), 1) := by decide +kernel
theorem dJ1_indexOf_4cfef_8 : decode cJ1_indexOf_4cfef 8 = .ok (.ireturn, 1) := by decide +kernel
theorem dJ1_indexOf_4cfef_9 : decode cJ1_indexOf_4cfef 9 = .ok (.iload_n 2, 1) := by decide +kernel
theorem dJ1_indexOf_4cfef_10 : decode cJ1_indexOf_4cfef 10 = .ok (.iconst 0, 1) := by decide +kernel
theorem dJ1_indexOf_4cfef_11 : decode cJ1_indexOf_4cfef 11 = .ok (.invokestatic 92, 3) := by decide +kernel
theorem dJ1_indexOf_4cfef_14 : decode cJ1_indexOf_4cfef 14 = .ok (.istore_n 2, 1) := by decide +kernel
theorem dJ1_indexOf_4cfef_15 : decode cJ1_indexOf_4cfef 15 = .ok (.iload_n 3, 1) := by decide +kernel
theorem dJ1_indexOf_4cfef_16 : decode cJ1_indexOf_4cfef 16 = .ok (.aload_n 0, 1) := by decide +kernel
theorem dJ1_indexOf_4cfef_17 : decode cJ1_indexOf_4cfef 17 = .ok (.arraylength, 1) := by decide +kernel
theorem dJ1_indexOf_4cfef_18 : decode cJ1_indexOf_4cfef 18 = .ok (.invokestatic 38, 3) := by decide +kernel
theorem dJ1_indexOf_4cfef_21 : decode cJ1_indexOf_4cfef 21 = .ok (.istore_n 3, 1) := by decide +kernel
theorem dJ1_indexOf_4cfef_22 : decode cJ1_indexOf_4cfef 22 = .ok (.iload_n 2, 1) := by decide +kernel
theorem dJ1_indexOf_4cfef_23 : decode cJ1_indexOf_4cfef 23 = .ok (.iload_n 3, 1) := by decide +kernel
theorem dJ1_indexOf_4cfef_24 : decode cJ1_indexOf_4cfef 24 = .ok (.if_icmp .lt 5, 3) := by decide +kernel
theorem dJ1_indexOf_4cfef_27 : decode cJ1_indexOf_4cfef 27 = .ok (.iconst (-1), 1) := by decide +kernel
theorem dJ1_indexOf_4cfef_28 : decode cJ1_indexOf_4cfef 28 = .ok (.ireturn, 1) := by decide +kernel
theorem dJ1_indexOf_4cfef_29 : decode cJ1_indexOf_4cfef 29 = .ok (.aload_n 0, 1) := by decide +kernel
theorem dJ1_indexOf_4cfef_30 : decode cJ1_indexOf_4cfef 30 = .ok (.iload_n 1, 1) := by decide +kernel
theorem dJ1_indexOf_4cfef_31 : decode cJ1_indexOf_4cfef 31 = .ok (.iload_n 2, 1) := by decide +kernel
theorem dJ1_indexOf_4cfef_32 : decode cJ1_indexOf_4cfef 32 = .ok (.iload_n 3, 1) := by decide +kernel
theorem dJ1_indexOf_4cfef_33 : decode cJ1_indexOf_4cfef 33 = .ok (.invokestatic 95, 3) := by decide +kernel
theorem dJ1_indexOf_4cfef_36 : decode cJ1_indexOf_4cfef 36 = .ok (.ireturn, 1) := by decide +kernel
theorem dJ1_indexOfChar_4cfef_0 : decode cJ1_indexOfChar_4cfef 0 = .ok (.iload_n 1, 1) := by decide +kernel
theorem dJ1_indexOfChar_4cfef_1 : decode cJ1_indexOfChar_4cfef 1 = .ok (.i2b, 1) := by decide +kernel
theorem dJ1_indexOfChar_4cfef_2 : decode cJ1_indexOfChar_4cfef 2 = .ok (.istore 4, 2) := by decide +kernel
theorem dJ1_indexOfChar_4cfef_4 : decode cJ1_indexOfChar_4cfef 4 = .ok (.iload_n 2, 1) := by decide +kernel
theorem dJ1_indexOfChar_4cfef_5 : decode cJ1_indexOfChar_4cfef 5 = .ok (.istore 5, 2) := by decide +kernel
theorem dJ1_indexOfChar_4cfef_7 : decode cJ1_indexOfChar_4cfef 7 = .ok (.iload 5, 2) := by decide +kernel
theorem dJ1_indexOfChar_4cfef_9 : decode cJ1_indexOfChar_4cfef 9 = .ok (.iload_n 3, 1) := by decide +kernel
theorem dJ1_indexOfChar_4cfef_10 : decode cJ1_indexOfChar_4cfef 10 = .ok (.if_icmp .ge 21, 3) := by decide +kernel
theorem dJ1_indexOfChar_4cfef_13 : decode cJ1_indexOfChar_4cfef 13 = .ok (.aload_n 0, 1) := by decide +kernel
theorem dJ1_indexOfChar_4cfef_14 : decode cJ1_indexOfChar_4cfef 14 = .ok (.iload 5, 2) := by decide +kernel
theorem dJ1_indexOfChar_4cfef_16 : decode cJ1_indexOfChar_4cfef 16 = .ok (.baload, 1) := by decide +kernel
theorem dJ1_indexOfChar_4cfef_17 : decode cJ1_indexOfChar_4cfef 17 = .ok (.iload 4, 2) := by decide +kernel
theorem dJ1_indexOfChar_4cfef_19 : decode cJ1_indexOfChar_4cfef 19 = .ok (.if_icmp .ne 6, 3) := by decide +kernel
theorem dJ1_indexOfChar_4cfef_22 : decode cJ1_indexOfChar_4cfef 22 = .ok (.iload 5, 2) := by decide +kernel
theorem dJ1_indexOfChar_4cfef_24 : decode cJ1_indexOfChar_4cfef 24 = .ok (.ireturn, 1) := by decide +kernel
theorem dJ1_indexOfChar_4cfef_25 : decode cJ1_indexOfChar_4cfef 25 = .ok (.iinc 5 1, 3) := by decide +kernel
theorem dJ1_indexOfChar_4cfef_28 : decode cJ1_indexOfChar_4cfef 28 = .ok (.goto (-21), 3) := by decide +kernel
theorem dJ1_indexOfChar_4cfef_31 : decode cJ1_indexOfChar_4cfef 31 = .ok (.iconst (-1), 1) := by decide +kernel
theorem dJ1_indexOfChar_4cfef_32 : decode cJ1_indexOfChar_4cfef 32 = .ok (.ireturn, 1) := by decide +kernel
theorem dL_law_0 : decode cL_law 0 = .ok (.new 7, 3) := by decide +kernel
theorem dL_law_3 : decode cL_law 3 = .ok (.dup, 1) := by decide +kernel
theorem dL_law_4 : decode cL_law 4 = .ok (.invokespecial 9, 3) := by decide +kernel
theorem dL_law_7 : decode cL_law 7 = .ok (.astore_n 1, 1) := by decide +kernel
theorem dL_law_8 : decode cL_law 8 = .ok (.new 10, 3) := by decide +kernel
theorem dL_law_11 : decode cL_law 11 = .ok (.dup, 1) := by decide +kernel
theorem dL_law_12 : decode cL_law 12 = .ok (.invokespecial 12, 3) := by decide +kernel
theorem dL_law_15 : decode cL_law 15 = .ok (.astore_n 2, 1) := by decide +kernel
theorem dL_law_16 : decode cL_law 16 = .ok (.iconst 0, 1) := by decide +kernel
theorem dL_law_17 : decode cL_law 17 = .ok (.istore_n 3, 1) := by decide +kernel
theorem dL_law_18 : decode cL_law 18 = .ok (.iload_n 3, 1) := by decide +kernel
theorem dL_law_19 : decode cL_law 19 = .ok (.aload_n 0, 1) := by decide +kernel
theorem dL_law_20 : decode cL_law 20 = .ok (.arraylength, 1) := by decide +kernel
theorem dL_law_21 : decode cL_law 21 = .ok (.iconst 5, 1) := by decide +kernel
theorem dL_law_22 : decode cL_law 22 = .ok (.isub, 1) := by decide +kernel
theorem dL_law_23 : decode cL_law 23 = .ok (.if_icmp .gt 759, 3) := by decide +kernel
theorem dL_law_26 : decode cL_law 26 = .ok (.aload_n 0, 1) := by decide +kernel
theorem dL_law_27 : decode cL_law 27 = .ok (.iload_n 3, 1) := by decide +kernel
theorem dL_law_28 : decode cL_law 28 = .ok (.iaload, 1) := by decide +kernel
theorem dL_law_29 : decode cL_law 29 = .ok (.bipush 31, 2) := by decide +kernel
theorem dL_law_31 : decode cL_law 31 = .ok (.iand, 1) := by decide +kernel
theorem dL_law_32 : decode cL_law 32 = .ok (.tableswitch 744 0 22 #[108, 131, 144, 157, 170, 203, 236, 289, 338, 371, 394, 427, 450, 473, 506, 549, 592, 605, 638, 681, 694, 707, 730], 108) := by decide +kernel
theorem dL_law_140 : decode cL_law 140 = .ok (.aload_n 1, 1) := by decide +kernel
theorem dL_law_141 : decode cL_law 141 = .ok (.aload_n 0, 1) := by decide +kernel
theorem dL_law_142 : decode cL_law 142 = .ok (.iload_n 3, 1) := by decide +kernel
theorem dL_law_143 : decode cL_law 143 = .ok (.iconst 1, 1) := by decide +kernel
theorem dL_law_144 : decode cL_law 144 = .ok (.iadd, 1) := by decide +kernel
theorem dL_law_145 : decode cL_law 145 = .ok (.iaload, 1) := by decide +kernel
theorem dL_law_146 : decode cL_law 146 = .ok (.invokevirtual 13, 3) := by decide +kernel
theorem dL_law_149 : decode cL_law 149 = .ok (.aload_n 2, 1) := by decide +kernel
theorem dL_law_150 : decode cL_law 150 = .ok (.aload_n 0, 1) := by decide +kernel
theorem dL_law_151 : decode cL_law 151 = .ok (.iload_n 3, 1) := by decide +kernel
theorem dL_law_152 : decode cL_law 152 = .ok (.iconst 1, 1) := by decide +kernel
theorem dL_law_153 : decode cL_law 153 = .ok (.iadd, 1) := by decide +kernel
theorem dL_law_154 : decode cL_law 154 = .ok (.iaload, 1) := by decide +kernel
theorem dL_law_155 : decode cL_law 155 = .ok (.invokevirtual 17, 3) := by decide +kernel
theorem dL_law_158 : decode cL_law 158 = .ok (.if_icmp .eq 618, 3) := by decide +kernel
theorem dL_law_161 : decode cL_law 161 = .ok (.iconst 0, 1) := by decide +kernel
theorem dL_law_162 : decode cL_law 162 = .ok (.ireturn, 1) := by decide +kernel
theorem dL_law_163 : decode cL_law 163 = .ok (.aload_n 1, 1) := by decide +kernel
theorem dL_law_164 : decode cL_law 164 = .ok (.invokevirtual 18, 3) := by decide +kernel
theorem dL_law_167 : decode cL_law 167 = .ok (.aload_n 2, 1) := by decide +kernel
theorem dL_law_168 : decode cL_law 168 = .ok (.invokevirtual 22, 3) := by decide +kernel
theorem dL_law_171 : decode cL_law 171 = .ok (.if_icmp .eq 605, 3) := by decide +kernel
theorem dL_law_174 : decode cL_law 174 = .ok (.iconst 0, 1) := by decide +kernel
theorem dL_law_175 : decode cL_law 175 = .ok (.ireturn, 1) := by decide +kernel
theorem dL_law_176 : decode cL_law 176 = .ok (.aload_n 1, 1) := by decide +kernel
theorem dL_law_177 : decode cL_law 177 = .ok (.invokevirtual 23, 3) := by decide +kernel
theorem dL_law_180 : decode cL_law 180 = .ok (.aload_n 2, 1) := by decide +kernel
theorem dL_law_181 : decode cL_law 181 = .ok (.invokevirtual 26, 3) := by decide +kernel
theorem dL_law_184 : decode cL_law 184 = .ok (.if_icmp .eq 592, 3) := by decide +kernel
theorem dL_law_187 : decode cL_law 187 = .ok (.iconst 0, 1) := by decide +kernel
theorem dL_law_188 : decode cL_law 188 = .ok (.ireturn, 1) := by decide +kernel
theorem dL_law_189 : decode cL_law 189 = .ok (.aload_n 1, 1) := by decide +kernel
theorem dL_law_190 : decode cL_law 190 = .ok (.invokevirtual 27, 3) := by decide +kernel
theorem dL_law_193 : decode cL_law 193 = .ok (.aload_n 2, 1) := by decide +kernel
theorem dL_law_194 : decode cL_law 194 = .ok (.invokevirtual 30, 3) := by decide +kernel
theorem dL_law_197 : decode cL_law 197 = .ok (.if_icmp .eq 579, 3) := by decide +kernel
theorem dL_law_200 : decode cL_law 200 = .ok (.iconst 0, 1) := by decide +kernel
theorem dL_law_201 : decode cL_law 201 = .ok (.ireturn, 1) := by decide +kernel
theorem dL_law_202 : decode cL_law 202 = .ok (.aload_n 1, 1) := by decide +kernel
theorem dL_law_203 : decode cL_law 203 = .ok (.aload_n 0, 1) := by decide +kernel
theorem dL_law_204 : decode cL_law 204 = .ok (.iload_n 3, 1) := by decide +kernel
theorem dL_law_205 : decode cL_law 205 = .ok (.iconst 1, 1) := by decide +kernel
theorem dL_law_206 : decode cL_law 206 = .ok (.iadd, 1) := by decide +kernel
theorem dL_law_207 : decode cL_law 207 = .ok (.iaload, 1) := by decide +kernel
theorem dL_law_208 : decode cL_law 208 = .ok (.aload_n 0, 1) := by decide +kernel
theorem dL_law_209 : decode cL_law 209 = .ok (.iload_n 3, 1) := by decide +kernel
theorem dL_law_210 : decode cL_law 210 = .ok (.iconst 2, 1) := by decide +kernel
theorem dL_law_211 : decode cL_law 211 = .ok (.iadd, 1) := by decide +kernel
theorem dL_law_212 : decode cL_law 212 = .ok (.iaload, 1) := by decide +kernel
theorem dL_law_213 : decode cL_law 213 = .ok (.invokevirtual 31, 3) := by decide +kernel
theorem dL_law_216 : decode cL_law 216 = .ok (.aload_n 2, 1) := by decide +kernel
theorem dL_law_217 : decode cL_law 217 = .ok (.aload_n 0, 1) := by decide +kernel
theorem dL_law_218 : decode cL_law 218 = .ok (.iload_n 3, 1) := by decide +kernel
theorem dL_law_219 : decode cL_law 219 = .ok (.iconst 1, 1) := by decide +kernel
theorem dL_law_220 : decode cL_law 220 = .ok (.iadd, 1) := by decide +kernel
theorem dL_law_221 : decode cL_law 221 = .ok (.iaload, 1) := by decide +kernel
theorem dL_law_222 : decode cL_law 222 = .ok (.aload_n 0, 1) := by decide +kernel
theorem dL_law_223 : decode cL_law 223 = .ok (.iload_n 3, 1) := by decide +kernel
theorem dL_law_224 : decode cL_law 224 = .ok (.iconst 2, 1) := by decide +kernel
theorem dL_law_225 : decode cL_law 225 = .ok (.iadd, 1) := by decide +kernel
theorem dL_law_226 : decode cL_law 226 = .ok (.iaload, 1) := by decide +kernel
theorem dL_law_227 : decode cL_law 227 = .ok (.invokevirtual 35, 3) := by decide +kernel
theorem dL_law_230 : decode cL_law 230 = .ok (.if_icmp .eq 546, 3) := by decide +kernel
theorem dL_law_233 : decode cL_law 233 = .ok (.iconst 0, 1) := by decide +kernel
theorem dL_law_234 : decode cL_law 234 = .ok (.ireturn, 1) := by decide +kernel
theorem dL_law_235 : decode cL_law 235 = .ok (.aload_n 1, 1) := by decide +kernel
theorem dL_law_236 : decode cL_law 236 = .ok (.aload_n 0, 1) := by decide +kernel
theorem dL_law_237 : decode cL_law 237 = .ok (.iload_n 3, 1) := by decide +kernel
theorem dL_law_238 : decode cL_law 238 = .ok (.iconst 1, 1) := by decide +kernel
theorem dL_law_239 : decode cL_law 239 = .ok (.iadd, 1) := by decide +kernel
theorem dL_law_240 : decode cL_law 240 = .ok (.iaload, 1) := by decide +kernel
theorem dL_law_241 : decode cL_law 241 = .ok (.aload_n 0, 1) := by decide +kernel
theorem dL_law_242 : decode cL_law 242 = .ok (.iload_n 3, 1) := by decide +kernel
theorem dL_law_243 : decode cL_law 243 = .ok (.iconst 2, 1) := by decide +kernel
theorem dL_law_244 : decode cL_law 244 = .ok (.iadd, 1) := by decide +kernel
theorem dL_law_245 : decode cL_law 245 = .ok (.iaload, 1) := by decide +kernel
theorem dL_law_246 : decode cL_law 246 = .ok (.invokevirtual 36, 3) := by decide +kernel
theorem dL_law_249 : decode cL_law 249 = .ok (.aload_n 2, 1) := by decide +kernel
theorem dL_law_250 : decode cL_law 250 = .ok (.aload_n 0, 1) := by decide +kernel
theorem dL_law_251 : decode cL_law 251 = .ok (.iload_n 3, 1) := by decide +kernel
theorem dL_law_252 : decode cL_law 252 = .ok (.iconst 1, 1) := by decide +kernel
theorem dL_law_253 : decode cL_law 253 = .ok (.iadd, 1) := by decide +kernel
theorem dL_law_254 : decode cL_law 254 = .ok (.iaload, 1) := by decide +kernel
theorem dL_law_255 : decode cL_law 255 = .ok (.aload_n 0, 1) := by decide +kernel
theorem dL_law_256 : decode cL_law 256 = .ok (.iload_n 3, 1) := by decide +kernel
theorem dL_law_257 : decode cL_law 257 = .ok (.iconst 2, 1) := by decide +kernel
theorem dL_law_258 : decode cL_law 258 = .ok (.iadd, 1) := by decide +kernel
theorem dL_law_259 : decode cL_law 259 = .ok (.iaload, 1) := by decide +kernel
theorem dL_law_260 : decode cL_law 260 = .ok (.invokevirtual 39, 3) := by decide +kernel
theorem dL_law_263 : decode cL_law 263 = .ok (.if_icmp .eq 513, 3) := by decide +kernel
theorem dL_law_266 : decode cL_law 266 = .ok (.iconst 0, 1) := by decide +kernel
theorem dL_law_267 : decode cL_law 267 = .ok (.ireturn, 1) := by decide +kernel
theorem dL_law_268 : decode cL_law 268 = .ok (.aload_n 1, 1) := by decide +kernel
theorem dL_law_269 : decode cL_law 269 = .ok (.aload_n 0, 1) := by decide +kernel
theorem dL_law_270 : decode cL_law 270 = .ok (.iload_n 3, 1) := by decide +kernel
theorem dL_law_271 : decode cL_law 271 = .ok (.iconst 1, 1) := by decide +kernel
theorem dL_law_272 : decode cL_law 272 = .ok (.iadd, 1) := by decide +kernel
theorem dL_law_273 : decode cL_law 273 = .ok (.iaload, 1) := by decide +kernel
theorem dL_law_274 : decode cL_law 274 = .ok (.aload_n 0, 1) := by decide +kernel
theorem dL_law_275 : decode cL_law 275 = .ok (.iload_n 3, 1) := by decide +kernel
theorem dL_law_276 : decode cL_law 276 = .ok (.iconst 2, 1) := by decide +kernel
theorem dL_law_277 : decode cL_law 277 = .ok (.iadd, 1) := by decide +kernel
theorem dL_law_278 : decode cL_law 278 = .ok (.iaload, 1) := by decide +kernel
theorem dL_law_279 : decode cL_law 279 = .ok (.aload_n 0, 1) := by decide +kernel
theorem dL_law_280 : decode cL_law 280 = .ok (.iload_n 3, 1) := by decide +kernel
theorem dL_law_281 : decode cL_law 281 = .ok (.iconst 3, 1) := by decide +kernel
theorem dL_law_282 : decode cL_law 282 = .ok (.iadd, 1) := by decide +kernel
theorem dL_law_283 : decode cL_law 283 = .ok (.iaload, 1) := by decide +kernel
theorem dL_law_284 : decode cL_law 284 = .ok (.aload_n 0, 1) := by decide +kernel
theorem dL_law_285 : decode cL_law 285 = .ok (.iload_n 3, 1) := by decide +kernel
theorem dL_law_286 : decode cL_law 286 = .ok (.iconst 4, 1) := by decide +kernel
theorem dL_law_287 : decode cL_law 287 = .ok (.iadd, 1) := by decide +kernel
theorem dL_law_288 : decode cL_law 288 = .ok (.iaload, 1) := by decide +kernel
theorem dL_law_289 : decode cL_law 289 = .ok (.invokevirtual 40, 3) := by decide +kernel
theorem dL_law_292 : decode cL_law 292 = .ok (.aload_n 2, 1) := by decide +kernel
theorem dL_law_293 : decode cL_law 293 = .ok (.aload_n 0, 1) := by decide +kernel
theorem dL_law_294 : decode cL_law 294 = .ok (.iload_n 3, 1) := by decide +kernel
theorem dL_law_295 : decode cL_law 295 = .ok (.iconst 1, 1) := by decide +kernel
theorem dL_law_296 : decode cL_law 296 = .ok (.iadd, 1) := by decide +kernel
theorem dL_law_297 : decode cL_law 297 = .ok (.iaload, 1) := by decide +kernel
theorem dL_law_298 : decode cL_law 298 = .ok (.aload_n 0, 1) := by decide +kernel
theorem dL_law_299 : decode cL_law 299 = .ok (.iload_n 3, 1) := by decide +kernel
theorem dL_law_300 : decode cL_law 300 = .ok (.iconst 2, 1) := by decide +kernel
theorem dL_law_301 : decode cL_law 301 = .ok (.iadd, 1) := by decide +kernel
theorem dL_law_302 : decode cL_law 302 = .ok (.iaload, 1) := by decide +kernel
theorem dL_law_303 : decode cL_law 303 = .ok (.aload_n 0, 1) := by decide +kernel
theorem dL_law_304 : decode cL_law 304 = .ok (.iload_n 3, 1) := by decide +kernel
theorem dL_law_305 : decode cL_law 305 = .ok (.iconst 3, 1) := by decide +kernel
theorem dL_law_306 : decode cL_law 306 = .ok (.iadd, 1) := by decide +kernel
theorem dL_law_307 : decode cL_law 307 = .ok (.iaload, 1) := by decide +kernel
theorem dL_law_308 : decode cL_law 308 = .ok (.aload_n 0, 1) := by decide +kernel
theorem dL_law_309 : decode cL_law 309 = .ok (.iload_n 3, 1) := by decide +kernel
theorem dL_law_310 : decode cL_law 310 = .ok (.iconst 4, 1) := by decide +kernel
theorem dL_law_311 : decode cL_law 311 = .ok (.iadd, 1) := by decide +kernel
theorem dL_law_312 : decode cL_law 312 = .ok (.iaload, 1) := by decide +kernel
theorem dL_law_313 : decode cL_law 313 = .ok (.invokevirtual 44, 3) := by decide +kernel
theorem dL_law_316 : decode cL_law 316 = .ok (.if_icmp .eq 460, 3) := by decide +kernel
theorem dL_law_319 : decode cL_law 319 = .ok (.iconst 0, 1) := by decide +kernel
theorem dL_law_320 : decode cL_law 320 = .ok (.ireturn, 1) := by decide +kernel
theorem dL_law_321 : decode cL_law 321 = .ok (.aload_n 1, 1) := by decide +kernel
theorem dL_law_322 : decode cL_law 322 = .ok (.aload_n 0, 1) := by decide +kernel
theorem dL_law_323 : decode cL_law 323 = .ok (.iload_n 3, 1) := by decide +kernel
theorem dL_law_324 : decode cL_law 324 = .ok (.iconst 1, 1) := by decide +kernel
theorem dL_law_325 : decode cL_law 325 = .ok (.iadd, 1) := by decide +kernel
theorem dL_law_326 : decode cL_law 326 = .ok (.iaload, 1) := by decide +kernel
theorem dL_law_327 : decode cL_law 327 = .ok (.aload_n 0, 1) := by decide +kernel
theorem dL_law_328 : decode cL_law 328 = .ok (.iload_n 3, 1) := by decide +kernel
theorem dL_law_329 : decode cL_law 329 = .ok (.iconst 2, 1) := by decide +kernel
theorem dL_law_330 : decode cL_law 330 = .ok (.iadd, 1) := by decide +kernel
theorem dL_law_331 : decode cL_law 331 = .ok (.iaload, 1) := by decide +kernel
theorem dL_law_332 : decode cL_law 332 = .ok (.ifCond .eq 7, 3) := by decide +kernel
theorem dL_law_335 : decode cL_law 335 = .ok (.iconst 1, 1) := by decide +kernel
theorem dL_law_336 : decode cL_law 336 = .ok (.goto 4, 3) := by decide +kernel
theorem dL_law_339 : decode cL_law 339 = .ok (.iconst 0, 1) := by decide +kernel
theorem dL_law_340 : decode cL_law 340 = .ok (.invokevirtual 45, 3) := by decide +kernel
theorem dL_law_343 : decode cL_law 343 = .ok (.aload_n 2, 1) := by decide +kernel
theorem dL_law_344 : decode cL_law 344 = .ok (.aload_n 0, 1) := by decide +kernel
theorem dL_law_345 : decode cL_law 345 = .ok (.iload_n 3, 1) := by decide +kernel
theorem dL_law_346 : decode cL_law 346 = .ok (.iconst 1, 1) := by decide +kernel
theorem dL_law_347 : decode cL_law 347 = .ok (.iadd, 1) := by decide +kernel
theorem dL_law_348 : decode cL_law 348 = .ok (.iaload, 1) := by decide +kernel
theorem dL_law_349 : decode cL_law 349 = .ok (.aload_n 0, 1) := by decide +kernel
theorem dL_law_350 : decode cL_law 350 = .ok (.iload_n 3, 1) := by decide +kernel
theorem dL_law_351 : decode cL_law 351 = .ok (.iconst 2, 1) := by decide +kernel
theorem dL_law_352 : decode cL_law 352 = .ok (.iadd, 1) := by decide +kernel
theorem dL_law_353 : decode cL_law 353 = .ok (.iaload, 1) := by decide +kernel
theorem dL_law_354 : decode cL_law 354 = .ok (.ifCond .eq 7, 3) := by decide +kernel
theorem dL_law_357 : decode cL_law 357 = .ok (.iconst 1, 1) := by decide +kernel
theorem dL_law_358 : decode cL_law 358 = .ok (.goto 4, 3) := by decide +kernel
theorem dL_law_361 : decode cL_law 361 = .ok (.iconst 0, 1) := by decide +kernel
theorem dL_law_362 : decode cL_law 362 = .ok (.invokevirtual 49, 3) := by decide +kernel
theorem dL_law_365 : decode cL_law 365 = .ok (.if_icmp .eq 411, 3) := by decide +kernel
theorem dL_law_368 : decode cL_law 368 = .ok (.iconst 0, 1) := by decide +kernel
theorem dL_law_369 : decode cL_law 369 = .ok (.ireturn, 1) := by decide +kernel
theorem dL_law_370 : decode cL_law 370 = .ok (.aload_n 1, 1) := by decide +kernel
theorem dL_law_371 : decode cL_law 371 = .ok (.aload_n 0, 1) := by decide +kernel
theorem dL_law_372 : decode cL_law 372 = .ok (.iload_n 3, 1) := by decide +kernel
theorem dL_law_373 : decode cL_law 373 = .ok (.iconst 1, 1) := by decide +kernel
theorem dL_law_374 : decode cL_law 374 = .ok (.iadd, 1) := by decide +kernel
theorem dL_law_375 : decode cL_law 375 = .ok (.iaload, 1) := by decide +kernel
theorem dL_law_376 : decode cL_law 376 = .ok (.aload_n 0, 1) := by decide +kernel
theorem dL_law_377 : decode cL_law 377 = .ok (.iload_n 3, 1) := by decide +kernel
theorem dL_law_378 : decode cL_law 378 = .ok (.iconst 2, 1) := by decide +kernel
theorem dL_law_379 : decode cL_law 379 = .ok (.iadd, 1) := by decide +kernel
theorem dL_law_380 : decode cL_law 380 = .ok (.iaload, 1) := by decide +kernel
theorem dL_law_381 : decode cL_law 381 = .ok (.invokevirtual 50, 3) := by decide +kernel
theorem dL_law_384 : decode cL_law 384 = .ok (.aload_n 2, 1) := by decide +kernel
theorem dL_law_385 : decode cL_law 385 = .ok (.aload_n 0, 1) := by decide +kernel
theorem dL_law_386 : decode cL_law 386 = .ok (.iload_n 3, 1) := by decide +kernel
theorem dL_law_387 : decode cL_law 387 = .ok (.iconst 1, 1) := by decide +kernel
theorem dL_law_388 : decode cL_law 388 = .ok (.iadd, 1) := by decide +kernel
theorem dL_law_389 : decode cL_law 389 = .ok (.iaload, 1) := by decide +kernel
theorem dL_law_390 : decode cL_law 390 = .ok (.aload_n 0, 1) := by decide +kernel
theorem dL_law_391 : decode cL_law 391 = .ok (.iload_n 3, 1) := by decide +kernel
theorem dL_law_392 : decode cL_law 392 = .ok (.iconst 2, 1) := by decide +kernel
theorem dL_law_393 : decode cL_law 393 = .ok (.iadd, 1) := by decide +kernel
theorem dL_law_394 : decode cL_law 394 = .ok (.iaload, 1) := by decide +kernel
theorem dL_law_395 : decode cL_law 395 = .ok (.invokevirtual 53, 3) := by decide +kernel
theorem dL_law_398 : decode cL_law 398 = .ok (.if_icmp .eq 378, 3) := by decide +kernel
theorem dL_law_401 : decode cL_law 401 = .ok (.iconst 0, 1) := by decide +kernel
theorem dL_law_402 : decode cL_law 402 = .ok (.ireturn, 1) := by decide +kernel
theorem dL_law_403 : decode cL_law 403 = .ok (.aload_n 1, 1) := by decide +kernel
theorem dL_law_404 : decode cL_law 404 = .ok (.aload_n 0, 1) := by decide +kernel
theorem dL_law_405 : decode cL_law 405 = .ok (.iload_n 3, 1) := by decide +kernel
theorem dL_law_406 : decode cL_law 406 = .ok (.iconst 1, 1) := by decide +kernel
theorem dL_law_407 : decode cL_law 407 = .ok (.iadd, 1) := by decide +kernel
theorem dL_law_408 : decode cL_law 408 = .ok (.iaload, 1) := by decide +kernel
theorem dL_law_409 : decode cL_law 409 = .ok (.invokevirtual 54, 3) := by decide +kernel
theorem dL_law_412 : decode cL_law 412 = .ok (.aload_n 2, 1) := by decide +kernel
theorem dL_law_413 : decode cL_law 413 = .ok (.aload_n 0, 1) := by decide +kernel
theorem dL_law_414 : decode cL_law 414 = .ok (.iload_n 3, 1) := by decide +kernel
theorem dL_law_415 : decode cL_law 415 = .ok (.iconst 1, 1) := by decide +kernel
theorem dL_law_416 : decode cL_law 416 = .ok (.iadd, 1) := by decide +kernel
theorem dL_law_417 : decode cL_law 417 = .ok (.iaload, 1) := by decide +kernel
theorem dL_law_418 : decode cL_law 418 = .ok (.invokevirtual 57, 3) := by decide +kernel
theorem dL_law_421 : decode cL_law 421 = .ok (.if_icmp .eq 355, 3) := by decide +kernel
theorem dL_law_424 : decode cL_law 424 = .ok (.iconst 0, 1) := by decide +kernel
theorem dL_law_425 : decode cL_law 425 = .ok (.ireturn, 1) := by decide +kernel
theorem dL_law_426 : decode cL_law 426 = .ok (.aload_n 1, 1) := by decide +kernel
theorem dL_law_427 : decode cL_law 427 = .ok (.aload_n 0, 1) := by decide +kernel
theorem dL_law_428 : decode cL_law 428 = .ok (.iload_n 3, 1) := by decide +kernel
theorem dL_law_429 : decode cL_law 429 = .ok (.iconst 1, 1) := by decide +kernel
theorem dL_law_430 : decode cL_law 430 = .ok (.iadd, 1) := by decide +kernel
theorem dL_law_431 : decode cL_law 431 = .ok (.iaload, 1) := by decide +kernel
theorem dL_law_432 : decode cL_law 432 = .ok (.aload_n 0, 1) := by decide +kernel
theorem dL_law_433 : decode cL_law 433 = .ok (.iload_n 3, 1) := by decide +kernel
theorem dL_law_434 : decode cL_law 434 = .ok (.iconst 2, 1) := by decide +kernel
theorem dL_law_435 : decode cL_law 435 = .ok (.iadd, 1) := by decide +kernel
theorem dL_law_436 : decode cL_law 436 = .ok (.iaload, 1) := by decide +kernel
theorem dL_law_437 : decode cL_law 437 = .ok (.invokevirtual 58, 3) := by decide +kernel
theorem dL_law_440 : decode cL_law 440 = .ok (.aload_n 2, 1) := by decide +kernel
theorem dL_law_441 : decode cL_law 441 = .ok (.aload_n 0, 1) := by decide +kernel
theorem dL_law_442 : decode cL_law 442 = .ok (.iload_n 3, 1) := by decide +kernel
theorem dL_law_443 : decode cL_law 443 = .ok (.iconst 1, 1) := by decide +kernel
theorem dL_law_444 : decode cL_law 444 = .ok (.iadd, 1) := by decide +kernel
theorem dL_law_445 : decode cL_law 445 = .ok (.iaload, 1) := by decide +kernel
theorem dL_law_446 : decode cL_law 446 = .ok (.aload_n 0, 1) := by decide +kernel
theorem dL_law_447 : decode cL_law 447 = .ok (.iload_n 3, 1) := by decide +kernel
theorem dL_law_448 : decode cL_law 448 = .ok (.iconst 2, 1) := by decide +kernel
theorem dL_law_449 : decode cL_law 449 = .ok (.iadd, 1) := by decide +kernel
theorem dL_law_450 : decode cL_law 450 = .ok (.iaload, 1) := by decide +kernel
theorem dL_law_451 : decode cL_law 451 = .ok (.invokevirtual 61, 3) := by decide +kernel
theorem dL_law_454 : decode cL_law 454 = .ok (.if_icmp .eq 322, 3) := by decide +kernel
theorem dL_law_457 : decode cL_law 457 = .ok (.iconst 0, 1) := by decide +kernel
theorem dL_law_458 : decode cL_law 458 = .ok (.ireturn, 1) := by decide +kernel
theorem dL_law_459 : decode cL_law 459 = .ok (.aload_n 1, 1) := by decide +kernel
theorem dL_law_460 : decode cL_law 460 = .ok (.aload_n 0, 1) := by decide +kernel
theorem dL_law_461 : decode cL_law 461 = .ok (.iload_n 3, 1) := by decide +kernel
theorem dL_law_462 : decode cL_law 462 = .ok (.iconst 1, 1) := by decide +kernel
theorem dL_law_463 : decode cL_law 463 = .ok (.iadd, 1) := by decide +kernel
theorem dL_law_464 : decode cL_law 464 = .ok (.iaload, 1) := by decide +kernel
theorem dL_law_465 : decode cL_law 465 = .ok (.invokevirtual 62, 3) := by decide +kernel
theorem dL_law_468 : decode cL_law 468 = .ok (.aload_n 2, 1) := by decide +kernel
theorem dL_law_469 : decode cL_law 469 = .ok (.aload_n 0, 1) := by decide +kernel
theorem dL_law_470 : decode cL_law 470 = .ok (.iload_n 3, 1) := by decide +kernel
theorem dL_law_471 : decode cL_law 471 = .ok (.iconst 1, 1) := by decide +kernel
theorem dL_law_472 : decode cL_law 472 = .ok (.iadd, 1) := by decide +kernel
theorem dL_law_473 : decode cL_law 473 = .ok (.iaload, 1) := by decide +kernel
theorem dL_law_474 : decode cL_law 474 = .ok (.invokevirtual 65, 3) := by decide +kernel
theorem dL_law_477 : decode cL_law 477 = .ok (.if_icmp .eq 299, 3) := by decide +kernel
theorem dL_law_480 : decode cL_law 480 = .ok (.iconst 0, 1) := by decide +kernel
theorem dL_law_481 : decode cL_law 481 = .ok (.ireturn, 1) := by decide +kernel
theorem dL_law_482 : decode cL_law 482 = .ok (.aload_n 1, 1) := by decide +kernel
theorem dL_law_483 : decode cL_law 483 = .ok (.aload_n 0, 1) := by decide +kernel
theorem dL_law_484 : decode cL_law 484 = .ok (.iload_n 3, 1) := by decide +kernel
theorem dL_law_485 : decode cL_law 485 = .ok (.iconst 1, 1) := by decide +kernel
theorem dL_law_486 : decode cL_law 486 = .ok (.iadd, 1) := by decide +kernel
theorem dL_law_487 : decode cL_law 487 = .ok (.iaload, 1) := by decide +kernel
theorem dL_law_488 : decode cL_law 488 = .ok (.invokevirtual 66, 3) := by decide +kernel
theorem dL_law_491 : decode cL_law 491 = .ok (.aload_n 2, 1) := by decide +kernel
theorem dL_law_492 : decode cL_law 492 = .ok (.aload_n 0, 1) := by decide +kernel
theorem dL_law_493 : decode cL_law 493 = .ok (.iload_n 3, 1) := by decide +kernel
theorem dL_law_494 : decode cL_law 494 = .ok (.iconst 1, 1) := by decide +kernel
theorem dL_law_495 : decode cL_law 495 = .ok (.iadd, 1) := by decide +kernel
theorem dL_law_496 : decode cL_law 496 = .ok (.iaload, 1) := by decide +kernel
theorem dL_law_497 : decode cL_law 497 = .ok (.invokevirtual 69, 3) := by decide +kernel
theorem dL_law_500 : decode cL_law 500 = .ok (.if_icmp .eq 276, 3) := by decide +kernel
theorem dL_law_503 : decode cL_law 503 = .ok (.iconst 0, 1) := by decide +kernel
theorem dL_law_504 : decode cL_law 504 = .ok (.ireturn, 1) := by decide +kernel
theorem dL_law_505 : decode cL_law 505 = .ok (.aload_n 1, 1) := by decide +kernel
theorem dL_law_506 : decode cL_law 506 = .ok (.aload_n 0, 1) := by decide +kernel
theorem dL_law_507 : decode cL_law 507 = .ok (.iload_n 3, 1) := by decide +kernel
theorem dL_law_508 : decode cL_law 508 = .ok (.iconst 1, 1) := by decide +kernel
theorem dL_law_509 : decode cL_law 509 = .ok (.iadd, 1) := by decide +kernel
theorem dL_law_510 : decode cL_law 510 = .ok (.iaload, 1) := by decide +kernel
theorem dL_law_511 : decode cL_law 511 = .ok (.aload_n 0, 1) := by decide +kernel
theorem dL_law_512 : decode cL_law 512 = .ok (.iload_n 3, 1) := by decide +kernel
theorem dL_law_513 : decode cL_law 513 = .ok (.iconst 2, 1) := by decide +kernel
theorem dL_law_514 : decode cL_law 514 = .ok (.iadd, 1) := by decide +kernel
theorem dL_law_515 : decode cL_law 515 = .ok (.iaload, 1) := by decide +kernel
theorem dL_law_516 : decode cL_law 516 = .ok (.invokevirtual 70, 3) := by decide +kernel
theorem dL_law_519 : decode cL_law 519 = .ok (.aload_n 2, 1) := by decide +kernel
theorem dL_law_520 : decode cL_law 520 = .ok (.aload_n 0, 1) := by decide +kernel
theorem dL_law_521 : decode cL_law 521 = .ok (.iload_n 3, 1) := by decide +kernel
theorem dL_law_522 : decode cL_law 522 = .ok (.iconst 1, 1) := by decide +kernel
theorem dL_law_523 : decode cL_law 523 = .ok (.iadd, 1) := by decide +kernel
theorem dL_law_524 : decode cL_law 524 = .ok (.iaload, 1) := by decide +kernel
theorem dL_law_525 : decode cL_law 525 = .ok (.aload_n 0, 1) := by decide +kernel
theorem dL_law_526 : decode cL_law 526 = .ok (.iload_n 3, 1) := by decide +kernel
theorem dL_law_527 : decode cL_law 527 = .ok (.iconst 2, 1) := by decide +kernel
theorem dL_law_528 : decode cL_law 528 = .ok (.iadd, 1) := by decide +kernel
theorem dL_law_529 : decode cL_law 529 = .ok (.iaload, 1) := by decide +kernel
theorem dL_law_530 : decode cL_law 530 = .ok (.invokevirtual 73, 3) := by decide +kernel
theorem dL_law_533 : decode cL_law 533 = .ok (.if_icmp .eq 243, 3) := by decide +kernel
theorem dL_law_536 : decode cL_law 536 = .ok (.iconst 0, 1) := by decide +kernel
theorem dL_law_537 : decode cL_law 537 = .ok (.ireturn, 1) := by decide +kernel
theorem dL_law_538 : decode cL_law 538 = .ok (.aload_n 1, 1) := by decide +kernel
theorem dL_law_539 : decode cL_law 539 = .ok (.aload_n 0, 1) := by decide +kernel
theorem dL_law_540 : decode cL_law 540 = .ok (.iload_n 3, 1) := by decide +kernel
theorem dL_law_541 : decode cL_law 541 = .ok (.iconst 1, 1) := by decide +kernel
theorem dL_law_542 : decode cL_law 542 = .ok (.iadd, 1) := by decide +kernel
theorem dL_law_543 : decode cL_law 543 = .ok (.iaload, 1) := by decide +kernel
theorem dL_law_544 : decode cL_law 544 = .ok (.aload_n 0, 1) := by decide +kernel
theorem dL_law_545 : decode cL_law 545 = .ok (.iload_n 3, 1) := by decide +kernel
theorem dL_law_546 : decode cL_law 546 = .ok (.iconst 2, 1) := by decide +kernel
theorem dL_law_547 : decode cL_law 547 = .ok (.iadd, 1) := by decide +kernel
theorem dL_law_548 : decode cL_law 548 = .ok (.iaload, 1) := by decide +kernel
theorem dL_law_549 : decode cL_law 549 = .ok (.aload_n 0, 1) := by decide +kernel
theorem dL_law_550 : decode cL_law 550 = .ok (.iload_n 3, 1) := by decide +kernel
theorem dL_law_551 : decode cL_law 551 = .ok (.iconst 3, 1) := by decide +kernel
theorem dL_law_552 : decode cL_law 552 = .ok (.iadd, 1) := by decide +kernel
theorem dL_law_553 : decode cL_law 553 = .ok (.iaload, 1) := by decide +kernel
theorem dL_law_554 : decode cL_law 554 = .ok (.invokevirtual 74, 3) := by decide +kernel
theorem dL_law_557 : decode cL_law 557 = .ok (.aload_n 2, 1) := by decide +kernel
theorem dL_law_558 : decode cL_law 558 = .ok (.aload_n 0, 1) := by decide +kernel
theorem dL_law_559 : decode cL_law 559 = .ok (.iload_n 3, 1) := by decide +kernel
theorem dL_law_560 : decode cL_law 560 = .ok (.iconst 1, 1) := by decide +kernel
theorem dL_law_561 : decode cL_law 561 = .ok (.iadd, 1) := by decide +kernel
theorem dL_law_562 : decode cL_law 562 = .ok (.iaload, 1) := by decide +kernel
theorem dL_law_563 : decode cL_law 563 = .ok (.aload_n 0, 1) := by decide +kernel
theorem dL_law_564 : decode cL_law 564 = .ok (.iload_n 3, 1) := by decide +kernel
theorem dL_law_565 : decode cL_law 565 = .ok (.iconst 2, 1) := by decide +kernel
theorem dL_law_566 : decode cL_law 566 = .ok (.iadd, 1) := by decide +kernel
theorem dL_law_567 : decode cL_law 567 = .ok (.iaload, 1) := by decide +kernel
theorem dL_law_568 : decode cL_law 568 = .ok (.aload_n 0, 1) := by decide +kernel
theorem dL_law_569 : decode cL_law 569 = .ok (.iload_n 3, 1) := by decide +kernel
theorem dL_law_570 : decode cL_law 570 = .ok (.iconst 3, 1) := by decide +kernel
theorem dL_law_571 : decode cL_law 571 = .ok (.iadd, 1) := by decide +kernel
theorem dL_law_572 : decode cL_law 572 = .ok (.iaload, 1) := by decide +kernel
theorem dL_law_573 : decode cL_law 573 = .ok (.invokevirtual 78, 3) := by decide +kernel
theorem dL_law_576 : decode cL_law 576 = .ok (.if_icmp .eq 200, 3) := by decide +kernel
theorem dL_law_579 : decode cL_law 579 = .ok (.iconst 0, 1) := by decide +kernel
theorem dL_law_580 : decode cL_law 580 = .ok (.ireturn, 1) := by decide +kernel
theorem dL_law_581 : decode cL_law 581 = .ok (.aload_n 1, 1) := by decide +kernel
theorem dL_law_582 : decode cL_law 582 = .ok (.aload_n 0, 1) := by decide +kernel
theorem dL_law_583 : decode cL_law 583 = .ok (.iload_n 3, 1) := by decide +kernel
theorem dL_law_584 : decode cL_law 584 = .ok (.iconst 1, 1) := by decide +kernel
theorem dL_law_585 : decode cL_law 585 = .ok (.iadd, 1) := by decide +kernel
theorem dL_law_586 : decode cL_law 586 = .ok (.iaload, 1) := by decide +kernel
theorem dL_law_587 : decode cL_law 587 = .ok (.aload_n 0, 1) := by decide +kernel
theorem dL_law_588 : decode cL_law 588 = .ok (.iload_n 3, 1) := by decide +kernel
theorem dL_law_589 : decode cL_law 589 = .ok (.iconst 2, 1) := by decide +kernel
theorem dL_law_590 : decode cL_law 590 = .ok (.iadd, 1) := by decide +kernel
theorem dL_law_591 : decode cL_law 591 = .ok (.iaload, 1) := by decide +kernel
theorem dL_law_592 : decode cL_law 592 = .ok (.aload_n 0, 1) := by decide +kernel
theorem dL_law_593 : decode cL_law 593 = .ok (.iload_n 3, 1) := by decide +kernel
theorem dL_law_594 : decode cL_law 594 = .ok (.iconst 3, 1) := by decide +kernel
theorem dL_law_595 : decode cL_law 595 = .ok (.iadd, 1) := by decide +kernel
theorem dL_law_596 : decode cL_law 596 = .ok (.iaload, 1) := by decide +kernel
theorem dL_law_597 : decode cL_law 597 = .ok (.invokevirtual 79, 3) := by decide +kernel
theorem dL_law_600 : decode cL_law 600 = .ok (.aload_n 2, 1) := by decide +kernel
theorem dL_law_601 : decode cL_law 601 = .ok (.aload_n 0, 1) := by decide +kernel
theorem dL_law_602 : decode cL_law 602 = .ok (.iload_n 3, 1) := by decide +kernel
theorem dL_law_603 : decode cL_law 603 = .ok (.iconst 1, 1) := by decide +kernel
theorem dL_law_604 : decode cL_law 604 = .ok (.iadd, 1) := by decide +kernel
theorem dL_law_605 : decode cL_law 605 = .ok (.iaload, 1) := by decide +kernel
theorem dL_law_606 : decode cL_law 606 = .ok (.aload_n 0, 1) := by decide +kernel
theorem dL_law_607 : decode cL_law 607 = .ok (.iload_n 3, 1) := by decide +kernel
theorem dL_law_608 : decode cL_law 608 = .ok (.iconst 2, 1) := by decide +kernel
theorem dL_law_609 : decode cL_law 609 = .ok (.iadd, 1) := by decide +kernel
theorem dL_law_610 : decode cL_law 610 = .ok (.iaload, 1) := by decide +kernel
theorem dL_law_611 : decode cL_law 611 = .ok (.aload_n 0, 1) := by decide +kernel
theorem dL_law_612 : decode cL_law 612 = .ok (.iload_n 3, 1) := by decide +kernel
theorem dL_law_613 : decode cL_law 613 = .ok (.iconst 3, 1) := by decide +kernel
theorem dL_law_614 : decode cL_law 614 = .ok (.iadd, 1) := by decide +kernel
theorem dL_law_615 : decode cL_law 615 = .ok (.iaload, 1) := by decide +kernel
theorem dL_law_616 : decode cL_law 616 = .ok (.invokevirtual 82, 3) := by decide +kernel
theorem dL_law_619 : decode cL_law 619 = .ok (.if_icmp .eq 157, 3) := by decide +kernel
theorem dL_law_622 : decode cL_law 622 = .ok (.iconst 0, 1) := by decide +kernel
theorem dL_law_623 : decode cL_law 623 = .ok (.ireturn, 1) := by decide +kernel
theorem dL_law_624 : decode cL_law 624 = .ok (.aload_n 1, 1) := by decide +kernel
theorem dL_law_625 : decode cL_law 625 = .ok (.invokevirtual 83, 3) := by decide +kernel
theorem dL_law_628 : decode cL_law 628 = .ok (.aload_n 2, 1) := by decide +kernel
theorem dL_law_629 : decode cL_law 629 = .ok (.invokevirtual 86, 3) := by decide +kernel
theorem dL_law_632 : decode cL_law 632 = .ok (.if_icmp .eq 144, 3) := by decide +kernel
theorem dL_law_635 : decode cL_law 635 = .ok (.iconst 0, 1) := by decide +kernel
theorem dL_law_636 : decode cL_law 636 = .ok (.ireturn, 1) := by decide +kernel
theorem dL_law_637 : decode cL_law 637 = .ok (.aload_n 1, 1) := by decide +kernel
theorem dL_law_638 : decode cL_law 638 = .ok (.aload_n 0, 1) := by decide +kernel
theorem dL_law_639 : decode cL_law 639 = .ok (.iload_n 3, 1) := by decide +kernel
theorem dL_law_640 : decode cL_law 640 = .ok (.iconst 1, 1) := by decide +kernel
theorem dL_law_641 : decode cL_law 641 = .ok (.iadd, 1) := by decide +kernel
theorem dL_law_642 : decode cL_law 642 = .ok (.iaload, 1) := by decide +kernel
theorem dL_law_643 : decode cL_law 643 = .ok (.aload_n 0, 1) := by decide +kernel
theorem dL_law_644 : decode cL_law 644 = .ok (.iload_n 3, 1) := by decide +kernel
theorem dL_law_645 : decode cL_law 645 = .ok (.iconst 2, 1) := by decide +kernel
theorem dL_law_646 : decode cL_law 646 = .ok (.iadd, 1) := by decide +kernel
theorem dL_law_647 : decode cL_law 647 = .ok (.iaload, 1) := by decide +kernel
theorem dL_law_648 : decode cL_law 648 = .ok (.invokevirtual 87, 3) := by decide +kernel
theorem dL_law_651 : decode cL_law 651 = .ok (.aload_n 2, 1) := by decide +kernel
theorem dL_law_652 : decode cL_law 652 = .ok (.aload_n 0, 1) := by decide +kernel
theorem dL_law_653 : decode cL_law 653 = .ok (.iload_n 3, 1) := by decide +kernel
theorem dL_law_654 : decode cL_law 654 = .ok (.iconst 1, 1) := by decide +kernel
theorem dL_law_655 : decode cL_law 655 = .ok (.iadd, 1) := by decide +kernel
theorem dL_law_656 : decode cL_law 656 = .ok (.iaload, 1) := by decide +kernel
theorem dL_law_657 : decode cL_law 657 = .ok (.aload_n 0, 1) := by decide +kernel
theorem dL_law_658 : decode cL_law 658 = .ok (.iload_n 3, 1) := by decide +kernel
theorem dL_law_659 : decode cL_law 659 = .ok (.iconst 2, 1) := by decide +kernel
theorem dL_law_660 : decode cL_law 660 = .ok (.iadd, 1) := by decide +kernel
theorem dL_law_661 : decode cL_law 661 = .ok (.iaload, 1) := by decide +kernel
theorem dL_law_662 : decode cL_law 662 = .ok (.invokevirtual 90, 3) := by decide +kernel
theorem dL_law_665 : decode cL_law 665 = .ok (.if_icmp .eq 111, 3) := by decide +kernel
theorem dL_law_668 : decode cL_law 668 = .ok (.iconst 0, 1) := by decide +kernel
theorem dL_law_669 : decode cL_law 669 = .ok (.ireturn, 1) := by decide +kernel
theorem dL_law_670 : decode cL_law 670 = .ok (.aload_n 1, 1) := by decide +kernel
theorem dL_law_671 : decode cL_law 671 = .ok (.aload_n 0, 1) := by decide +kernel
theorem dL_law_672 : decode cL_law 672 = .ok (.iload_n 3, 1) := by decide +kernel
theorem dL_law_673 : decode cL_law 673 = .ok (.iconst 1, 1) := by decide +kernel
theorem dL_law_674 : decode cL_law 674 = .ok (.iadd, 1) := by decide +kernel
theorem dL_law_675 : decode cL_law 675 = .ok (.iaload, 1) := by decide +kernel
theorem dL_law_676 : decode cL_law 676 = .ok (.aload_n 0, 1) := by decide +kernel
theorem dL_law_677 : decode cL_law 677 = .ok (.iload_n 3, 1) := by decide +kernel
theorem dL_law_678 : decode cL_law 678 = .ok (.iconst 2, 1) := by decide +kernel
theorem dL_law_679 : decode cL_law 679 = .ok (.iadd, 1) := by decide +kernel
theorem dL_law_680 : decode cL_law 680 = .ok (.iaload, 1) := by decide +kernel
theorem dL_law_681 : decode cL_law 681 = .ok (.aload_n 0, 1) := by decide +kernel
theorem dL_law_682 : decode cL_law 682 = .ok (.iload_n 3, 1) := by decide +kernel
theorem dL_law_683 : decode cL_law 683 = .ok (.iconst 3, 1) := by decide +kernel
theorem dL_law_684 : decode cL_law 684 = .ok (.iadd, 1) := by decide +kernel
theorem dL_law_685 : decode cL_law 685 = .ok (.iaload, 1) := by decide +kernel
theorem dL_law_686 : decode cL_law 686 = .ok (.invokevirtual 91, 3) := by decide +kernel
theorem dL_law_689 : decode cL_law 689 = .ok (.aload_n 2, 1) := by decide +kernel
theorem dL_law_690 : decode cL_law 690 = .ok (.aload_n 0, 1) := by decide +kernel
theorem dL_law_691 : decode cL_law 691 = .ok (.iload_n 3, 1) := by decide +kernel
theorem dL_law_692 : decode cL_law 692 = .ok (.iconst 1, 1) := by decide +kernel
theorem dL_law_693 : decode cL_law 693 = .ok (.iadd, 1) := by decide +kernel
theorem dL_law_694 : decode cL_law 694 = .ok (.iaload, 1) := by decide +kernel
theorem dL_law_695 : decode cL_law 695 = .ok (.aload_n 0, 1) := by decide +kernel
theorem dL_law_696 : decode cL_law 696 = .ok (.iload_n 3, 1) := by decide +kernel
theorem dL_law_697 : decode cL_law 697 = .ok (.iconst 2, 1) := by decide +kernel
theorem dL_law_698 : decode cL_law 698 = .ok (.iadd, 1) := by decide +kernel
theorem dL_law_699 : decode cL_law 699 = .ok (.iaload, 1) := by decide +kernel
theorem dL_law_700 : decode cL_law 700 = .ok (.aload_n 0, 1) := by decide +kernel
theorem dL_law_701 : decode cL_law 701 = .ok (.iload_n 3, 1) := by decide +kernel
theorem dL_law_702 : decode cL_law 702 = .ok (.iconst 3, 1) := by decide +kernel
theorem dL_law_703 : decode cL_law 703 = .ok (.iadd, 1) := by decide +kernel
theorem dL_law_704 : decode cL_law 704 = .ok (.iaload, 1) := by decide +kernel
theorem dL_law_705 : decode cL_law 705 = .ok (.invokevirtual 94, 3) := by decide +kernel
theorem dL_law_708 : decode cL_law 708 = .ok (.if_icmp .eq 68, 3) := by decide +kernel
theorem dL_law_711 : decode cL_law 711 = .ok (.iconst 0, 1) := by decide +kernel
theorem dL_law_712 : decode cL_law 712 = .ok (.ireturn, 1) := by decide +kernel
theorem dL_law_713 : decode cL_law 713 = .ok (.aload_n 1, 1) := by decide +kernel
theorem dL_law_714 : decode cL_law 714 = .ok (.invokevirtual 95, 3) := by decide +kernel
theorem dL_law_717 : decode cL_law 717 = .ok (.aload_n 2, 1) := by decide +kernel
theorem dL_law_718 : decode cL_law 718 = .ok (.invokevirtual 98, 3) := by decide +kernel
theorem dL_law_721 : decode cL_law 721 = .ok (.if_icmp .eq 55, 3) := by decide +kernel
theorem dL_law_724 : decode cL_law 724 = .ok (.iconst 0, 1) := by decide +kernel
theorem dL_law_725 : decode cL_law 725 = .ok (.ireturn, 1) := by decide +kernel
theorem dL_law_726 : decode cL_law 726 = .ok (.aload_n 1, 1) := by decide +kernel
theorem dL_law_727 : decode cL_law 727 = .ok (.invokevirtual 99, 3) := by decide +kernel
theorem dL_law_730 : decode cL_law 730 = .ok (.aload_n 2, 1) := by decide +kernel
theorem dL_law_731 : decode cL_law 731 = .ok (.invokevirtual 102, 3) := by decide +kernel
theorem dL_law_734 : decode cL_law 734 = .ok (.if_icmp .eq 42, 3) := by decide +kernel
theorem dL_law_737 : decode cL_law 737 = .ok (.iconst 0, 1) := by decide +kernel
theorem dL_law_738 : decode cL_law 738 = .ok (.ireturn, 1) := by decide +kernel
theorem dL_law_739 : decode cL_law 739 = .ok (.aload_n 1, 1) := by decide +kernel
theorem dL_law_740 : decode cL_law 740 = .ok (.aload_n 0, 1) := by decide +kernel
theorem dL_law_741 : decode cL_law 741 = .ok (.iload_n 3, 1) := by decide +kernel
theorem dL_law_742 : decode cL_law 742 = .ok (.iconst 1, 1) := by decide +kernel
theorem dL_law_743 : decode cL_law 743 = .ok (.iadd, 1) := by decide +kernel
theorem dL_law_744 : decode cL_law 744 = .ok (.iaload, 1) := by decide +kernel
theorem dL_law_745 : decode cL_law 745 = .ok (.invokevirtual 103, 3) := by decide +kernel
theorem dL_law_748 : decode cL_law 748 = .ok (.aload_n 2, 1) := by decide +kernel
theorem dL_law_749 : decode cL_law 749 = .ok (.aload_n 0, 1) := by decide +kernel
theorem dL_law_750 : decode cL_law 750 = .ok (.iload_n 3, 1) := by decide +kernel
theorem dL_law_751 : decode cL_law 751 = .ok (.iconst 1, 1) := by decide +kernel
theorem dL_law_752 : decode cL_law 752 = .ok (.iadd, 1) := by decide +kernel
theorem dL_law_753 : decode cL_law 753 = .ok (.iaload, 1) := by decide +kernel
theorem dL_law_754 : decode cL_law 754 = .ok (.invokevirtual 106, 3) := by decide +kernel
theorem dL_law_757 : decode cL_law 757 = .ok (.if_icmp .eq 19, 3) := by decide +kernel
theorem dL_law_760 : decode cL_law 760 = .ok (.iconst 0, 1) := by decide +kernel
theorem dL_law_761 : decode cL_law 761 = .ok (.ireturn, 1) := by decide +kernel
theorem dL_law_762 : decode cL_law 762 = .ok (.aload_n 1, 1) := by decide +kernel
theorem dL_law_763 : decode cL_law 763 = .ok (.invokevirtual 107, 3) := by decide +kernel
theorem dL_law_766 : decode cL_law 766 = .ok (.aload_n 2, 1) := by decide +kernel
theorem dL_law_767 : decode cL_law 767 = .ok (.invokevirtual 111, 3) := by decide +kernel
theorem dL_law_770 : decode cL_law 770 = .ok (.lcmp, 1) := by decide +kernel
theorem dL_law_771 : decode cL_law 771 = .ok (.ifCond .eq 5, 3) := by decide +kernel
theorem dL_law_774 : decode cL_law 774 = .ok (.iconst 0, 1) := by decide +kernel
theorem dL_law_775 : decode cL_law 775 = .ok (.ireturn, 1) := by decide +kernel
theorem dL_law_776 : decode cL_law 776 = .ok (.iinc 3 5, 3) := by decide +kernel
theorem dL_law_779 : decode cL_law 779 = .ok (.goto (-761), 3) := by decide +kernel
theorem dL_law_782 : decode cL_law 782 = .ok (.iconst 1, 1) := by decide +kernel
theorem dL_law_783 : decode cL_law 783 = .ok (.ireturn, 1) := by decide +kernel
end
section
/-! GLUE: every method's words are its own code and the law's whole list; a reader leaves the heap, a writer changes cells of its world at their places -/
abbrev Wm (y : MethodName) (cc : ByteArray) (n : Nat) (r : Option FieldType) : List Cond := Cond.code y cc n r :: wsG
theorem Wm_good {y : MethodName} {cc : ByteArray} {n : Nat} {r : Option FieldType} (h : Cond.code y cc n r ∈ wsG) : GoodIn wsG (Wm y cc n r) := by
  intro w hw
  have hm : w ∈ wsG := by
    rcases List.mem_cons.mp hw with h1 | h1
    · rw [h1]; exact h
    · exact h1
  exact ⟨hm, good_of_word (wsG_good w hm)⟩
def QcV (v : Option Value) : Array Value → State → Outcome → State → Prop := fun _ st o t => o = .returned v ∧ t.heap = st.heap
abbrev FPw (ws : va_W) : Nat → Prop := fun q => ∃ (k : Nat) (e : va_E), ws[k]? = some (q, e)
def QcW (D : va_G) (v : Option Value) (ws ws' : va_W) : Array Value → State → Outcome → State → Prop := fun _ st o t => o = .returned v ∧ va_P D vwCl ws' t.heap ∧ va_F (FPw ws) st t
/-- what stays of the machine -/
abbrev KK (D : va_G) (tys : List (ClassId × FieldType)) (U : State) : Prop := va_K D vwCl tys U ∧ NF U
theorem KK.warm {D : va_G} {tys : List (ClassId × FieldType)} {s U : State} (hW : s.WarmedH U.vm) (h : KK D tys s) : KK D tys U := ⟨va_K.moved hW.alike h.1, h.2.warm hW⟩
theorem KK.call {D : va_G} {tys : List (ClassId × FieldType)} {U : State} {g : JFrame} {mk : MethodId} {a : Array Value} (h : KK D tys U) : KK D tys (U.calling g mk a) := ⟨va_K.moved (u := U) (U := U.calling g mk a) (Vm.Alike.refl U.vm) h.1, NF.same (u := U) (U := U.calling g mk a) rfl h.2⟩
abbrev PR (D : va_G) (tys : List (ClassId × FieldType)) (ws : va_W) (U : State) : Prop := va_P D vwCl ws U.heap ∧ KK D tys U
abbrev PW (D : va_G) (tys : List (ClassId × FieldType)) (ws : va_W) (U : State) : Prop := va_P D vwCl ws U.heap ∧ KK D tys U ∧ va_D (fun _ => True) ws
theorem PR_blind {D : va_G} {tys : List (ClassId × FieldType)} {ws : va_W} {av : List Value} : FrameBlind (va_Pc av (PR D tys ws)) := fun a U g mk q => ⟨q.1, q.2.1, KK.call q.2.2⟩
theorem PW_blind {D : va_G} {tys : List (ClassId × FieldType)} {ws : va_W} {av : List Value} : FrameBlind (va_Pc av (PW D tys ws)) := fun a U g mk q => ⟨q.1, q.2.1, KK.call q.2.2.1, q.2.2.2⟩
/-- a truth as an int -/
def b2 (P : Prop) [Decidable P] : Int32 := if P then 1 else 0
theorem b2_t {P : Prop} [Decidable P] (h : P) : (1 : Int32) = b2 P := by rw [b2, if_pos h]
theorem b2_f {P : Prop} [Decidable P] (h : ¬ P) : (0 : Int32) = b2 P := by rw [b2, if_neg h]
theorem b2_nz {P : Prop} [Decidable P] (h : ¬ b2 P = 0) : P := by
  by_cases hp : P
  · exact hp
  · rw [b2, if_neg hp] at h
    exact absurd rfl h
theorem b2_z {P : Prop} [Decidable P] (h : b2 P = 0) : ¬ P := by
  intro hp
  rw [b2, if_pos hp] at h
  exact absurd h (by decide)
theorem b2_nar {P : Prop} [Decidable P] : narrow .boolean (.int (b2 P)) = .int (b2 P) := by
  unfold b2
  split <;> rfl
theorem va_D_addr {A : Nat → Prop} {ws ws' : va_W} (h : ws'.map Prod.fst = ws.map Prod.fst) (hD : va_D A ws) : va_D A ws' := by
  have key : ∀ (k : Nat) (q : Nat × va_E), ws'[k]? = some q → ∃ q2, ws[k]? = some q2 ∧ q2.1 = q.1 := by
    intro k q hk
    have h1 : (ws'.map Prod.fst)[k]? = some q.1 := by rw [List.getElem?_map, hk]; rfl
    rw [h, List.getElem?_map] at h1
    cases hw : ws[k]? with
    | none => rw [hw] at h1; cases h1
    | some q2 => rw [hw] at h1; exact ⟨q2, rfl, Option.some.inj h1⟩
  refine ⟨fun i j p q hi hj e => ?_, fun k q hk => ?_⟩
  · obtain ⟨p2, a1, a2⟩ := key i p hi
    obtain ⟨q2, b1, b2⟩ := key j q hj
    exact hD.1 i j p2 q2 a1 b1 (by rw [a2, b2, e])
  · obtain ⟨q2, a1, a2⟩ := key k q hk
    rw [← a2]
    exact hD.2 k q2 a1
theorem FPw_in {A : Nat → Prop} {ws : va_W} (hD : va_D A ws) : ∀ q, FPw ws q → A q := fun q h => by
  obtain ⟨k, e, h⟩ := h
  exact hD.2 k (q, e) h
theorem FPw_self {A : Nat → Prop} {ws : va_W} (hD : va_D A ws) : va_D (FPw ws) ws := ⟨hD.1, fun k q hk => ⟨k, q.2, hk⟩⟩
section GLM
variable {l : Launch} {y : MethodName} {cc : ByteArray} {maxL : Nat} {ret : Option FieldType} {rm : Room} {D : va_G} {tys : List (ClassId × FieldType)} {ws ws' : va_W} {v : Option Value}
theorem metR (hy : plainName y.cls = true) (av : List Value) (hlen : (lg_sl av).length ≤ maxL)
    (body : ∀ (p : Program) (e : Env) (s : State) (m : MethodId) (args : Array Value) (below : List Frame) (meth : Method) (c : Code), p.tables.exec = Jvm.exec → c.code = cc → c.maxLocals = maxL → meth.sig.returnType = ret → meth.locks = false → s.vm.findClass y.cls = some m.cls → (∀ w ∈ wsG, w.before args s = true) → KK D tys s → va_P D vwCl ws s.heap → ∀ ls : Array Slot, lv_has ls maxL (lv_args 0 av) →
      W p l e rm s m args below meth c s.heap [] 0 0 (MQ below (QcV v) args s 0 0 (fun _ => False)) (F0 m 0 ls [])) : Met l y (Wm y cc maxL ret) rm (va_Pc av (PR D tys ws)) (QcV v) 0 0 (fun _ => False) := by
  refine Met.ofW (cc := cc) (maxL := maxL) (ret := ret) hy rfl ?_
  intro p e s m args below meth c s₁ B hml hv
  obtain ⟨ha, hP, hK⟩ := hv
  have hts := atoms_spec (ws := Wm y cc maxL ret) B.pre
  have hl := lv_entry av (n := maxL) hlen
  have key := body p e s m args below meth c B.exec B.bytes hml B.returns B.notSynchronized (findClass_of_methodNamed B.named) (fun w h => hts w (List.mem_cons_of_mem _ h)) hK hP _ hl
  have e2 : entryFrame m args maxL = F0 m 0 ((lg_sl av ++ List.replicate (maxL - (lg_sl av).length) Slot.unset).toArray) [] := by rw [ha, lg_entry_eq]
  rw [e2]
  exact key
theorem metW (hy : plainName y.cls = true) (av : List Value) (hlen : (lg_sl av).length ≤ maxL)
    (body : ∀ (p : Program) (e : Env) (s : State) (m : MethodId) (args : Array Value) (below : List Frame) (meth : Method) (c : Code), p.tables.exec = Jvm.exec → c.code = cc → c.maxLocals = maxL → meth.sig.returnType = ret → meth.locks = false → s.vm.findClass y.cls = some m.cls → (∀ w ∈ wsG, w.before args s = true) → KK D tys s → va_P D vwCl ws s.heap → va_D (FPw ws) ws → va_S (FPw ws) s.heap s.heap [] → ∀ ls : Array Slot, lv_has ls maxL (lv_args 0 av) →
      W p l e rm s m args below meth c s.heap [] 0 0 (MQ below (QcW D v ws ws') args s 0 0 (FPw ws)) (F0 m 0 ls [])) : Met l y (Wm y cc maxL ret) rm (va_Pc av (PW D tys ws)) (QcW D v ws ws') 0 0 (FPw ws) := by
  refine Met.ofW (cc := cc) (maxL := maxL) (ret := ret) hy rfl ?_
  intro p e s m args below meth c s₁ B hml hv
  obtain ⟨ha, hP, hK, hD⟩ := hv
  have hts := atoms_spec (ws := Wm y cc maxL ret) B.pre
  have hl := lv_entry av (n := maxL) hlen
  have key := body p e s m args below meth c B.exec B.bytes hml B.returns B.notSynchronized (findClass_of_methodNamed B.named) (fun w h => hts w (List.mem_cons_of_mem _ h)) hK hP (FPw_self hD) va_S.rf _ hl
  have e2 : entryFrame m args maxL = F0 m 0 ((lg_sl av ++ List.replicate (maxL - (lg_sl av).length) Slot.unset).toArray) [] := by rw [ha, lg_entry_eq]
  rw [e2]
  exact key
end GLM
section GLC
variable {p : Program} {l : Launch} {e : Env} {R : Room} {s : State} {m : MethodId} {args : Array Value} {below : List Frame} {meth : Method} {c : Code} {H : Heap} {locs : List Loc} {cells slots : Nat} {Q : State → Prop}
variable {cc bytes : ByteArray} {pc nL maxL index n : Nat} {ls : Array Slot} {rest st : List Value} {own C : String} {y : MethodName} {ret : Option FieldType} {rm : Room} {As : List Value} {b : Addr} {D : va_G} {tys : List (ClassId × FieldType)} {ws ws' : va_W} {wy : List Cond} {v : Option Value} {A : Nat → Prop} {H0 : Heap}
theorem topE {x z : Int32} (h : x = z) (k : W p l e R s m args below meth c H locs cells slots Q (F0 m pc ls (.int z :: rest))) : W p l e R s m args below meth c H locs cells slots Q (F0 m pc ls (.int x :: rest)) := by
  rw [h]; exact k
theorem topL {x z : Int64} (h : x = z) (k : W p l e R s m args below meth c H locs cells slots Q (F0 m pc ls (.long z :: rest))) : W p l e R s m args below meth c H locs cells slots Q (F0 m pc ls (.long x :: rest)) := by
  rw [h]; exact k
theorem topV {x z : Value} (h : x = z) (k : W p l e R s m args below meth c H locs cells slots Q (F0 m pc ls (z :: rest))) : W p l e R s m args below meth c H locs cells slots Q (F0 m pc ls (x :: rest)) := by
  rw [h]; exact k
theorem rdC {g : JFrame} {a : Array Value} (hr : CallRun p l e R s m args below meth c H locs cells slots 0 0 g rest (QcV v a) (fun _ => False)) (kk : W p l e R s m args below meth c H locs cells slots Q { g with pc := g.pc + 3, stack := v.toList ++ rest }) : W p l e R s m args below meth c H locs cells slots Q g := by
  intro T hT X
  obtain ⟨v', st₀, t, T', L, h0, X', hL, e1, ⟨hv, hh⟩, st⟩ := hr T hT X
  have hv2 := Outcome.returned.inj hv
  subst hv2
  obtain ⟨t2, a1, b1⟩ := kk T' (by rw [e1, hh, h0]) (Stand.forget X' (fun q h => (hL q h).elim))
  exact ⟨t2, st t2 a1, b1⟩
theorem wrC {g : JFrame} {a : Array Value} (hr : CallRun p l e R s m args below meth c H locs cells slots 0 0 g rest (QcW D v ws ws' a) (FPw ws)) (hD : va_D A ws) (hS : va_S A H0 H locs) (kk : ∀ (H1 : Heap) (locs1 : List Loc), va_P D vwCl ws' H1 → va_S A H0 H1 locs1 → W p l e R s m args below meth c H1 locs1 cells slots Q { g with pc := g.pc + 3, stack := v.toList ++ rest }) : W p l e R s m args below meth c H locs cells slots Q g := by
  intro T hT X
  obtain ⟨v', st₀, t, T', L, h0, X', hL, e1, ⟨hv, hp, hz, hk⟩, st⟩ := hr T hT X
  have hv2 := Outcome.returned.inj hv
  subst hv2
  rw [h0] at hz hk
  obtain ⟨t2, a1, b1⟩ := kk T'.heap (locs ++ L) (by rw [e1]; exact hp) ⟨Nat.le_trans hS.1 (by rw [e1]; exact hz), fun q h1 h2 => by rw [e1, hk q (Nat.lt_of_lt_of_le h1 hS.1) (fun z => h2 (FPw_in hD q z))]; exact hS.2.1 q h1 h2, fun q hq => by
    rcases List.mem_append.mp hq with h | h
    · exact hS.2.2 q h
    · exact FPw_in hD _ (hL q h)⟩ T' rfl X'
  exact ⟨t2, st t2 a1, b1⟩
theorem runV2 {Pc : State → Prop} {Qc : Array Value → State → Outcome → State → Prop} {free : Addr → Prop} (hx : p.tables.exec = Jvm.exec) (hb : c.code = cc) (hml : c.maxLocals = nL) (hown : s.vm.findClass own = some m.cls) (hts : ∀ w ∈ wsG, w.before args s = true) (hK : KK D tys s) (hM : Met l y wy rm (va_Pc (.ref b :: As) Pc) Qc 0 0 free) (cw : CallW R s args own C index y bytes maxL ret wy rm 0 0 n) (hP : va_P D vwCl ws H) (q0 : Nat) {ci : Nat} {fs : List Value} {q : vw_C} (he : ws[q0]? = some (b, .inr (ci, fs))) (hc : vwCl[ci]? = some q) (hC : q.1 = C) (hn : As.length = n) (hl : ls.size = nL) (hst : st = As.reverse ++ .ref b :: rest) (hW : (rest.map fun v => v.category).sum ≤ 8) (hdg : decode cc pc = .ok (.invokevirtual index, 3)) (hcl : cells + 0 ≤ R.cells ∧ slots + 0 ≤ R.slots) (hbl : FrameBlind (va_Pc (.ref b :: As) Pc)) (hpre : ∀ U : State, U.heap = H → s.WarmedH U.vm → Pc U) :
    CallRun p l e R s m args below meth c H locs cells slots 0 0 (F0 m pc ls st) rest (Qc (Value.ref b :: As).toArray) free := by
  subst hC
  exact W.runV ⟨hx, hb, hml, hown, hts⟩ hM cw ⟨hbl, va_recv hK.1 hP hc he, fun U hU hW => ⟨rfl, hpre U hU hW⟩⟩ rfl hn hl hst (lv_room hW) hdg hcl
theorem runS2 {Pc : State → Prop} {Qc : Array Value → State → Outcome → State → Prop} {free : Addr → Prop} (hx : p.tables.exec = Jvm.exec) (hb : c.code = cc) (hml : c.maxLocals = nL) (hown : s.vm.findClass own = some m.cls) (hts : ∀ w ∈ wsG, w.before args s = true) (hM : Met l y wy rm (va_Pc As Pc) Qc 0 0 free) (cw : CallB R s args own index y bytes maxL ret wy rm 0 0 n ∧ (Cond.static y).before args s = true) (hn : As.length = n) (hl : ls.size = nL) (hst : st = As.reverse ++ rest) (hW : (rest.map fun v => v.category).sum ≤ 8) (hdg : decode cc pc = .ok (.invokestatic index, 3)) (hcl : cells + 0 ≤ R.cells ∧ slots + 0 ≤ R.slots) (hbl : FrameBlind (va_Pc As Pc)) (hpre : ∀ U : State, U.heap = H → s.WarmedH U.vm → Pc U) :
    CallRun p l e R s m args below meth c H locs cells slots 0 0 (F0 m pc ls st) rest (Qc As.toArray) free :=
  W.runS ⟨hx, hb, hml, hown, hts⟩ hM cw ⟨hbl, fun U hU hW => ⟨rfl, hpre U hU hW⟩⟩ rfl hn hl hst (lv_room hW) hdg hcl
theorem cwV2 (n : Nat) (hts : ∀ w ∈ wsG, w.before args s = true) (hcode : Cond.code y bytes maxL ret ∈ wsG) (hini : Cond.initialized C ∈ wsG) (hl : Cond.methodLink own index y ∈ wsG) (hin : Cond.instanceMethod y ∈ wsG) (hse : Cond.selects C y y ∈ wsG) (hrc : rm.cells = 0) (hrs : rm.slots = 0)
    (hd : y.cls = C ∧ y.cls ≠ "java/lang/invoke/MethodHandle" ∧ y.cls ≠ "java/lang/invoke/VarHandle" ∧ (parseMethodDescriptor y.desc).map (fun d => d.parameters.length) = some n) (hR : rm.frames + 1 ≤ R.frames ∧ 8 + (maxL + 11) + rm.locals ≤ R.locals) :
    CallW R s args own C index y bytes maxL ret (Wm y bytes maxL ret) rm 0 0 n := by
  obtain ⟨hC, hd⟩ := hd
  subst hC
  exact ⟨callB_of n hts (Wm_good hcode) rfl hrc hrs (hts _ hini) (hts _ hl) hd hR, hts _ hin, hts _ hse⟩
theorem cwS2 (n : Nat) (hts : ∀ w ∈ wsG, w.before args s = true) (hcode : Cond.code y bytes maxL ret ∈ wsG) (hini : Cond.initialized C ∈ wsG) (hl : Cond.methodLink own index y ∈ wsG) (hst : Cond.static y ∈ wsG) (hrc : rm.cells = 0) (hrs : rm.slots = 0)
    (hd : y.cls = C ∧ y.cls ≠ "java/lang/invoke/MethodHandle" ∧ y.cls ≠ "java/lang/invoke/VarHandle" ∧ (parseMethodDescriptor y.desc).map (fun d => d.parameters.length) = some n) (hR : rm.frames + 1 ≤ R.frames ∧ 8 + (maxL + 11) + rm.locals ≤ R.locals) :
    CallB R s args own index y bytes maxL ret (Wm y bytes maxL ret) rm 0 0 n ∧ (Cond.static y).before args s = true := by
  obtain ⟨hC, hd⟩ := hd
  subst hC
  exact ⟨callB_of n hts (Wm_good hcode) rfl hrc hrs (hts _ hini) (hts _ hl) hd hR, hts _ hst⟩
theorem rcVi {r : Int32} (hx : p.tables.exec = Jvm.exec) (hb : c.code = cc) (hml : c.maxLocals = nL) (hown : s.vm.findClass own = some m.cls) (hts : ∀ w ∈ wsG, w.before args s = true) (hK : KK D tys s) (hP : va_P D vwCl ws H) (hM : Met l y wy rm (va_Pc (.ref b :: As) (PR D tys ws)) (QcV (some (.int r))) 0 0 (fun _ => False)) (cw : CallW R s args own C index y bytes maxL ret wy rm 0 0 n) (q0 : Nat) {ci : Nat} {fs : List Value} {q : vw_C} (he : ws[q0]? = some (b, .inr (ci, fs))) (hc : vwCl[ci]? = some q) (hC : q.1 = C) (hn : As.length = n) (hl : ls.size = nL) (hst : st = As.reverse ++ .ref b :: rest) (hW : (rest.map fun v => v.category).sum ≤ 8) (hcl : cells + 0 ≤ R.cells ∧ slots + 0 ≤ R.slots) (hdg : decode cc pc = .ok (.invokevirtual index, 3))
    (kk : W p l e R s m args below meth c H locs cells slots Q (F0 m (pc + 3) ls (.int r :: rest))) : W p l e R s m args below meth c H locs cells slots Q (F0 m pc ls st) :=
  rdC (runV2 hx hb hml hown hts hK hM cw hP q0 he hc hC hn hl hst hW hdg hcl PR_blind (fun U hU hW => ⟨by rw [hU]; exact hP, hK.warm hW⟩)) kk
theorem rcVl {r : Int64} (hx : p.tables.exec = Jvm.exec) (hb : c.code = cc) (hml : c.maxLocals = nL) (hown : s.vm.findClass own = some m.cls) (hts : ∀ w ∈ wsG, w.before args s = true) (hK : KK D tys s) (hP : va_P D vwCl ws H) (hM : Met l y wy rm (va_Pc (.ref b :: As) (PR D tys ws)) (QcV (some (.long r))) 0 0 (fun _ => False)) (cw : CallW R s args own C index y bytes maxL ret wy rm 0 0 n) (q0 : Nat) {ci : Nat} {fs : List Value} {q : vw_C} (he : ws[q0]? = some (b, .inr (ci, fs))) (hc : vwCl[ci]? = some q) (hC : q.1 = C) (hn : As.length = n) (hl : ls.size = nL) (hst : st = As.reverse ++ .ref b :: rest) (hW : (rest.map fun v => v.category).sum ≤ 8) (hcl : cells + 0 ≤ R.cells ∧ slots + 0 ≤ R.slots) (hdg : decode cc pc = .ok (.invokevirtual index, 3))
    (kk : W p l e R s m args below meth c H locs cells slots Q (F0 m (pc + 3) ls (.long r :: rest))) : W p l e R s m args below meth c H locs cells slots Q (F0 m pc ls st) :=
  rdC (runV2 hx hb hml hown hts hK hM cw hP q0 he hc hC hn hl hst hW hdg hcl PR_blind (fun U hU hW => ⟨by rw [hU]; exact hP, hK.warm hW⟩)) kk
theorem rcSi {r : Int32} (hx : p.tables.exec = Jvm.exec) (hb : c.code = cc) (hml : c.maxLocals = nL) (hown : s.vm.findClass own = some m.cls) (hts : ∀ w ∈ wsG, w.before args s = true) (hK : KK D tys s) (hP : va_P D vwCl ws H) (hM : Met l y wy rm (va_Pc As (PR D tys ws)) (QcV (some (.int r))) 0 0 (fun _ => False)) (cw : CallB R s args own index y bytes maxL ret wy rm 0 0 n ∧ (Cond.static y).before args s = true) (hn : As.length = n) (hl : ls.size = nL) (hst : st = As.reverse ++ rest) (hW : (rest.map fun v => v.category).sum ≤ 8) (hcl : cells + 0 ≤ R.cells ∧ slots + 0 ≤ R.slots) (hdg : decode cc pc = .ok (.invokestatic index, 3))
    (kk : W p l e R s m args below meth c H locs cells slots Q (F0 m (pc + 3) ls (.int r :: rest))) : W p l e R s m args below meth c H locs cells slots Q (F0 m pc ls st) :=
  rdC (runS2 hx hb hml hown hts hM cw hn hl hst hW hdg hcl PR_blind (fun U hU hW => ⟨by rw [hU]; exact hP, hK.warm hW⟩)) kk
theorem rcSl {r : Int64} (hx : p.tables.exec = Jvm.exec) (hb : c.code = cc) (hml : c.maxLocals = nL) (hown : s.vm.findClass own = some m.cls) (hts : ∀ w ∈ wsG, w.before args s = true) (hK : KK D tys s) (hP : va_P D vwCl ws H) (hM : Met l y wy rm (va_Pc As (PR D tys ws)) (QcV (some (.long r))) 0 0 (fun _ => False)) (cw : CallB R s args own index y bytes maxL ret wy rm 0 0 n ∧ (Cond.static y).before args s = true) (hn : As.length = n) (hl : ls.size = nL) (hst : st = As.reverse ++ rest) (hW : (rest.map fun v => v.category).sum ≤ 8) (hcl : cells + 0 ≤ R.cells ∧ slots + 0 ≤ R.slots) (hdg : decode cc pc = .ok (.invokestatic index, 3))
    (kk : W p l e R s m args below meth c H locs cells slots Q (F0 m (pc + 3) ls (.long r :: rest))) : W p l e R s m args below meth c H locs cells slots Q (F0 m pc ls st) :=
  rdC (runS2 hx hb hml hown hts hM cw hn hl hst hW hdg hcl PR_blind (fun U hU hW => ⟨by rw [hU]; exact hP, hK.warm hW⟩)) kk
theorem wcVi {r : Int32} (hx : p.tables.exec = Jvm.exec) (hb : c.code = cc) (hml : c.maxLocals = nL) (hown : s.vm.findClass own = some m.cls) (hts : ∀ w ∈ wsG, w.before args s = true) (hK : KK D tys s) (hP : va_P D vwCl ws H) (hD : va_D A ws) (hS : va_S A H0 H locs) (hM : Met l y wy rm (va_Pc (.ref b :: As) (PW D tys ws)) (QcW D (some (.int r)) ws ws') 0 0 (FPw ws)) (cw : CallW R s args own C index y bytes maxL ret wy rm 0 0 n) (q0 : Nat) {ci : Nat} {fs : List Value} {q : vw_C} (he : ws[q0]? = some (b, .inr (ci, fs))) (hc : vwCl[ci]? = some q) (hC : q.1 = C) (hn : As.length = n) (hl : ls.size = nL) (hst : st = As.reverse ++ .ref b :: rest) (hW : (rest.map fun v => v.category).sum ≤ 8) (hcl : cells + 0 ≤ R.cells ∧ slots + 0 ≤ R.slots) (hdg : decode cc pc = .ok (.invokevirtual index, 3))
    (kk : ∀ (H1 : Heap) (locs1 : List Loc), va_P D vwCl ws' H1 → va_S A H0 H1 locs1 → W p l e R s m args below meth c H1 locs1 cells slots Q (F0 m (pc + 3) ls (.int r :: rest))) : W p l e R s m args below meth c H locs cells slots Q (F0 m pc ls st) :=
  wrC (runV2 hx hb hml hown hts hK hM cw hP q0 he hc hC hn hl hst hW hdg hcl PW_blind (fun U hU hW => ⟨by rw [hU]; exact hP, hK.warm hW, hD.weaken (fun _ _ _ _ => trivial)⟩)) hD hS kk
theorem wcVl {r : Int64} (hx : p.tables.exec = Jvm.exec) (hb : c.code = cc) (hml : c.maxLocals = nL) (hown : s.vm.findClass own = some m.cls) (hts : ∀ w ∈ wsG, w.before args s = true) (hK : KK D tys s) (hP : va_P D vwCl ws H) (hD : va_D A ws) (hS : va_S A H0 H locs) (hM : Met l y wy rm (va_Pc (.ref b :: As) (PW D tys ws)) (QcW D (some (.long r)) ws ws') 0 0 (FPw ws)) (cw : CallW R s args own C index y bytes maxL ret wy rm 0 0 n) (q0 : Nat) {ci : Nat} {fs : List Value} {q : vw_C} (he : ws[q0]? = some (b, .inr (ci, fs))) (hc : vwCl[ci]? = some q) (hC : q.1 = C) (hn : As.length = n) (hl : ls.size = nL) (hst : st = As.reverse ++ .ref b :: rest) (hW : (rest.map fun v => v.category).sum ≤ 8) (hcl : cells + 0 ≤ R.cells ∧ slots + 0 ≤ R.slots) (hdg : decode cc pc = .ok (.invokevirtual index, 3))
    (kk : ∀ (H1 : Heap) (locs1 : List Loc), va_P D vwCl ws' H1 → va_S A H0 H1 locs1 → W p l e R s m args below meth c H1 locs1 cells slots Q (F0 m (pc + 3) ls (.long r :: rest))) : W p l e R s m args below meth c H locs cells slots Q (F0 m pc ls st) :=
  wrC (runV2 hx hb hml hown hts hK hM cw hP q0 he hc hC hn hl hst hW hdg hcl PW_blind (fun U hU hW => ⟨by rw [hU]; exact hP, hK.warm hW, hD.weaken (fun _ _ _ _ => trivial)⟩)) hD hS kk
theorem wcVv (hx : p.tables.exec = Jvm.exec) (hb : c.code = cc) (hml : c.maxLocals = nL) (hown : s.vm.findClass own = some m.cls) (hts : ∀ w ∈ wsG, w.before args s = true) (hK : KK D tys s) (hP : va_P D vwCl ws H) (hD : va_D A ws) (hS : va_S A H0 H locs) (hM : Met l y wy rm (va_Pc (.ref b :: As) (PW D tys ws)) (QcW D none ws ws') 0 0 (FPw ws)) (cw : CallW R s args own C index y bytes maxL ret wy rm 0 0 n) (q0 : Nat) {ci : Nat} {fs : List Value} {q : vw_C} (he : ws[q0]? = some (b, .inr (ci, fs))) (hc : vwCl[ci]? = some q) (hC : q.1 = C) (hn : As.length = n) (hl : ls.size = nL) (hst : st = As.reverse ++ .ref b :: rest) (hW : (rest.map fun v => v.category).sum ≤ 8) (hcl : cells + 0 ≤ R.cells ∧ slots + 0 ≤ R.slots) (hdg : decode cc pc = .ok (.invokevirtual index, 3))
    (kk : ∀ (H1 : Heap) (locs1 : List Loc), va_P D vwCl ws' H1 → va_S A H0 H1 locs1 → W p l e R s m args below meth c H1 locs1 cells slots Q (F0 m (pc + 3) ls rest)) : W p l e R s m args below meth c H locs cells slots Q (F0 m pc ls st) :=
  wrC (runV2 hx hb hml hown hts hK hM cw hP q0 he hc hC hn hl hst hW hdg hcl PW_blind (fun U hU hW => ⟨by rw [hU]; exact hP, hK.warm hW, hD.weaken (fun _ _ _ _ => trivial)⟩)) hD hS kk
theorem wcSv (hx : p.tables.exec = Jvm.exec) (hb : c.code = cc) (hml : c.maxLocals = nL) (hown : s.vm.findClass own = some m.cls) (hts : ∀ w ∈ wsG, w.before args s = true) (hK : KK D tys s) (hP : va_P D vwCl ws H) (hD : va_D A ws) (hS : va_S A H0 H locs) (hM : Met l y wy rm (va_Pc As (PW D tys ws)) (QcW D none ws ws') 0 0 (FPw ws)) (cw : CallB R s args own index y bytes maxL ret wy rm 0 0 n ∧ (Cond.static y).before args s = true) (hn : As.length = n) (hl : ls.size = nL) (hst : st = As.reverse ++ rest) (hW : (rest.map fun v => v.category).sum ≤ 8) (hcl : cells + 0 ≤ R.cells ∧ slots + 0 ≤ R.slots) (hdg : decode cc pc = .ok (.invokestatic index, 3))
    (kk : ∀ (H1 : Heap) (locs1 : List Loc), va_P D vwCl ws' H1 → va_S A H0 H1 locs1 → W p l e R s m args below meth c H1 locs1 cells slots Q (F0 m (pc + 3) ls rest)) : W p l e R s m args below meth c H locs cells slots Q (F0 m pc ls st) :=
  wrC (runS2 hx hb hml hown hts hM cw hn hl hst hW hdg hcl PW_blind (fun U hU hW => ⟨by rw [hU]; exact hP, hK.warm hW, hD.weaken (fun _ _ _ _ => trivial)⟩)) hD hS kk
theorem wrCV {g : JFrame} {a : Array Value} (hr : va_Run p l e R s m args below meth c H locs cells slots 0 0 g rest (QcW D v ws ws' a) (FPw ws)) (hD : va_D A ws) (hS : va_S A H0 H locs) (kk : ∀ (H1 : Heap) (locs1 : List Loc), va_P D vwCl ws' H1 → va_S A H0 H1 locs1 → W p l e R s m args below meth c H1 locs1 cells slots Q { g with pc := g.pc + 3, stack := v.toList ++ rest }) : W p l e R s m args below meth c H locs cells slots Q g := by
  refine wrC (a := a) (fun T hT X => ?_) hD hS kk
  obtain ⟨v1, st₀, t, T', L, h0, X', hL, e1, -, hq, st⟩ := hr T hT X
  exact ⟨v1, st₀, t, T', L, h0, X', hL, e1, hq, st⟩
theorem wcSNv {host : String} (hx : p.tables.exec = Jvm.exec) (hb : c.code = cc) (hml : c.maxLocals = nL) (hown : s.vm.findClass own = some m.cls) (hts : ∀ w ∈ wsG, w.before args s = true) (hK : KK D tys s) (hP : va_P D vwCl ws H) (hD : va_D A ws) (hS : va_S A H0 H locs) (hM : Met l y wy rm (va_Pc As (PW D tys ws)) (QcW D none ws ws') 0 0 (FPw ws)) (cw : va_CN R s args own index y host bytes maxL ret wy rm 0 0 n ∧ (Cond.static y).before args s = true ∧ True) (hn : As.length = n) (hl : ls.size = nL) (hst : st = As.reverse ++ rest) (hW : (rest.map fun v => v.category).sum ≤ 8) (hcl : cells + 0 ≤ R.cells ∧ slots + 0 ≤ R.slots) (hdg : decode cc pc = .ok (.invokestatic index, 3))
    (kk : ∀ (H1 : Heap) (locs1 : List Loc), va_P D vwCl ws' H1 → va_S A H0 H1 locs1 → W p l e R s m args below meth c H1 locs1 cells slots Q (F0 m (pc + 3) ls rest)) : W p l e R s m args below meth c H locs cells slots Q (F0 m pc ls st) :=
  wrCV (g := F0 m pc ls st) (va_runSN ⟨hx, hb, hml, hown, hts⟩ hM cw ⟨PW_blind, fun U hU hW => ⟨rfl, by rw [hU]; exact hP, hK.warm hW, hD.weaken (fun _ _ _ _ => trivial)⟩⟩ rfl hn hl hst (lv_room hW) hdg hcl) hD hS kk
theorem retRi {r z : Int32} (hx : p.tables.exec = Jvm.exec) (hb : c.code = cc) (hr : meth.sig.returnType = some .int) (hlk : meth.locks = false) (hdg : decode cc pc = .ok (.ireturn, 1)) (hv : z = r) : W p l e R s m args below meth c s.heap [] 0 0 (MQ below (QcV (some (.int r))) args s 0 0 (fun _ => False)) (F0 m pc ls [.int z]) := by
  subst hv
  exact W.iret hx hb hr (fun t ht _ => ⟨rfl, ht⟩) (fun _ h => by cases h) hdg hlk
theorem retRz {z : Int32} {P : Prop} [Decidable P] (hx : p.tables.exec = Jvm.exec) (hb : c.code = cc) (hr : meth.sig.returnType = some .boolean) (hlk : meth.locks = false) (hdg : decode cc pc = .ok (.ireturn, 1)) (hv : z = b2 P) : W p l e R s m args below meth c s.heap [] 0 0 (MQ below (QcV (some (.int (b2 P)))) args s 0 0 (fun _ => False)) (F0 m pc ls [.int z]) := by
  subst hv
  exact W.zret hx hb hr b2_nar (fun t ht _ => ⟨rfl, ht⟩) (fun _ h => by cases h) hdg hlk
theorem retRl {r z : Int64} (hx : p.tables.exec = Jvm.exec) (hb : c.code = cc) (hr : meth.sig.returnType = some .long) (hlk : meth.locks = false) (hdg : decode cc pc = .ok (.lreturn, 1)) (hv : z = r) : W p l e R s m args below meth c s.heap [] 0 0 (MQ below (QcV (some (.long r))) args s 0 0 (fun _ => False)) (F0 m pc ls [.long z]) := by
  subst hv
  exact W.lret hx hb hr (fun t ht _ => ⟨rfl, ht⟩) (fun _ h => by cases h) hdg hlk
theorem retWi {r z : Int32} {wc : va_W} (hx : p.tables.exec = Jvm.exec) (hb : c.code = cc) (hr : meth.sig.returnType = some .int) (hlk : meth.locks = false) (hP : va_P D vwCl wc H) (hS : va_S (FPw ws) s.heap H locs) (hdg : decode cc pc = .ok (.ireturn, 1)) (hv : z = r) (hw : wc = ws') : W p l e R s m args below meth c H locs 0 0 (MQ below (QcW D (some (.int r)) ws ws') args s 0 0 (FPw ws)) (F0 m pc ls [.int z]) := by
  subst hv
  subst hw
  exact W.iret hx hb hr (fun t ht _ => ⟨rfl, by rw [ht]; exact hP, hS.F ht⟩) hS.2.2 hdg hlk
theorem retWz {z : Int32} {P : Prop} [Decidable P] {wc : va_W} (hx : p.tables.exec = Jvm.exec) (hb : c.code = cc) (hr : meth.sig.returnType = some .boolean) (hlk : meth.locks = false) (hP : va_P D vwCl wc H) (hS : va_S (FPw ws) s.heap H locs) (hdg : decode cc pc = .ok (.ireturn, 1)) (hv : z = b2 P) (hw : wc = ws') : W p l e R s m args below meth c H locs 0 0 (MQ below (QcW D (some (.int (b2 P))) ws ws') args s 0 0 (FPw ws)) (F0 m pc ls [.int z]) := by
  subst hv
  subst hw
  exact W.zret hx hb hr b2_nar (fun t ht _ => ⟨rfl, by rw [ht]; exact hP, hS.F ht⟩) hS.2.2 hdg hlk
theorem retWl {r z : Int64} {wc : va_W} (hx : p.tables.exec = Jvm.exec) (hb : c.code = cc) (hr : meth.sig.returnType = some .long) (hlk : meth.locks = false) (hP : va_P D vwCl wc H) (hS : va_S (FPw ws) s.heap H locs) (hdg : decode cc pc = .ok (.lreturn, 1)) (hv : z = r) (hw : wc = ws') : W p l e R s m args below meth c H locs 0 0 (MQ below (QcW D (some (.long r)) ws ws') args s 0 0 (FPw ws)) (F0 m pc ls [.long z]) := by
  subst hv
  subst hw
  exact W.lret hx hb hr (fun t ht _ => ⟨rfl, by rw [ht]; exact hP, hS.F ht⟩) hS.2.2 hdg hlk
theorem retWv {wc : va_W} (hx : p.tables.exec = Jvm.exec) (hb : c.code = cc) (hr : meth.sig.returnType = none) (hlk : meth.locks = false) (hP : va_P D vwCl wc H) (hS : va_S (FPw ws) s.heap H locs) (hdg : decode cc pc = .ok (.return_, 1)) (hw : wc = ws') : W p l e R s m args below meth c H locs 0 0 (MQ below (QcW D none ws ws') args s 0 0 (FPw ws)) (F0 m pc ls []) := by
  subst hw
  exact W.vret hx hb hr (fun t ht _ => ⟨rfl, by rw [ht]; exact hP, hS.F ht⟩) hS.2.2 hdg hlk
end GLC
end
section
/-! the worlds: the class's 22 cells, the reference's 16; what a state is: I its ints, J its longs, F its rows -/
abbrev TYS (cI cB cS : ClassId) : List (ClassId × FieldType) := [(cI, .int), (cB, .byte), (cS, .object RX2)]
def wsB (B : Nat → Nat) (cI cS : ClassId) (I : Nat → Int32) (F : Nat → Nat → Int32) : va_W :=
  [(B 0, .inr (3, [.ref (B 1), .ref (B 2), .ref (B 3), .ref (B 4), .int (I 0), .int (I 1), .ref (B 5), .ref (B 6)])),
   (B 1, .inr (0, [.ref (B 7), .int (I 2)])),
   (B 2, .inl (cS, 6, .inr (.inr (.inr (.inr (fun i => some (B (16 + i)))))))),
   (B 3, .inr (1, [.int (I 3), .int (I 4), .int (I 5), .int (I 6), .ref (B 8), .ref (B 9), .ref (B 10), .ref (B 11)])),
   (B 4, .inr (1, [.int (I 7), .int (I 8), .int (I 9), .int (I 10), .ref (B 12), .ref (B 13), .ref (B 14), .ref (B 15)])),
   (B 5, .inl (cI, 10, .inl (F 5))), (B 6, .inl (cI, 10, .inl (F 6))), (B 7, .inl (cI, 21, .inl (F 7))),
   (B 8, .inl (cI, 10, .inl (F 8))), (B 9, .inl (cI, 6, .inl (F 9))), (B 10, .inl (cI, 6, .inl (F 10))), (B 11, .inl (cI, 6, .inl (F 11))),
   (B 12, .inl (cI, 10, .inl (F 12))), (B 13, .inl (cI, 6, .inl (F 13))), (B 14, .inl (cI, 6, .inl (F 14))), (B 15, .inl (cI, 6, .inl (F 15))),
   (B 16, .inr (2, [.int (nI 0), .int (F 16 0), .int (F 17 0), .int (F 18 0), .int (F 19 0)])),
   (B 17, .inr (2, [.int (nI 1), .int (F 16 1), .int (F 17 1), .int (F 18 1), .int (F 19 1)])),
   (B 18, .inr (2, [.int (nI 2), .int (F 16 2), .int (F 17 2), .int (F 18 2), .int (F 19 2)])),
   (B 19, .inr (2, [.int (nI 3), .int (F 16 3), .int (F 17 3), .int (F 18 3), .int (F 19 3)])),
   (B 20, .inr (2, [.int (nI 4), .int (F 16 4), .int (F 17 4), .int (F 18 4), .int (F 19 4)])),
   (B 21, .inr (2, [.int (nI 5), .int (F 16 5), .int (F 17 5), .int (F 18 5), .int (F 19 5)]))]
theorem wsB_st {B : Nat → Nat} {cI cS : ClassId} {I : Nat → Int32} {F : Nat → Nat → Int32} {k : Nat} (h : k < 6) : (wsB B cI cS I F)[16 + k]? = some (B (16 + k), .inr (2, [.int (nI k), .int (F 16 k), .int (F 17 k), .int (F 18 k), .int (F 19 k)])) := by
  match k, h with
  | 0, _ => rfl
  | 1, _ => rfl
  | 2, _ => rfl
  | 3, _ => rfl
  | 4, _ => rfl
  | 5, _ => rfl
  | k + 6, h => exact absurd h (by omega)
theorem wsB_set {B : Nat → Nat} {cI cS : ClassId} {I : Nat → Int32} {F : Nat → Nat → Int32} {k : Nat} (h : k < 6) (a b c d : Int32) : (wsB B cI cS I F).set (16 + k) (B (16 + k), .inr (2, [.int (nI k), .int a, .int b, .int c, .int d])) = wsB B cI cS I (va_up (va_up (va_up (va_up F 16 (upd (F 16) k a)) 17 (upd (F 17) k b)) 18 (upd (F 18) k c)) 19 (upd (F 19) k d)) := by
  match k, h with
  | 0, _ => rfl
  | 1, _ => rfl
  | 2, _ => rfl
  | 3, _ => rfl
  | 4, _ => rfl
  | 5, _ => rfl
  | k + 6, h => exact absurd h (by omega)
def wsM (A : Nat → Nat) (cI cB : ClassId) (I : Nat → Int32) (J : Nat → Int64) (F : Nat → Nat → Int32) : va_W :=
  [(A 0, .inr (4, [.int (I 0), .int (I 1), .ref (A 2), .ref (A 3), .ref (A 4), .ref (A 5), .int (I 6), .ref (A 7), .int (I 8), .int (I 9), .ref (A 10), .ref (A 11), .ref (A 12), .int (I 13), .ref (A 14), .ref (A 15), .long (J 16), .ref (A 17), .int (I 18), .int (I 19), .int (I 20), .int (I 21), .int (I 22), .int (I 23), .ref (A 24), .ref (A 25), .ref (A 26), .ref (A 27), .long (J 28)])),
   (A 2, .inl (cI, 6, .inl (F 2))), (A 3, .inl (cI, 6, .inl (F 3))), (A 4, .inl (cI, 6, .inl (F 4))), (A 5, .inl (cI, 6, .inl (F 5))),
   (A 7, .inl (cI, 10, .inl (F 7))), (A 10, .inl (cI, 6, .inl (F 10))), (A 11, .inl (cI, 6, .inl (F 11))), (A 12, .inl (cI, 6, .inl (F 12))),
   (A 14, .inl (cB, 21, .inl (F 14))), (A 15, .inl (cI, 90, .inl (F 15))), (A 17, .inl (cI, 10, .inl (F 17))),
   (A 24, .inl (cI, 10, .inl (F 24))), (A 25, .inl (cI, 6, .inl (F 25))), (A 26, .inl (cI, 6, .inl (F 26))), (A 27, .inl (cI, 6, .inl (F 27)))]
theorem gs_same {ws : va_W} {q : Nat} {x y : Nat × va_E} (h : ws[q]? = some x) : (ws.set q y)[q]? = some y := by
  rw [List.getElem?_set_self (List.getElem?_eq_some_iff.mp h).1]
theorem gs_ne {ws : va_W} {q q2 : Nat} {x y : Nat × va_E} (hn : q ≠ q2) (h : ws[q2]? = some x) : (ws.set q y)[q2]? = some x := by
  rw [List.getElem?_set_ne hn]; exact h
/-- a sum over the places below n -/
def sumN (f : Nat → Int32) : Nat → Int32
  | 0 => 0
  | n + 1 => sumN f n + f n
/-! what the class's own methods answer, in its own words -/
def cWet (wr kd minute pressed : Int32) : Int32 :=
  if ¬ 0 ≤ minute - wr then 0
  else if kd = 2 then (if (0 : Int32) < pressed - (minute - wr) / 2 then pressed - (minute - wr) / 2 else 0)
  else if kd = 3 then (if (0 : Int32) < pressed - 3 * (minute - wr) then pressed - 3 * (minute - wr) else 0)
  else if kd = 4 then (if (0 : Int32) < pressed + 3 - (minute - wr) then pressed + 3 - (minute - wr) else 0)
  else (if (0 : Int32) < pressed - (minute - wr) then pressed - (minute - wr) else 0)
abbrev cIsA (kd asked : Int32) : Prop := asked = 0 ∨ asked = kd ∨ (asked = 1 ∧ kd = 4)
def cGives (bg cn kd cell wetness : Int32) : Int32 :=
  if ¬ cell < bg ∧ ¬ bg + cn ≤ cell then wetness
  else if (cell = bg - 1 ∨ cell = bg + cn) ∧ cIsA kd 1 then wetness / 2 else 0
set_option maxHeartbeats 4000000 in
set_option maxRecDepth 100000 in
/-- Stroke.isA(asked) -/
theorem c_X2_isA (l : Launch) (D : va_G) (cI cB cS : ClassId) {ws : va_W} {q b : Nat} {wr kd bg cn pr : Int32} (h0 : ws[q]? = some (b, .inr (2, [.int wr, .int kd, .int bg, .int cn, .int pr]))) (p0 : Int32) : Met l yX2_isA (Wm yX2_isA cX2_isA 2 (some .boolean)) ({ frames := 0, cells := 0, slots := 0, locals := 0 }) (va_Pc [.ref b, .int p0] (PR D (TYS cI cB cS) ws)) (QcV (some (.int (b2 (cIsA kd p0))))) 0 0 (fun _ => False) := by
  refine metR (by decide) [.ref b, .int p0] (Nat.le_of_ble_eq_true rfl) ?_
  intro p e s m args below meth c hx hb hml hr hlk hown hts hKK hP ls hl
  obtain ⟨hK, hN⟩ := id hKK
  have hl : lv_has ls 2 [(0, .ref b), (1, .int p0)] := hl
  refine lv_iload_n hx hb dX2_isA_0 rfl (lv_at hl 1 rfl) ?_
  refine lv_if_eq (tgt := 25) hx hb dX2_isA_1 (by decide) (fun c_1 => ?_) (fun c_1 => ?_)
  · refine lv_iconst (v := (1 : Int32)) hx hb dX2_isA_25 (by decide) ?_
    refine lv_goto (tgt := 30) hx hb dX2_isA_26 (by decide) ?_
    exact retRz hx hb hr hlk dX2_isA_30 (by grind [b2])
  · refine lv_iload_n hx hb dX2_isA_4 rfl (lv_at hl 1 rfl) ?_
    refine lv_aload_n hx hb dX2_isA_5 rfl (lv_at hl 0 rfl) ?_
    refine va_get (D := D) (ci := 2) (v := .int kd) (C := RX2) (T := TX2) (N := 5) hx hb hts inlX2 hown hK hP q h0 rfl 1 (by decide) (hts _ kw_50) (fun _ h9 => h9) rfl dX2_isA_6 ?_
    refine lv_icmp_eq (tgt := 25) hx hb dX2_isA_9 (by decide) (fun c_2 => ?_) (fun c_2 => ?_)
    · refine lv_iconst (v := (1 : Int32)) hx hb dX2_isA_25 (by decide) ?_
      refine lv_goto (tgt := 30) hx hb dX2_isA_26 (by decide) ?_
      exact retRz hx hb hr hlk dX2_isA_30 (by grind [b2])
    · refine lv_iload_n hx hb dX2_isA_12 rfl (lv_at hl 1 rfl) ?_
      refine lv_iconst (v := (1 : Int32)) hx hb dX2_isA_13 (by decide) ?_
      refine lv_icmp_ne (tgt := 29) hx hb dX2_isA_14 (by decide) (fun c_3 => ?_) (fun c_3 => ?_)
      · refine lv_iconst (v := (0 : Int32)) hx hb dX2_isA_29 (by decide) ?_
        exact retRz hx hb hr hlk dX2_isA_30 (by grind [b2])
      · refine lv_aload_n hx hb dX2_isA_17 rfl (lv_at hl 0 rfl) ?_
        refine va_get (D := D) (ci := 2) (v := .int kd) (C := RX2) (T := TX2) (N := 5) hx hb hts inlX2 hown hK hP q h0 rfl 1 (by decide) (hts _ kw_50) (fun _ h9 => h9) rfl dX2_isA_18 ?_
        refine lv_iconst (v := (4 : Int32)) hx hb dX2_isA_21 (by decide) ?_
        refine lv_icmp_ne (tgt := 29) hx hb dX2_isA_22 (by decide) (fun c_4 => ?_) (fun c_4 => ?_)
        · refine lv_iconst (v := (0 : Int32)) hx hb dX2_isA_29 (by decide) ?_
          exact retRz hx hb hr hlk dX2_isA_30 (by grind [b2])
        · refine lv_iconst (v := (1 : Int32)) hx hb dX2_isA_25 (by decide) ?_
          refine lv_goto (tgt := 30) hx hb dX2_isA_26 (by decide) ?_
          exact retRz hx hb hr hlk dX2_isA_30 (by grind [b2])
set_option maxHeartbeats 4000000 in
set_option maxRecDepth 100000 in
/-- Stroke.wetAt(minute, pressed) -/
theorem c_X2_wetAt (l : Launch) (D : va_G) (cI cB cS : ClassId) {ws : va_W} {q b : Nat} {wr kd bg cn pr : Int32} (h0 : ws[q]? = some (b, .inr (2, [.int wr, .int kd, .int bg, .int cn, .int pr]))) (p0 p1 : Int32) : Met l yX2_wetAt (Wm yX2_wetAt cX2_wetAt 4 (some .int)) ({ frames := 1, cells := 0, slots := 0, locals := 21 }) (va_Pc [.ref b, .int p0, .int p1] (PR D (TYS cI cB cS) ws)) (QcV (some (.int (cWet wr kd p0 p1)))) 0 0 (fun _ => False) := by
  refine metR (by decide) [.ref b, .int p0, .int p1] (Nat.le_of_ble_eq_true rfl) ?_
  intro p e s m args below meth c hx hb hml hr hlk hown hts hKK hP ls hl
  obtain ⟨hK, hN⟩ := id hKK
  have hl : lv_has ls 4 [(0, .ref b), (1, .int p0), (2, .int p1)] := hl
  refine lv_iload_n hx hb dX2_wetAt_0 rfl (lv_at hl 1 rfl) ?_
  refine lv_aload_n hx hb dX2_wetAt_1 rfl (lv_at hl 0 rfl) ?_
  refine va_get (D := D) (ci := 2) (v := .int wr) (C := RX2) (T := TX2) (N := 5) hx hb hts inlX2 hown hK hP q h0 rfl 0 (by decide) (hts _ kw_54) (fun _ h9 => h9) rfl dX2_wetAt_2 ?_
  refine lv_isub hx hb dX2_wetAt_5 ?_
  refine lv_istore_n (lv' := [(3, .int (p0 - wr)), (0, .ref b), (1, .int p0), (2, .int p1)]) hx hb dX2_wetAt_6 rfl hl (by decide) rfl (fun ls hl => ?_)
  refine lv_iload_n hx hb dX2_wetAt_7 rfl (lv_at hl 0 rfl) ?_
  refine lv_if_ge (tgt := 13) hx hb dX2_wetAt_8 (by decide) (fun c_1 => ?_) (fun c_1 => ?_)
  · refine lv_aload_n hx hb dX2_wetAt_13 rfl (lv_at hl 1 rfl) ?_
    refine va_get (D := D) (ci := 2) (v := .int kd) (C := RX2) (T := TX2) (N := 5) hx hb hts inlX2 hown hK hP q h0 rfl 1 (by decide) (hts _ kw_50) (fun _ h9 => h9) rfl dX2_wetAt_14 ?_
    by_cases e_2 : kd = (2 : Int32)
    · refine topE e_2 ?_
      refine lv_tableIn (off := 27) (tgt := 44) hx hb dX2_wetAt_17 (by decide) (by decide) rfl (by decide) ?_
      refine lv_iconst (v := (0 : Int32)) hx hb dX2_wetAt_44 (by decide) ?_
      refine lv_iload_n hx hb dX2_wetAt_45 rfl (lv_at hl 3 rfl) ?_
      refine lv_iload_n hx hb dX2_wetAt_46 rfl (lv_at hl 0 rfl) ?_
      refine lv_iconst (v := (2 : Int32)) hx hb dX2_wetAt_47 (by decide) ?_
      refine lv_idiv hx hb dX2_wetAt_48 (by decide) ?_
      refine lv_isub hx hb dX2_wetAt_49 ?_
      refine va_mmax hx hb (hml.trans hl.1.symm) hown (hts _ kw_287) (hts _ kw_152) (hts _ kw_153) (hts _ kw_154) (Nat.le_of_ble_eq_true rfl) (Nat.le_of_ble_eq_true rfl) (Nat.zero_le _) (Nat.zero_le _) dX2_wetAt_50 ?_
      exact retRi hx hb hr hlk dX2_wetAt_53 (by grind [cWet])
    by_cases e_3 : kd = (3 : Int32)
    · refine topE e_3 ?_
      refine lv_tableIn (off := 37) (tgt := 54) hx hb dX2_wetAt_17 (by decide) (by decide) rfl (by decide) ?_
      refine lv_iconst (v := (0 : Int32)) hx hb dX2_wetAt_54 (by decide) ?_
      refine lv_iload_n hx hb dX2_wetAt_55 rfl (lv_at hl 3 rfl) ?_
      refine lv_iconst (v := (3 : Int32)) hx hb dX2_wetAt_56 (by decide) ?_
      refine lv_iload_n hx hb dX2_wetAt_57 rfl (lv_at hl 0 rfl) ?_
      refine lv_imul hx hb dX2_wetAt_58 ?_
      refine lv_isub hx hb dX2_wetAt_59 ?_
      refine va_mmax hx hb (hml.trans hl.1.symm) hown (hts _ kw_287) (hts _ kw_152) (hts _ kw_153) (hts _ kw_154) (Nat.le_of_ble_eq_true rfl) (Nat.le_of_ble_eq_true rfl) (Nat.zero_le _) (Nat.zero_le _) dX2_wetAt_60 ?_
      exact retRi hx hb hr hlk dX2_wetAt_63 (by grind [cWet])
    by_cases e_4 : kd = (4 : Int32)
    · refine topE e_4 ?_
      refine lv_tableIn (off := 47) (tgt := 64) hx hb dX2_wetAt_17 (by decide) (by decide) rfl (by decide) ?_
      refine lv_iconst (v := (0 : Int32)) hx hb dX2_wetAt_64 (by decide) ?_
      refine lv_iload_n hx hb dX2_wetAt_65 rfl (lv_at hl 3 rfl) ?_
      refine lv_iconst (v := (3 : Int32)) hx hb dX2_wetAt_66 (by decide) ?_
      refine lv_iadd hx hb dX2_wetAt_67 ?_
      refine lv_iload_n hx hb dX2_wetAt_68 rfl (lv_at hl 0 rfl) ?_
      refine lv_isub hx hb dX2_wetAt_69 ?_
      refine va_mmax hx hb (hml.trans hl.1.symm) hown (hts _ kw_287) (hts _ kw_152) (hts _ kw_153) (hts _ kw_154) (Nat.le_of_ble_eq_true rfl) (Nat.le_of_ble_eq_true rfl) (Nat.zero_le _) (Nat.zero_le _) dX2_wetAt_70 ?_
      exact retRi hx hb hr hlk dX2_wetAt_73 (by grind [cWet])
    have t_5 := lv_neT e_2 (a := 2) rfl
    have t_6 := lv_neT e_3 (a := 3) rfl
    have t_7 := lv_neT e_4 (a := 4) rfl
    refine lv_tableOut (tgt := 74) hx hb dX2_wetAt_17 (by omega) (by decide) ?_
    refine lv_iconst (v := (0 : Int32)) hx hb dX2_wetAt_74 (by decide) ?_
    refine lv_iload_n hx hb dX2_wetAt_75 rfl (lv_at hl 3 rfl) ?_
    refine lv_iload_n hx hb dX2_wetAt_76 rfl (lv_at hl 0 rfl) ?_
    refine lv_isub hx hb dX2_wetAt_77 ?_
    refine va_mmax hx hb (hml.trans hl.1.symm) hown (hts _ kw_287) (hts _ kw_152) (hts _ kw_153) (hts _ kw_154) (Nat.le_of_ble_eq_true rfl) (Nat.le_of_ble_eq_true rfl) (Nat.zero_le _) (Nat.zero_le _) dX2_wetAt_78 ?_
    exact retRi hx hb hr hlk dX2_wetAt_81 (by grind [cWet])
  · refine lv_iconst (v := (0 : Int32)) hx hb dX2_wetAt_11 (by decide) ?_
    exact retRi hx hb hr hlk dX2_wetAt_12 (by grind [cWet])
set_option maxHeartbeats 4000000 in
set_option maxRecDepth 100000 in
/-- Stroke.givesTo(cell, wetness) -/
theorem c_X2_givesTo (l : Launch) (D : va_G) (cI cB cS : ClassId) {ws : va_W} {q b : Nat} {wr kd bg cn pr : Int32} (h0 : ws[q]? = some (b, .inr (2, [.int wr, .int kd, .int bg, .int cn, .int pr]))) (p0 p1 : Int32) : Met l yX2_givesTo (Wm yX2_givesTo cX2_givesTo 5 (some .int)) ({ frames := 1, cells := 0, slots := 0, locals := 21 }) (va_Pc [.ref b, .int p0, .int p1] (PR D (TYS cI cB cS) ws)) (QcV (some (.int (cGives bg cn kd p0 p1)))) 0 0 (fun _ => False) := by
  refine metR (by decide) [.ref b, .int p0, .int p1] (Nat.le_of_ble_eq_true rfl) ?_
  intro p e s m args below meth c hx hb hml hr hlk hown hts hKK hP ls hl
  obtain ⟨hK, hN⟩ := id hKK
  have hl : lv_has ls 5 [(0, .ref b), (1, .int p0), (2, .int p1)] := hl
  refine lv_aload_n hx hb dX2_givesTo_0 rfl (lv_at hl 0 rfl) ?_
  refine va_get (D := D) (ci := 2) (v := .int bg) (C := RX2) (T := TX2) (N := 5) hx hb hts inlX2 hown hK hP q h0 rfl 2 (by decide) (hts _ kw_51) (fun _ h9 => h9) rfl dX2_givesTo_1 ?_
  refine lv_aload_n hx hb dX2_givesTo_4 rfl (lv_at hl 0 rfl) ?_
  refine va_get (D := D) (ci := 2) (v := .int cn) (C := RX2) (T := TX2) (N := 5) hx hb hts inlX2 hown hK hP q h0 rfl 3 (by decide) (hts _ kw_52) (fun _ h9 => h9) rfl dX2_givesTo_5 ?_
  refine lv_iadd hx hb dX2_givesTo_8 ?_
  refine lv_istore_n (lv' := [(3, .int (bg + cn)), (0, .ref b), (1, .int p0), (2, .int p1)]) hx hb dX2_givesTo_9 rfl hl (by decide) rfl (fun ls hl => ?_)
  refine lv_iload_n hx hb dX2_givesTo_10 rfl (lv_at hl 2 rfl) ?_
  refine lv_aload_n hx hb dX2_givesTo_11 rfl (lv_at hl 1 rfl) ?_
  refine va_get (D := D) (ci := 2) (v := .int bg) (C := RX2) (T := TX2) (N := 5) hx hb hts inlX2 hown hK hP q h0 rfl 2 (by decide) (hts _ kw_51) (fun _ h9 => h9) rfl dX2_givesTo_12 ?_
  refine lv_icmp_lt (tgt := 25) hx hb dX2_givesTo_15 (by decide) (fun c_1 => ?_) (fun c_1 => ?_)
  · refine lv_iload_n hx hb dX2_givesTo_25 rfl (lv_at hl 2 rfl) ?_
    refine lv_aload_n hx hb dX2_givesTo_26 rfl (lv_at hl 1 rfl) ?_
    refine va_get (D := D) (ci := 2) (v := .int bg) (C := RX2) (T := TX2) (N := 5) hx hb hts inlX2 hown hK hP q h0 rfl 2 (by decide) (hts _ kw_51) (fun _ h9 => h9) rfl dX2_givesTo_27 ?_
    refine lv_iconst (v := (1 : Int32)) hx hb dX2_givesTo_30 (by decide) ?_
    refine lv_isub hx hb dX2_givesTo_31 ?_
    refine lv_icmp_eq (tgt := 40) hx hb dX2_givesTo_32 (by decide) (fun c_2 => ?_) (fun c_2 => ?_)
    · refine lv_iconst (v := (1 : Int32)) hx hb dX2_givesTo_40 (by decide) ?_
      refine lv_goto (tgt := 45) hx hb dX2_givesTo_41 (by decide) ?_
      refine lv_istore (lv' := [(4, .int (1 : Int32)), (3, .int (bg + cn)), (0, .ref b), (1, .int p0), (2, .int p1)]) hx hb dX2_givesTo_45 hl (by decide) rfl (fun ls hl => ?_)
      refine lv_iload hx hb dX2_givesTo_47 (lv_at hl 0 rfl) ?_
      refine lv_if_eq (tgt := 66) hx hb dX2_givesTo_49 (by decide) (fun c_3 => ?_) (fun c_3 => ?_)
      · exact absurd c_3 (by decide)
      · refine lv_aload_n hx hb dX2_givesTo_52 rfl (lv_at hl 2 rfl) ?_
        refine lv_iconst (v := (1 : Int32)) hx hb dX2_givesTo_53 (by decide) ?_
        refine rcVi (As := [.int (1 : Int32)]) (rest := []) hx hb hml hown hts hKK hP (c_X2_isA l D cI cB cS h0 (1 : Int32)) (cwV2 1 hts kw_295 kw_29 kw_292 kw_293 kw_294 rfl rfl (by decide +kernel) ⟨Nat.le_of_ble_eq_true rfl, Nat.le_of_ble_eq_true rfl⟩) q (h0) rfl rfl rfl hl.1 rfl (Nat.le_of_ble_eq_true rfl) ⟨Nat.zero_le _, Nat.zero_le _⟩ dX2_givesTo_54 ?_
        refine lv_if_eq (tgt := 66) hx hb dX2_givesTo_57 (by decide) (fun c_4 => ?_) (fun c_4 => ?_)
        · have c_4 := b2_z c_4
          refine lv_iconst (v := (0 : Int32)) hx hb dX2_givesTo_66 (by decide) ?_
          exact retRi hx hb hr hlk dX2_givesTo_67 (by grind [cGives])
        · have c_4 := b2_nz c_4
          refine lv_iload_n hx hb dX2_givesTo_60 rfl (lv_at hl 4 rfl) ?_
          refine lv_iconst (v := (2 : Int32)) hx hb dX2_givesTo_61 (by decide) ?_
          refine lv_idiv hx hb dX2_givesTo_62 (by decide) ?_
          refine lv_goto (tgt := 67) hx hb dX2_givesTo_63 (by decide) ?_
          exact retRi hx hb hr hlk dX2_givesTo_67 (by grind [cGives])
    · refine lv_iload_n hx hb dX2_givesTo_35 rfl (lv_at hl 2 rfl) ?_
      refine lv_iload_n hx hb dX2_givesTo_36 rfl (lv_at hl 0 rfl) ?_
      refine lv_icmp_ne (tgt := 44) hx hb dX2_givesTo_37 (by decide) (fun c_5 => ?_) (fun c_5 => ?_)
      · refine lv_iconst (v := (0 : Int32)) hx hb dX2_givesTo_44 (by decide) ?_
        refine lv_istore (lv' := [(4, .int (0 : Int32)), (3, .int (bg + cn)), (0, .ref b), (1, .int p0), (2, .int p1)]) hx hb dX2_givesTo_45 hl (by decide) rfl (fun ls hl => ?_)
        refine lv_iload hx hb dX2_givesTo_47 (lv_at hl 0 rfl) ?_
        refine lv_if_eq (tgt := 66) hx hb dX2_givesTo_49 (by decide) (fun c_6 => ?_) (fun c_6 => ?_)
        · refine lv_iconst (v := (0 : Int32)) hx hb dX2_givesTo_66 (by decide) ?_
          exact retRi hx hb hr hlk dX2_givesTo_67 (by grind [cGives])
        · exact absurd c_6 (by decide)
      · refine lv_iconst (v := (1 : Int32)) hx hb dX2_givesTo_40 (by decide) ?_
        refine lv_goto (tgt := 45) hx hb dX2_givesTo_41 (by decide) ?_
        refine lv_istore (lv' := [(4, .int (1 : Int32)), (3, .int (bg + cn)), (0, .ref b), (1, .int p0), (2, .int p1)]) hx hb dX2_givesTo_45 hl (by decide) rfl (fun ls hl => ?_)
        refine lv_iload hx hb dX2_givesTo_47 (lv_at hl 0 rfl) ?_
        refine lv_if_eq (tgt := 66) hx hb dX2_givesTo_49 (by decide) (fun c_7 => ?_) (fun c_7 => ?_)
        · exact absurd c_7 (by decide)
        · refine lv_aload_n hx hb dX2_givesTo_52 rfl (lv_at hl 2 rfl) ?_
          refine lv_iconst (v := (1 : Int32)) hx hb dX2_givesTo_53 (by decide) ?_
          refine rcVi (As := [.int (1 : Int32)]) (rest := []) hx hb hml hown hts hKK hP (c_X2_isA l D cI cB cS h0 (1 : Int32)) (cwV2 1 hts kw_295 kw_29 kw_292 kw_293 kw_294 rfl rfl (by decide +kernel) ⟨Nat.le_of_ble_eq_true rfl, Nat.le_of_ble_eq_true rfl⟩) q (h0) rfl rfl rfl hl.1 rfl (Nat.le_of_ble_eq_true rfl) ⟨Nat.zero_le _, Nat.zero_le _⟩ dX2_givesTo_54 ?_
          refine lv_if_eq (tgt := 66) hx hb dX2_givesTo_57 (by decide) (fun c_8 => ?_) (fun c_8 => ?_)
          · have c_8 := b2_z c_8
            refine lv_iconst (v := (0 : Int32)) hx hb dX2_givesTo_66 (by decide) ?_
            exact retRi hx hb hr hlk dX2_givesTo_67 (by grind [cGives])
          · have c_8 := b2_nz c_8
            refine lv_iload_n hx hb dX2_givesTo_60 rfl (lv_at hl 4 rfl) ?_
            refine lv_iconst (v := (2 : Int32)) hx hb dX2_givesTo_61 (by decide) ?_
            refine lv_idiv hx hb dX2_givesTo_62 (by decide) ?_
            refine lv_goto (tgt := 67) hx hb dX2_givesTo_63 (by decide) ?_
            exact retRi hx hb hr hlk dX2_givesTo_67 (by grind [cGives])
  · refine lv_iload_n hx hb dX2_givesTo_18 rfl (lv_at hl 2 rfl) ?_
    refine lv_iload_n hx hb dX2_givesTo_19 rfl (lv_at hl 0 rfl) ?_
    refine lv_icmp_ge (tgt := 25) hx hb dX2_givesTo_20 (by decide) (fun c_9 => ?_) (fun c_9 => ?_)
    · refine lv_iload_n hx hb dX2_givesTo_25 rfl (lv_at hl 2 rfl) ?_
      refine lv_aload_n hx hb dX2_givesTo_26 rfl (lv_at hl 1 rfl) ?_
      refine va_get (D := D) (ci := 2) (v := .int bg) (C := RX2) (T := TX2) (N := 5) hx hb hts inlX2 hown hK hP q h0 rfl 2 (by decide) (hts _ kw_51) (fun _ h9 => h9) rfl dX2_givesTo_27 ?_
      refine lv_iconst (v := (1 : Int32)) hx hb dX2_givesTo_30 (by decide) ?_
      refine lv_isub hx hb dX2_givesTo_31 ?_
      refine lv_icmp_eq (tgt := 40) hx hb dX2_givesTo_32 (by decide) (fun c_10 => ?_) (fun c_10 => ?_)
      · refine lv_iconst (v := (1 : Int32)) hx hb dX2_givesTo_40 (by decide) ?_
        refine lv_goto (tgt := 45) hx hb dX2_givesTo_41 (by decide) ?_
        refine lv_istore (lv' := [(4, .int (1 : Int32)), (3, .int (bg + cn)), (0, .ref b), (1, .int p0), (2, .int p1)]) hx hb dX2_givesTo_45 hl (by decide) rfl (fun ls hl => ?_)
        refine lv_iload hx hb dX2_givesTo_47 (lv_at hl 0 rfl) ?_
        refine lv_if_eq (tgt := 66) hx hb dX2_givesTo_49 (by decide) (fun c_11 => ?_) (fun c_11 => ?_)
        · exact absurd c_11 (by decide)
        · refine lv_aload_n hx hb dX2_givesTo_52 rfl (lv_at hl 2 rfl) ?_
          refine lv_iconst (v := (1 : Int32)) hx hb dX2_givesTo_53 (by decide) ?_
          refine rcVi (As := [.int (1 : Int32)]) (rest := []) hx hb hml hown hts hKK hP (c_X2_isA l D cI cB cS h0 (1 : Int32)) (cwV2 1 hts kw_295 kw_29 kw_292 kw_293 kw_294 rfl rfl (by decide +kernel) ⟨Nat.le_of_ble_eq_true rfl, Nat.le_of_ble_eq_true rfl⟩) q (h0) rfl rfl rfl hl.1 rfl (Nat.le_of_ble_eq_true rfl) ⟨Nat.zero_le _, Nat.zero_le _⟩ dX2_givesTo_54 ?_
          refine lv_if_eq (tgt := 66) hx hb dX2_givesTo_57 (by decide) (fun c_12 => ?_) (fun c_12 => ?_)
          · have c_12 := b2_z c_12
            refine lv_iconst (v := (0 : Int32)) hx hb dX2_givesTo_66 (by decide) ?_
            exact retRi hx hb hr hlk dX2_givesTo_67 (by grind [cGives])
          · have c_12 := b2_nz c_12
            refine lv_iload_n hx hb dX2_givesTo_60 rfl (lv_at hl 4 rfl) ?_
            refine lv_iconst (v := (2 : Int32)) hx hb dX2_givesTo_61 (by decide) ?_
            refine lv_idiv hx hb dX2_givesTo_62 (by decide) ?_
            refine lv_goto (tgt := 67) hx hb dX2_givesTo_63 (by decide) ?_
            exact retRi hx hb hr hlk dX2_givesTo_67 (by grind [cGives])
      · refine lv_iload_n hx hb dX2_givesTo_35 rfl (lv_at hl 2 rfl) ?_
        refine lv_iload_n hx hb dX2_givesTo_36 rfl (lv_at hl 0 rfl) ?_
        refine lv_icmp_ne (tgt := 44) hx hb dX2_givesTo_37 (by decide) (fun c_13 => ?_) (fun c_13 => ?_)
        · refine lv_iconst (v := (0 : Int32)) hx hb dX2_givesTo_44 (by decide) ?_
          refine lv_istore (lv' := [(4, .int (0 : Int32)), (3, .int (bg + cn)), (0, .ref b), (1, .int p0), (2, .int p1)]) hx hb dX2_givesTo_45 hl (by decide) rfl (fun ls hl => ?_)
          refine lv_iload hx hb dX2_givesTo_47 (lv_at hl 0 rfl) ?_
          refine lv_if_eq (tgt := 66) hx hb dX2_givesTo_49 (by decide) (fun c_14 => ?_) (fun c_14 => ?_)
          · refine lv_iconst (v := (0 : Int32)) hx hb dX2_givesTo_66 (by decide) ?_
            exact retRi hx hb hr hlk dX2_givesTo_67 (by grind [cGives])
          · exact absurd c_14 (by decide)
        · refine lv_iconst (v := (1 : Int32)) hx hb dX2_givesTo_40 (by decide) ?_
          refine lv_goto (tgt := 45) hx hb dX2_givesTo_41 (by decide) ?_
          refine lv_istore (lv' := [(4, .int (1 : Int32)), (3, .int (bg + cn)), (0, .ref b), (1, .int p0), (2, .int p1)]) hx hb dX2_givesTo_45 hl (by decide) rfl (fun ls hl => ?_)
          refine lv_iload hx hb dX2_givesTo_47 (lv_at hl 0 rfl) ?_
          refine lv_if_eq (tgt := 66) hx hb dX2_givesTo_49 (by decide) (fun c_15 => ?_) (fun c_15 => ?_)
          · exact absurd c_15 (by decide)
          · refine lv_aload_n hx hb dX2_givesTo_52 rfl (lv_at hl 2 rfl) ?_
            refine lv_iconst (v := (1 : Int32)) hx hb dX2_givesTo_53 (by decide) ?_
            refine rcVi (As := [.int (1 : Int32)]) (rest := []) hx hb hml hown hts hKK hP (c_X2_isA l D cI cB cS h0 (1 : Int32)) (cwV2 1 hts kw_295 kw_29 kw_292 kw_293 kw_294 rfl rfl (by decide +kernel) ⟨Nat.le_of_ble_eq_true rfl, Nat.le_of_ble_eq_true rfl⟩) q (h0) rfl rfl rfl hl.1 rfl (Nat.le_of_ble_eq_true rfl) ⟨Nat.zero_le _, Nat.zero_le _⟩ dX2_givesTo_54 ?_
            refine lv_if_eq (tgt := 66) hx hb dX2_givesTo_57 (by decide) (fun c_16 => ?_) (fun c_16 => ?_)
            · have c_16 := b2_z c_16
              refine lv_iconst (v := (0 : Int32)) hx hb dX2_givesTo_66 (by decide) ?_
              exact retRi hx hb hr hlk dX2_givesTo_67 (by grind [cGives])
            · have c_16 := b2_nz c_16
              refine lv_iload_n hx hb dX2_givesTo_60 rfl (lv_at hl 4 rfl) ?_
              refine lv_iconst (v := (2 : Int32)) hx hb dX2_givesTo_61 (by decide) ?_
              refine lv_idiv hx hb dX2_givesTo_62 (by decide) ?_
              refine lv_goto (tgt := 67) hx hb dX2_givesTo_63 (by decide) ?_
              exact retRi hx hb hr hlk dX2_givesTo_67 (by grind [cGives])
    · refine lv_iload_n hx hb dX2_givesTo_23 rfl (lv_at hl 3 rfl) ?_
      exact retRi hx hb hr hlk dX2_givesTo_24 (by grind [cGives])
end
section
/-! State's, and what the class's readers answer -/
theorem wsB_set16 {B : Nat → Nat} {cI cS : ClassId} {I : Nat → Int32} {F : Nat → Nat → Int32} {k : Nat} (h : k < 6) (a : Int32) : (wsB B cI cS I F).set (16 + k) (B (16 + k), .inr (2, [.int (nI k), .int a, .int (F 17 k), .int (F 18 k), .int (F 19 k)])) = wsB B cI cS I (va_up F 16 (upd (F 16) k a)) := by
  match k, h with
  | 0, _ => rfl
  | 1, _ => rfl
  | 2, _ => rfl
  | 3, _ => rfl
  | 4, _ => rfl
  | 5, _ => rfl
  | k + 6, h => exact absurd h (by omega)
theorem wsB_set17 {B : Nat → Nat} {cI cS : ClassId} {I : Nat → Int32} {F : Nat → Nat → Int32} {k : Nat} (h : k < 6) (a : Int32) : (wsB B cI cS I F).set (16 + k) (B (16 + k), .inr (2, [.int (nI k), .int (F 16 k), .int a, .int (F 18 k), .int (F 19 k)])) = wsB B cI cS I (va_up F 17 (upd (F 17) k a)) := by
  match k, h with
  | 0, _ => rfl
  | 1, _ => rfl
  | 2, _ => rfl
  | 3, _ => rfl
  | 4, _ => rfl
  | 5, _ => rfl
  | k + 6, h => exact absurd h (by omega)
theorem wsB_set18 {B : Nat → Nat} {cI cS : ClassId} {I : Nat → Int32} {F : Nat → Nat → Int32} {k : Nat} (h : k < 6) (a : Int32) : (wsB B cI cS I F).set (16 + k) (B (16 + k), .inr (2, [.int (nI k), .int (F 16 k), .int (F 17 k), .int a, .int (F 19 k)])) = wsB B cI cS I (va_up F 18 (upd (F 18) k a)) := by
  match k, h with
  | 0, _ => rfl
  | 1, _ => rfl
  | 2, _ => rfl
  | 3, _ => rfl
  | 4, _ => rfl
  | 5, _ => rfl
  | k + 6, h => exact absurd h (by omega)
theorem wsB_set19 {B : Nat → Nat} {cI cS : ClassId} {I : Nat → Int32} {F : Nat → Nat → Int32} {k : Nat} (h : k < 6) (a : Int32) : (wsB B cI cS I F).set (16 + k) (B (16 + k), .inr (2, [.int (nI k), .int (F 16 k), .int (F 17 k), .int (F 18 k), .int a])) = wsB B cI cS I (va_up F 19 (upd (F 19) k a)) := by
  match k, h with
  | 0, _ => rfl
  | 1, _ => rfl
  | 2, _ => rfl
  | 3, _ => rfl
  | 4, _ => rfl
  | 5, _ => rfl
  | k + 6, h => exact absurd h (by omega)
/-- a row whose places below i are g's, the others f's -/
def rowN (g f : Nat → Int32) (i : Nat) : Nat → Int32 := fun c => if c < i then g c else f c
theorem rowN_0 {g f : Nat → Int32} : rowN g f 0 = f := by
  funext c
  simp [rowN]
theorem rowN_upd {g f : Nat → Int32} {i : Nat} : upd (rowN g f i) i (g i) = rowN g f (i + 1) := by
  funext c
  unfold upd rowN
  by_cases h : c = i
  · subst h; simp
  · rw [if_neg h]
    by_cases h2 : c < i
    · rw [if_pos h2, if_pos (by omega)]
    · rw [if_neg h2, if_neg (by omega)]
theorem rowN_at {g f : Nat → Int32} {i : Nat} : rowN g f i i = f i := by simp [rowN]
abbrev bitOn (sd x : Int32) : Prop := (sd >>> (x &&& 31)) &&& 1 = 1
def cPut (sd x z : Int32) : Int32 := if z = 0 then sd &&& ((1 <<< (x &&& 31)) ^^^ (-1)) else sd ||| (1 <<< (x &&& 31))
abbrev okS (n : Nat) (x : Int32) : Prop := ¬ x < 0 ∧ ¬ nI n ≤ x
theorem okS_nat {n : Nat} {x : Int32} (hn : n ≤ 6) (h : okS n x) : ∃ k : Nat, k < n ∧ x = nI k := by
  rcases pk_ix x (n := n) (by omega) with h1 | h1 | h1
  · exact absurd h1 h.1
  · exact absurd h1 h.2
  · exact h1
theorem okS_6 {n : Nat} {x : Int32} (hn : n ≤ 6) (h : ¬ nI n ≤ x) : ¬ (6 : Int32) ≤ x := fun h6 => h (Int32.le_trans (nI_le (a := n) (b := 6) hn (by decide)) h6)
abbrev okCell (x : Int32) : Prop := ¬ x < 0 ∧ ¬ (10 : Int32) ≤ x
abbrev okKind (x : Int32) : Prop := ¬ x < 0 ∧ ¬ (4 : Int32) < x
abbrev okMin (x : Int32) : Prop := ¬ x < 0 ∧ ¬ (20 : Int32) < x
abbrev okMuch (x : Int32) : Prop := ¬ x < 0 ∧ ¬ (99 : Int32) < x
def cTerm (F : Nat → Nat → Int32) (sd land minute changed press : Int32) (k : Nat) : Int32 :=
  if bitOn sd (nI k) then 0 else cGives (F 17 k) (F 18 k) (F 16 k) (9 - land) (cWet (nI k) (F 16 k) minute (if nI k = changed then press else F 19 k))
def cComes (F : Nat → Nat → Int32) (sd : Int32) (n : Nat) (land minute changed press : Int32) : Int32 := sumN (cTerm F sd land minute changed press) n
/-- what comes now -/
abbrev cNow (F : Nat → Nat → Int32) (sd : Int32) (n : Nat) (land minute : Int32) : Int32 := cComes F sd n land minute (-1) 0
abbrev cPress (F : Nat → Nat → Int32) (sd : Int32) (n : Nat) (minute : Int32) (f : Nat → Int32) (c : Nat) : Int32 := if f c + cNow F sd n (nI c) minute < 99 then f c + cNow F sd n (nI c) minute else 99
set_option maxHeartbeats 4000000 in
set_option maxRecDepth 100000 in
theorem c_X1_isSanded (l : Launch) (D : va_G) (cI cB cS : ClassId) {ws : va_W} {q b : Nat} {a1 a2 a3 a4 : Nat} {n0 sd ev fd : Int32} (h0 : ws[q]? = some (b, .inr (1, [.int n0, .int sd, .int ev, .int fd, .ref a1, .ref a2, .ref a3, .ref a4]))) (p0 : Int32) : Met l yX1_isSanded (Wm yX1_isSanded cX1_isSanded 2 (some .boolean)) ({ frames := 0, cells := 0, slots := 0, locals := 0 }) (va_Pc [.ref b, .int p0] (PR D (TYS cI cB cS) ws)) (QcV (some (.int (b2 (bitOn sd p0))))) 0 0 (fun _ => False) := by
  refine metR (by decide) [.ref b, .int p0] (Nat.le_of_ble_eq_true rfl) ?_
  intro p e s m args below meth c hx hb hml hr hlk hown hts hKK hP ls hl
  obtain ⟨hK, hN⟩ := id hKK
  have hl : lv_has ls 2 [(0, .ref b), (1, .int p0)] := hl
  refine lv_aload_n hx hb dX1_isSanded_0 rfl (lv_at hl 0 rfl) ?_
  refine va_get (D := D) (ci := 1) (v := .int sd) (C := RX1) (T := TX1) (N := 8) hx hb hts inlX1 hown hK hP q h0 rfl 1 (by decide) (hts _ kw_39) (fun _ h9 => h9) rfl dX1_isSanded_1 ?_
  refine lv_iload_n hx hb dX1_isSanded_4 rfl (lv_at hl 1 rfl) ?_
  refine lv_ishr hx hb dX1_isSanded_5 ?_
  refine lv_iconst (v := (1 : Int32)) hx hb dX1_isSanded_6 (by decide) ?_
  refine lv_iand hx hb dX1_isSanded_7 ?_
  refine lv_iconst (v := (1 : Int32)) hx hb dX1_isSanded_8 (by decide) ?_
  refine lv_icmp_ne (tgt := 16) hx hb dX1_isSanded_9 (by decide) (fun c_1 => ?_) (fun c_1 => ?_)
  · refine lv_iconst (v := (0 : Int32)) hx hb dX1_isSanded_16 (by decide) ?_
    exact retRz hx hb hr hlk dX1_isSanded_17 (by grind [b2])
  · refine lv_iconst (v := (1 : Int32)) hx hb dX1_isSanded_12 (by decide) ?_
    refine lv_goto (tgt := 17) hx hb dX1_isSanded_13 (by decide) ?_
    exact retRz hx hb hr hlk dX1_isSanded_17 (by grind [b2])
set_option maxHeartbeats 4000000 in
set_option maxRecDepth 100000 in
theorem c_X3_isCell (l : Launch) (D : va_G) (cI cB cS : ClassId) {ws : va_W} (p0 : Int32) : Met l yX3_isCell (Wm yX3_isCell cX3_isCell 1 (some .boolean)) ({ frames := 0, cells := 0, slots := 0, locals := 0 }) (va_Pc [.int p0] (PR D (TYS cI cB cS) ws)) (QcV (some (.int (b2 (okCell p0))))) 0 0 (fun _ => False) := by
  refine metR (by decide) [.int p0] (Nat.le_of_ble_eq_true rfl) ?_
  intro p e s m args below meth c hx hb hml hr hlk hown hts hKK hP ls hl
  obtain ⟨hK, hN⟩ := id hKK
  have hl : lv_has ls 1 [(0, .int p0)] := hl
  refine lv_iload_n hx hb dX3_isCell_0 rfl (lv_at hl 0 rfl) ?_
  refine lv_if_lt (tgt := 14) hx hb dX3_isCell_1 (by decide) (fun c_1 => ?_) (fun c_1 => ?_)
  · refine lv_iconst (v := (0 : Int32)) hx hb dX3_isCell_14 (by decide) ?_
    exact retRz hx hb hr hlk dX3_isCell_15 (by grind [b2])
  · refine lv_iload_n hx hb dX3_isCell_4 rfl (lv_at hl 0 rfl) ?_
    refine lv_bipush (v := (10 : Int32)) hx hb dX3_isCell_5 (by decide) ?_
    refine lv_icmp_ge (tgt := 14) hx hb dX3_isCell_7 (by decide) (fun c_2 => ?_) (fun c_2 => ?_)
    · refine lv_iconst (v := (0 : Int32)) hx hb dX3_isCell_14 (by decide) ?_
      exact retRz hx hb hr hlk dX3_isCell_15 (by grind [b2])
    · refine lv_iconst (v := (1 : Int32)) hx hb dX3_isCell_10 (by decide) ?_
      refine lv_goto (tgt := 15) hx hb dX3_isCell_11 (by decide) ?_
      exact retRz hx hb hr hlk dX3_isCell_15 (by grind [b2])
set_option maxHeartbeats 4000000 in
set_option maxRecDepth 100000 in
theorem c_X3_isKind (l : Launch) (D : va_G) (cI cB cS : ClassId) {ws : va_W} (p0 : Int32) : Met l yX3_isKind (Wm yX3_isKind cX3_isKind 1 (some .boolean)) ({ frames := 0, cells := 0, slots := 0, locals := 0 }) (va_Pc [.int p0] (PR D (TYS cI cB cS) ws)) (QcV (some (.int (b2 (okKind p0))))) 0 0 (fun _ => False) := by
  refine metR (by decide) [.int p0] (Nat.le_of_ble_eq_true rfl) ?_
  intro p e s m args below meth c hx hb hml hr hlk hown hts hKK hP ls hl
  obtain ⟨hK, hN⟩ := id hKK
  have hl : lv_has ls 1 [(0, .int p0)] := hl
  refine lv_iload_n hx hb dX3_isKind_0 rfl (lv_at hl 0 rfl) ?_
  refine lv_if_lt (tgt := 13) hx hb dX3_isKind_1 (by decide) (fun c_1 => ?_) (fun c_1 => ?_)
  · refine lv_iconst (v := (0 : Int32)) hx hb dX3_isKind_13 (by decide) ?_
    exact retRz hx hb hr hlk dX3_isKind_14 (by grind [b2])
  · refine lv_iload_n hx hb dX3_isKind_4 rfl (lv_at hl 0 rfl) ?_
    refine lv_iconst (v := (4 : Int32)) hx hb dX3_isKind_5 (by decide) ?_
    refine lv_icmp_gt (tgt := 13) hx hb dX3_isKind_6 (by decide) (fun c_2 => ?_) (fun c_2 => ?_)
    · refine lv_iconst (v := (0 : Int32)) hx hb dX3_isKind_13 (by decide) ?_
      exact retRz hx hb hr hlk dX3_isKind_14 (by grind [b2])
    · refine lv_iconst (v := (1 : Int32)) hx hb dX3_isKind_9 (by decide) ?_
      refine lv_goto (tgt := 14) hx hb dX3_isKind_10 (by decide) ?_
      exact retRz hx hb hr hlk dX3_isKind_14 (by grind [b2])
set_option maxHeartbeats 4000000 in
set_option maxRecDepth 100000 in
theorem c_X3_isMinute (l : Launch) (D : va_G) (cI cB cS : ClassId) {ws : va_W} (p0 : Int32) : Met l yX3_isMinute (Wm yX3_isMinute cX3_isMinute 1 (some .boolean)) ({ frames := 0, cells := 0, slots := 0, locals := 0 }) (va_Pc [.int p0] (PR D (TYS cI cB cS) ws)) (QcV (some (.int (b2 (okMin p0))))) 0 0 (fun _ => False) := by
  refine metR (by decide) [.int p0] (Nat.le_of_ble_eq_true rfl) ?_
  intro p e s m args below meth c hx hb hml hr hlk hown hts hKK hP ls hl
  obtain ⟨hK, hN⟩ := id hKK
  have hl : lv_has ls 1 [(0, .int p0)] := hl
  refine lv_iload_n hx hb dX3_isMinute_0 rfl (lv_at hl 0 rfl) ?_
  refine lv_if_lt (tgt := 14) hx hb dX3_isMinute_1 (by decide) (fun c_1 => ?_) (fun c_1 => ?_)
  · refine lv_iconst (v := (0 : Int32)) hx hb dX3_isMinute_14 (by decide) ?_
    exact retRz hx hb hr hlk dX3_isMinute_15 (by grind [b2])
  · refine lv_iload_n hx hb dX3_isMinute_4 rfl (lv_at hl 0 rfl) ?_
    refine lv_bipush (v := (20 : Int32)) hx hb dX3_isMinute_5 (by decide) ?_
    refine lv_icmp_gt (tgt := 14) hx hb dX3_isMinute_7 (by decide) (fun c_2 => ?_) (fun c_2 => ?_)
    · refine lv_iconst (v := (0 : Int32)) hx hb dX3_isMinute_14 (by decide) ?_
      exact retRz hx hb hr hlk dX3_isMinute_15 (by grind [b2])
    · refine lv_iconst (v := (1 : Int32)) hx hb dX3_isMinute_10 (by decide) ?_
      refine lv_goto (tgt := 15) hx hb dX3_isMinute_11 (by decide) ?_
      exact retRz hx hb hr hlk dX3_isMinute_15 (by grind [b2])
set_option maxHeartbeats 4000000 in
set_option maxRecDepth 100000 in
theorem c_X3_isMuch (l : Launch) (D : va_G) (cI cB cS : ClassId) {ws : va_W} (p0 : Int32) : Met l yX3_isMuch (Wm yX3_isMuch cX3_isMuch 1 (some .boolean)) ({ frames := 0, cells := 0, slots := 0, locals := 0 }) (va_Pc [.int p0] (PR D (TYS cI cB cS) ws)) (QcV (some (.int (b2 (okMuch p0))))) 0 0 (fun _ => False) := by
  refine metR (by decide) [.int p0] (Nat.le_of_ble_eq_true rfl) ?_
  intro p e s m args below meth c hx hb hml hr hlk hown hts hKK hP ls hl
  obtain ⟨hK, hN⟩ := id hKK
  have hl : lv_has ls 1 [(0, .int p0)] := hl
  refine lv_iload_n hx hb dX3_isMuch_0 rfl (lv_at hl 0 rfl) ?_
  refine lv_if_lt (tgt := 14) hx hb dX3_isMuch_1 (by decide) (fun c_1 => ?_) (fun c_1 => ?_)
  · refine lv_iconst (v := (0 : Int32)) hx hb dX3_isMuch_14 (by decide) ?_
    exact retRz hx hb hr hlk dX3_isMuch_15 (by grind [b2])
  · refine lv_iload_n hx hb dX3_isMuch_4 rfl (lv_at hl 0 rfl) ?_
    refine lv_bipush (v := (99 : Int32)) hx hb dX3_isMuch_5 (by decide) ?_
    refine lv_icmp_gt (tgt := 14) hx hb dX3_isMuch_7 (by decide) (fun c_2 => ?_) (fun c_2 => ?_)
    · refine lv_iconst (v := (0 : Int32)) hx hb dX3_isMuch_14 (by decide) ?_
      exact retRz hx hb hr hlk dX3_isMuch_15 (by grind [b2])
    · refine lv_iconst (v := (1 : Int32)) hx hb dX3_isMuch_10 (by decide) ?_
      refine lv_goto (tgt := 15) hx hb dX3_isMuch_11 (by decide) ?_
      exact retRz hx hb hr hlk dX3_isMuch_15 (by grind [b2])
set_option maxHeartbeats 4000000 in
set_option maxRecDepth 100000 in
theorem c_X3_hasLeaf (l : Launch) (D : va_G) (cI cB cS : ClassId) {B : Nat → Nat} {I : Nat → Int32} {F : Nat → Nat → Int32} {n : Nat} (hn : n ≤ 6) (h3 : I 3 = nI n) : Met l yX3_hasLeaf (Wm yX3_hasLeaf cX3_hasLeaf 1 (some .boolean)) ({ frames := 0, cells := 0, slots := 0, locals := 0 }) (va_Pc [.ref (B 0)] (PR D (TYS cI cB cS) (wsB B cI cS I F))) (QcV (some (.int (b2 (0 < n))))) 0 0 (fun _ => False) := by
  refine metR (by decide) [.ref (B 0)] (Nat.le_of_ble_eq_true rfl) ?_
  intro p e s m args below meth c hx hb hml hr hlk hown hts hKK hP ls hl
  obtain ⟨hK, hN⟩ := id hKK
  have hl : lv_has ls 1 [(0, .ref (B 0))] := hl
  refine lv_aload_n hx hb dX3_hasLeaf_0 rfl (lv_at hl 0 rfl) ?_
  refine va_get (D := D) (ci := 3) (v := .ref (B 3)) (C := RX3) (T := TX3) (N := 8) hx hb hts inlX3 hown hK hP 0 rfl rfl 2 (by decide) (hts _ kw_21) (fun _ h9 => h9) rfl dX3_hasLeaf_1 ?_
  refine va_getN (D := D) (ci := 1) (v := .int (I 3)) (C := RX1) (T := TX1) (N := 8) hx hb hts inlX1 hown hK hP 3 rfl rfl 0 (by decide) (nfF_1 hN) (fun _ h9 => h9) rfl dX3_hasLeaf_4 ?_
  refine topE (z := (nI n)) h3 ?_
  refine lv_if_le (tgt := 14) hx hb dX3_hasLeaf_7 (by decide) (fun c_1 => ?_) (fun c_1 => ?_)
  · have nc_1 : n ≤ 0 := (nI_leI (a := n) (b := 0) (by omega) (by omega)).mp c_1
    refine lv_iconst (v := (0 : Int32)) hx hb dX3_hasLeaf_14 (by decide) ?_
    exact retRz hx hb hr hlk dX3_hasLeaf_15 (by grind [b2])
  · have nc_1 : ¬ n ≤ 0 := fun h => c_1 ((nI_leI (a := n) (b := 0) (by omega) (by omega)).mpr h)
    refine lv_iconst (v := (1 : Int32)) hx hb dX3_hasLeaf_10 (by decide) ?_
    refine lv_goto (tgt := 15) hx hb dX3_hasLeaf_11 (by decide) ?_
    exact retRz hx hb hr hlk dX3_hasLeaf_15 (by grind [b2])
set_option maxHeartbeats 4000000 in
set_option maxRecDepth 100000 in
theorem c_X3_isStroke (l : Launch) (D : va_G) (cI cB cS : ClassId) {B : Nat → Nat} {I : Nat → Int32} {F : Nat → Nat → Int32} {n : Nat} (hn : n ≤ 6) (h3 : I 3 = nI n) (p0 : Int32) : Met l yX3_isStroke (Wm yX3_isStroke cX3_isStroke 2 (some .boolean)) ({ frames := 0, cells := 0, slots := 0, locals := 0 }) (va_Pc [.ref (B 0), .int p0] (PR D (TYS cI cB cS) (wsB B cI cS I F))) (QcV (some (.int (b2 (okS n p0))))) 0 0 (fun _ => False) := by
  refine metR (by decide) [.ref (B 0), .int p0] (Nat.le_of_ble_eq_true rfl) ?_
  intro p e s m args below meth c hx hb hml hr hlk hown hts hKK hP ls hl
  obtain ⟨hK, hN⟩ := id hKK
  have hl : lv_has ls 2 [(0, .ref (B 0)), (1, .int p0)] := hl
  refine lv_iload_n hx hb dX3_isStroke_0 rfl (lv_at hl 1 rfl) ?_
  refine lv_if_lt (tgt := 28) hx hb dX3_isStroke_1 (by decide) (fun c_1 => ?_) (fun c_1 => ?_)
  · refine lv_iconst (v := (0 : Int32)) hx hb dX3_isStroke_28 (by decide) ?_
    exact retRz hx hb hr hlk dX3_isStroke_29 (by grind [b2])
  · refine lv_iload_n hx hb dX3_isStroke_4 rfl (lv_at hl 1 rfl) ?_
    refine lv_aload_n hx hb dX3_isStroke_5 rfl (lv_at hl 0 rfl) ?_
    refine va_get (D := D) (ci := 3) (v := .ref (B 3)) (C := RX3) (T := TX3) (N := 8) hx hb hts inlX3 hown hK hP 0 rfl rfl 2 (by decide) (hts _ kw_21) (fun _ h9 => h9) rfl dX3_isStroke_6 ?_
    refine va_getN (D := D) (ci := 1) (v := .int (I 3)) (C := RX1) (T := TX1) (N := 8) hx hb hts inlX1 hown hK hP 3 rfl rfl 0 (by decide) (nfF_1 hN) (fun _ h9 => h9) rfl dX3_isStroke_9 ?_
    refine topE (z := (nI n)) h3 ?_
    refine lv_icmp_ge (tgt := 28) hx hb dX3_isStroke_12 (by decide) (fun c_2 => ?_) (fun c_2 => ?_)
    · refine lv_iconst (v := (0 : Int32)) hx hb dX3_isStroke_28 (by decide) ?_
      exact retRz hx hb hr hlk dX3_isStroke_29 (by grind [b2])
    · refine lv_iload_n hx hb dX3_isStroke_15 rfl (lv_at hl 1 rfl) ?_
      refine lv_aload_n hx hb dX3_isStroke_16 rfl (lv_at hl 0 rfl) ?_
      refine va_get (D := D) (ci := 3) (v := .ref (B 2)) (C := RX3) (T := TX3) (N := 8) hx hb hts inlX3 hown hK hP 0 rfl rfl 1 (by decide) (hts _ kw_17) (fun _ h9 => h9) rfl dX3_isStroke_17 ?_
      refine va_alen (D := D) hx hb hK hP 2 2 rfl rfl (v := (6 : Int32)) rfl dX3_isStroke_20 ?_
      refine lv_icmp_ge (tgt := 28) hx hb dX3_isStroke_21 (by decide) (fun c_3 => ?_) (fun c_3 => ?_)
      · exact absurd c_3 (okS_6 hn (by assumption))
      · refine lv_iconst (v := (1 : Int32)) hx hb dX3_isStroke_24 (by decide) ?_
        refine lv_goto (tgt := 29) hx hb dX3_isStroke_25 (by decide) ?_
        exact retRz hx hb hr hlk dX3_isStroke_29 (by grind [b2])
set_option maxHeartbeats 4000000 in
set_option maxRecDepth 100000 in
theorem c_X3_isLand (l : Launch) (D : va_G) (cI cB cS : ClassId) {B : Nat → Nat} {I : Nat → Int32} {F : Nat → Nat → Int32} {n : Nat} (hn : n ≤ 6) (h3 : I 3 = nI n) (p0 : Int32) : Met l yX3_isLand (Wm yX3_isLand cX3_isLand 2 (some .boolean)) ({ frames := 1, cells := 0, slots := 0, locals := 20 }) (va_Pc [.ref (B 0), .int p0] (PR D (TYS cI cB cS) (wsB B cI cS I F))) (QcV (some (.int (b2 (0 < n ∧ okCell p0))))) 0 0 (fun _ => False) := by
  refine metR (by decide) [.ref (B 0), .int p0] (Nat.le_of_ble_eq_true rfl) ?_
  intro p e s m args below meth c hx hb hml hr hlk hown hts hKK hP ls hl
  obtain ⟨hK, hN⟩ := id hKK
  have hl : lv_has ls 2 [(0, .ref (B 0)), (1, .int p0)] := hl
  refine lv_aload_n hx hb dX3_isLand_0 rfl (lv_at hl 0 rfl) ?_
  refine rcVi (As := []) (rest := []) hx hb hml hown hts hKK hP (c_X3_hasLeaf l D cI cB cS hn h3 ) (cwV2 0 hts kw_353 kw_3 kw_350 kw_351 kw_352 rfl rfl (by decide +kernel) ⟨Nat.le_of_ble_eq_true rfl, Nat.le_of_ble_eq_true rfl⟩) 0 rfl rfl rfl rfl hl.1 rfl (Nat.le_of_ble_eq_true rfl) ⟨Nat.zero_le _, Nat.zero_le _⟩ dX3_isLand_1 ?_
  refine lv_if_eq (tgt := 18) hx hb dX3_isLand_4 (by decide) (fun c_1 => ?_) (fun c_1 => ?_)
  · have c_1 := b2_z c_1
    refine lv_iconst (v := (0 : Int32)) hx hb dX3_isLand_18 (by decide) ?_
    exact retRz hx hb hr hlk dX3_isLand_19 (by grind [b2])
  · have c_1 := b2_nz c_1
    refine lv_iload_n hx hb dX3_isLand_7 rfl (lv_at hl 1 rfl) ?_
    refine rcSi (As := [.int p0]) (rest := []) hx hb hml hown hts hKK hP (c_X3_isCell l D cI cB cS p0) (cwS2 1 hts kw_349 kw_3 kw_347 kw_348 rfl rfl (by decide +kernel) ⟨Nat.le_of_ble_eq_true rfl, Nat.le_of_ble_eq_true rfl⟩) rfl hl.1 rfl (Nat.le_of_ble_eq_true rfl) ⟨Nat.zero_le _, Nat.zero_le _⟩ dX3_isLand_8 ?_
    refine lv_if_eq (tgt := 18) hx hb dX3_isLand_11 (by decide) (fun c_2 => ?_) (fun c_2 => ?_)
    · have c_2 := b2_z c_2
      refine lv_iconst (v := (0 : Int32)) hx hb dX3_isLand_18 (by decide) ?_
      exact retRz hx hb hr hlk dX3_isLand_19 (by grind [b2])
    · have c_2 := b2_nz c_2
      refine lv_iconst (v := (1 : Int32)) hx hb dX3_isLand_14 (by decide) ?_
      refine lv_goto (tgt := 19) hx hb dX3_isLand_15 (by decide) ?_
      exact retRz hx hb hr hlk dX3_isLand_19 (by grind [b2])
set_option maxHeartbeats 4000000 in
set_option maxRecDepth 100000 in
theorem c_X3_comesIf (l : Launch) (D : va_G) (cI cB cS : ClassId) {B : Nat → Nat} {I : Nat → Int32} {F : Nat → Nat → Int32} {n : Nat} (hn : n ≤ 6) (h3 : I 3 = nI n) (p0 p1 p2 p3 : Int32) : Met l yX3_comesIf (Wm yX3_comesIf cX3_comesIf 10 (some .int)) ({ frames := 2, cells := 0, slots := 0, locals := 45 }) (va_Pc [.ref (B 0), .int p0, .int p1, .int p2, .int p3] (PR D (TYS cI cB cS) (wsB B cI cS I F))) (QcV (some (.int (cComes F (I 4) n p0 p1 p2 p3)))) 0 0 (fun _ => False) := by
  refine metR (by decide) [.ref (B 0), .int p0, .int p1, .int p2, .int p3] (Nat.le_of_ble_eq_true rfl) ?_
  intro p e s m args below meth c hx hb hml hr hlk hown hts hKK hP ls hl
  obtain ⟨hK, hN⟩ := id hKK
  have hl : lv_has ls 10 [(0, .ref (B 0)), (1, .int p0), (2, .int p1), (3, .int p2), (4, .int p3)] := hl
  refine lv_bipush (v := (9 : Int32)) hx hb dX3_comesIf_0 (by decide) ?_
  refine lv_iload_n hx hb dX3_comesIf_2 rfl (lv_at hl 1 rfl) ?_
  refine lv_isub hx hb dX3_comesIf_3 ?_
  refine lv_istore (lv' := [(5, .int ((9 : Int32) - p0)), (0, .ref (B 0)), (1, .int p0), (2, .int p1), (3, .int p2), (4, .int p3)]) hx hb dX3_comesIf_4 hl (by decide) rfl (fun ls hl => ?_)
  refine lv_iconst (v := (0 : Int32)) hx hb dX3_comesIf_6 (by decide) ?_
  refine lv_istore (lv' := [(6, .int (0 : Int32)), (5, .int ((9 : Int32) - p0)), (0, .ref (B 0)), (1, .int p0), (2, .int p1), (3, .int p2), (4, .int p3)]) hx hb dX3_comesIf_7 hl (by decide) rfl (fun ls hl => ?_)
  refine lv_iconst (v := (0 : Int32)) hx hb dX3_comesIf_9 (by decide) ?_
  refine lv_istore (lv' := [(7, .int (0 : Int32)), (6, .int (0 : Int32)), (5, .int ((9 : Int32) - p0)), (0, .ref (B 0)), (1, .int p0), (2, .int p1), (3, .int p2), (4, .int p3)]) hx hb dX3_comesIf_10 hl (by decide) rfl (fun ls hl => ?_)
  have loop_12 : ∀ (z : Nat) (k : Nat) (x6 : Int32) (x7 : Int32), x6 = sumN (cTerm F (I 4) p0 p1 p2 p3) k → x7 = nI k → (k ≤ n) → n - k < z → ∀ (ls : Array Slot), lv_has ls 10 [(0, .ref (B 0)), (1, .int p0), (2, .int p1), (3, .int p2), (4, .int p3), (5, .int ((9 : Int32) - p0)), (6, .int x6), (7, .int x7)] → W p l e ({ frames := 2, cells := 0, slots := 0, locals := 45 } : Room) s m args below meth c s.heap [] 0 0 (MQ below (QcV (some (.int (cComes F (I 4) n p0 p1 p2 p3)))) args s 0 0 (fun _ => False)) (F0 m 12 ls []) := by
    intro z
    induction z with
    | zero =>
      intro k x6 x7 ex6 ex7 hk hz
      exact absurd hz (Nat.not_lt_zero _)
    | succ z ih_12 =>
      intro k x6 x7 ex6 ex7 hk hz ls hl
      subst ex6
      subst ex7
      refine lv_iload hx hb dX3_comesIf_12 (lv_at hl 7 rfl) ?_
      refine lv_aload_n hx hb dX3_comesIf_14 rfl (lv_at hl 0 rfl) ?_
      refine va_get (D := D) (ci := 3) (v := .ref (B 3)) (C := RX3) (T := TX3) (N := 8) hx hb hts inlX3 hown hK hP 0 rfl rfl 2 (by decide) (hts _ kw_21) (fun _ h9 => h9) rfl dX3_comesIf_15 ?_
      refine va_getN (D := D) (ci := 1) (v := .int (I 3)) (C := RX1) (T := TX1) (N := 8) hx hb hts inlX1 hown hK hP 3 rfl rfl 0 (by decide) (nfF_1 hN) (fun _ h9 => h9) rfl dX3_comesIf_18 ?_
      refine topE (z := (nI n)) h3 ?_
      refine lv_icmp_ge (tgt := 99) hx hb dX3_comesIf_21 (by decide) (fun c_1 => ?_) (fun c_1 => ?_)
      · have nc_1 : n ≤ k := (nI_leI (a := n) (b := k) (by omega) (by omega)).mp c_1
        refine lv_iload hx hb dX3_comesIf_99 (lv_at hl 6 rfl) ?_
        exact retRi hx hb hr hlk dX3_comesIf_101 (by have hkn : k = n := (by omega); subst hkn; rfl)
      · have nc_1 : ¬ n ≤ k := fun h => c_1 ((nI_leI (a := n) (b := k) (by omega) (by omega)).mpr h)
        refine lv_iload hx hb dX3_comesIf_24 (lv_at hl 7 rfl) ?_
        refine lv_aload_n hx hb dX3_comesIf_26 rfl (lv_at hl 0 rfl) ?_
        refine va_get (D := D) (ci := 3) (v := .ref (B 2)) (C := RX3) (T := TX3) (N := 8) hx hb hts inlX3 hown hK hP 0 rfl rfl 1 (by decide) (hts _ kw_17) (fun _ h9 => h9) rfl dX3_comesIf_27 ?_
        refine va_alen (D := D) hx hb hK hP 2 2 rfl rfl (v := (6 : Int32)) rfl dX3_comesIf_30 ?_
        refine lv_icmp_ge (tgt := 99) hx hb dX3_comesIf_31 (by decide) (fun c_2 => ?_) (fun c_2 => ?_)
        · have nc_2 : 6 ≤ k := (nI_leI (a := 6) (b := k) (by omega) (by omega)).mp c_2
          exfalso; omega
        · have nc_2 : ¬ 6 ≤ k := fun h => c_2 ((nI_leI (a := 6) (b := k) (by omega) (by omega)).mpr h)
          refine lv_aload_n hx hb dX3_comesIf_34 rfl (lv_at hl 0 rfl) ?_
          refine va_get (D := D) (ci := 3) (v := .ref (B 3)) (C := RX3) (T := TX3) (N := 8) hx hb hts inlX3 hown hK hP 0 rfl rfl 2 (by decide) (hts _ kw_21) (fun _ h9 => h9) rfl dX3_comesIf_35 ?_
          refine lv_iload hx hb dX3_comesIf_38 (lv_at hl 7 rfl) ?_
          refine rcVi (As := [.int (nI k)]) (rest := []) hx hb hml hown hts hKK hP (c_X1_isSanded l D cI cB cS (q := 3) rfl (nI k)) (cwV2 1 hts kw_270 kw_20 kw_267 kw_268 kw_269 rfl rfl (by decide +kernel) ⟨Nat.le_of_ble_eq_true rfl, Nat.le_of_ble_eq_true rfl⟩) 3 rfl rfl rfl rfl hl.1 rfl (Nat.le_of_ble_eq_true rfl) ⟨Nat.zero_le _, Nat.zero_le _⟩ dX3_comesIf_40 ?_
          refine lv_if_ne (tgt := 93) hx hb dX3_comesIf_43 (by decide) (fun c_3 => ?_) (fun c_3 => ?_)
          · have c_3 := b2_nz c_3
            refine lv_iinc (v := (nI (k + 1))) (lv' := [(7, .int (nI (k + 1))), (0, .ref (B 0)), (1, .int p0), (2, .int p1), (3, .int p2), (4, .int p3), (5, .int ((9 : Int32) - p0)), (6, .int (sumN (cTerm F (I 4) p0 p1 p2 p3) k))]) hx hb dX3_comesIf_93 hl (k := 7) rfl (nI_add k 1) (by decide) rfl (fun ls hl => ?_)
            refine lv_goto (tgt := 12) hx hb dX3_comesIf_96 (by decide) ?_
            exact ih_12 (k + 1) (sumN (cTerm F (I 4) p0 p1 p2 p3) k) (nI (k + 1)) (by grind [sumN, cTerm]) rfl (by omega) (by omega) ls (lv_sub hl [1, 2, 3, 4, 5, 6, 7, 0] rfl)
          · have c_3 := b2_z c_3
            refine lv_aload_n hx hb dX3_comesIf_46 rfl (lv_at hl 0 rfl) ?_
            refine va_get (D := D) (ci := 3) (v := .ref (B 2)) (C := RX3) (T := TX3) (N := 8) hx hb hts inlX3 hown hK hP 0 rfl rfl 1 (by decide) (hts _ kw_17) (fun _ h9 => h9) rfl dX3_comesIf_47 ?_
            refine lv_iload hx hb dX3_comesIf_50 (lv_at hl 7 rfl) ?_
            refine va_aldq (D := D) hx hb hK hP 2 2 rfl rfl (vp_in_nI (by omega) (by omega)) dX3_comesIf_52 ?_
            refine topV (z := .ref (B (16 + k))) (congrArg (fun j => Value.ref (B (16 + j))) (nI_clamp (n := k) (by omega))) ?_
            refine lv_astore (lv' := [(8, .ref (B (16 + k))), (0, .ref (B 0)), (1, .int p0), (2, .int p1), (3, .int p2), (4, .int p3), (5, .int ((9 : Int32) - p0)), (6, .int (sumN (cTerm F (I 4) p0 p1 p2 p3) k)), (7, .int (nI k))]) hx hb dX3_comesIf_53 hl (by decide) rfl (fun ls hl => ?_)
            refine lv_aload hx hb dX3_comesIf_55 (lv_at hl 0 rfl) ?_
            refine lv_iload_n hx hb dX3_comesIf_57 rfl (lv_at hl 3 rfl) ?_
            refine lv_iload hx hb dX3_comesIf_58 (lv_at hl 8 rfl) ?_
            refine lv_iload_n hx hb dX3_comesIf_60 rfl (lv_at hl 4 rfl) ?_
            refine lv_icmp_ne (tgt := 69) hx hb dX3_comesIf_61 (by decide) (fun c_4 => ?_) (fun c_4 => ?_)
            · refine lv_aload hx hb dX3_comesIf_69 (lv_at hl 0 rfl) ?_
              refine va_getN (D := D) (ci := 2) (v := .int ((F 19) k)) (C := RX2) (T := TX2) (N := 5) hx hb hts inlX2 hown hK hP (16 + k) (wsB_st (by omega)) rfl 4 (by decide) (nfF_12 hN) (fun _ h9 => h9) rfl dX3_comesIf_71 ?_
              refine rcVi (As := [.int p1, .int ((F 19) k)]) (rest := []) hx hb hml hown hts hKK hP (c_X2_wetAt l D cI cB cS (wsB_st (by omega)) p1 ((F 19) k)) (cwV2 2 hts kw_286 kw_29 kw_283 kw_284 kw_285 rfl rfl (by decide +kernel) ⟨Nat.le_of_ble_eq_true rfl, Nat.le_of_ble_eq_true rfl⟩) (16 + k) (wsB_st (by omega)) rfl rfl rfl hl.1 rfl (Nat.le_of_ble_eq_true rfl) ⟨Nat.zero_le _, Nat.zero_le _⟩ dX3_comesIf_74 ?_
              refine lv_istore (lv' := [(9, .int (cWet (nI k) ((F 16) k) p1 ((F 19) k))), (8, .ref (B (16 + k))), (0, .ref (B 0)), (1, .int p0), (2, .int p1), (3, .int p2), (4, .int p3), (5, .int ((9 : Int32) - p0)), (6, .int (sumN (cTerm F (I 4) p0 p1 p2 p3) k)), (7, .int (nI k))]) hx hb dX3_comesIf_77 hl (by decide) rfl (fun ls hl => ?_)
              refine lv_iload hx hb dX3_comesIf_79 (lv_at hl 8 rfl) ?_
              refine lv_aload hx hb dX3_comesIf_81 (lv_at hl 1 rfl) ?_
              refine lv_iload hx hb dX3_comesIf_83 (lv_at hl 7 rfl) ?_
              refine lv_iload hx hb dX3_comesIf_85 (lv_at hl 0 rfl) ?_
              refine rcVi (As := [.int ((9 : Int32) - p0), .int (cWet (nI k) ((F 16) k) p1 ((F 19) k))]) (rest := [.int (sumN (cTerm F (I 4) p0 p1 p2 p3) k)]) hx hb hml hown hts hKK hP (c_X2_givesTo l D cI cB cS (wsB_st (by omega)) ((9 : Int32) - p0) (cWet (nI k) ((F 16) k) p1 ((F 19) k))) (cwV2 2 hts kw_291 kw_29 kw_288 kw_289 kw_290 rfl rfl (by decide +kernel) ⟨Nat.le_of_ble_eq_true rfl, Nat.le_of_ble_eq_true rfl⟩) (16 + k) (wsB_st (by omega)) rfl rfl rfl hl.1 rfl (Nat.le_of_ble_eq_true rfl) ⟨Nat.zero_le _, Nat.zero_le _⟩ dX3_comesIf_87 ?_
              refine lv_iadd hx hb dX3_comesIf_90 ?_
              refine lv_istore (lv' := [(6, .int (sumN (cTerm F (I 4) p0 p1 p2 p3) k + (cGives ((F 17) k) ((F 18) k) ((F 16) k) ((9 : Int32) - p0) (cWet (nI k) ((F 16) k) p1 ((F 19) k))))), (9, .int (cWet (nI k) ((F 16) k) p1 ((F 19) k))), (8, .ref (B (16 + k))), (0, .ref (B 0)), (1, .int p0), (2, .int p1), (3, .int p2), (4, .int p3), (5, .int ((9 : Int32) - p0)), (7, .int (nI k))]) hx hb dX3_comesIf_91 hl (by decide) rfl (fun ls hl => ?_)
              refine lv_iinc (v := (nI (k + 1))) (lv' := [(7, .int (nI (k + 1))), (6, .int (sumN (cTerm F (I 4) p0 p1 p2 p3) k + (cGives ((F 17) k) ((F 18) k) ((F 16) k) ((9 : Int32) - p0) (cWet (nI k) ((F 16) k) p1 ((F 19) k))))), (9, .int (cWet (nI k) ((F 16) k) p1 ((F 19) k))), (8, .ref (B (16 + k))), (0, .ref (B 0)), (1, .int p0), (2, .int p1), (3, .int p2), (4, .int p3), (5, .int ((9 : Int32) - p0))]) hx hb dX3_comesIf_93 hl (k := 9) rfl (nI_add k 1) (by decide) rfl (fun ls hl => ?_)
              refine lv_goto (tgt := 12) hx hb dX3_comesIf_96 (by decide) ?_
              exact ih_12 (k + 1) (sumN (cTerm F (I 4) p0 p1 p2 p3) k + (cGives ((F 17) k) ((F 18) k) ((F 16) k) ((9 : Int32) - p0) (cWet (nI k) ((F 16) k) p1 ((F 19) k)))) (nI (k + 1)) (by grind [sumN, cTerm]) rfl (by omega) (by omega) ls (lv_sub hl [4, 5, 6, 7, 8, 9, 1, 0] rfl)
            · refine lv_iload hx hb dX3_comesIf_64 (lv_at hl 5 rfl) ?_
              refine lv_goto (tgt := 74) hx hb dX3_comesIf_66 (by decide) ?_
              refine rcVi (As := [.int p1, .int p3]) (rest := []) hx hb hml hown hts hKK hP (c_X2_wetAt l D cI cB cS (wsB_st (by omega)) p1 p3) (cwV2 2 hts kw_286 kw_29 kw_283 kw_284 kw_285 rfl rfl (by decide +kernel) ⟨Nat.le_of_ble_eq_true rfl, Nat.le_of_ble_eq_true rfl⟩) (16 + k) (wsB_st (by omega)) rfl rfl rfl hl.1 rfl (Nat.le_of_ble_eq_true rfl) ⟨Nat.zero_le _, Nat.zero_le _⟩ dX3_comesIf_74 ?_
              refine lv_istore (lv' := [(9, .int (cWet (nI k) ((F 16) k) p1 p3)), (8, .ref (B (16 + k))), (0, .ref (B 0)), (1, .int p0), (2, .int p1), (3, .int p2), (4, .int p3), (5, .int ((9 : Int32) - p0)), (6, .int (sumN (cTerm F (I 4) p0 p1 p2 p3) k)), (7, .int (nI k))]) hx hb dX3_comesIf_77 hl (by decide) rfl (fun ls hl => ?_)
              refine lv_iload hx hb dX3_comesIf_79 (lv_at hl 8 rfl) ?_
              refine lv_aload hx hb dX3_comesIf_81 (lv_at hl 1 rfl) ?_
              refine lv_iload hx hb dX3_comesIf_83 (lv_at hl 7 rfl) ?_
              refine lv_iload hx hb dX3_comesIf_85 (lv_at hl 0 rfl) ?_
              refine rcVi (As := [.int ((9 : Int32) - p0), .int (cWet (nI k) ((F 16) k) p1 p3)]) (rest := [.int (sumN (cTerm F (I 4) p0 p1 p2 p3) k)]) hx hb hml hown hts hKK hP (c_X2_givesTo l D cI cB cS (wsB_st (by omega)) ((9 : Int32) - p0) (cWet (nI k) ((F 16) k) p1 p3)) (cwV2 2 hts kw_291 kw_29 kw_288 kw_289 kw_290 rfl rfl (by decide +kernel) ⟨Nat.le_of_ble_eq_true rfl, Nat.le_of_ble_eq_true rfl⟩) (16 + k) (wsB_st (by omega)) rfl rfl rfl hl.1 rfl (Nat.le_of_ble_eq_true rfl) ⟨Nat.zero_le _, Nat.zero_le _⟩ dX3_comesIf_87 ?_
              refine lv_iadd hx hb dX3_comesIf_90 ?_
              refine lv_istore (lv' := [(6, .int (sumN (cTerm F (I 4) p0 p1 p2 p3) k + (cGives ((F 17) k) ((F 18) k) ((F 16) k) ((9 : Int32) - p0) (cWet (nI k) ((F 16) k) p1 p3)))), (9, .int (cWet (nI k) ((F 16) k) p1 p3)), (8, .ref (B (16 + k))), (0, .ref (B 0)), (1, .int p0), (2, .int p1), (3, .int p2), (4, .int p3), (5, .int ((9 : Int32) - p0)), (7, .int (nI k))]) hx hb dX3_comesIf_91 hl (by decide) rfl (fun ls hl => ?_)
              refine lv_iinc (v := (nI (k + 1))) (lv' := [(7, .int (nI (k + 1))), (6, .int (sumN (cTerm F (I 4) p0 p1 p2 p3) k + (cGives ((F 17) k) ((F 18) k) ((F 16) k) ((9 : Int32) - p0) (cWet (nI k) ((F 16) k) p1 p3)))), (9, .int (cWet (nI k) ((F 16) k) p1 p3)), (8, .ref (B (16 + k))), (0, .ref (B 0)), (1, .int p0), (2, .int p1), (3, .int p2), (4, .int p3), (5, .int ((9 : Int32) - p0))]) hx hb dX3_comesIf_93 hl (k := 9) rfl (nI_add k 1) (by decide) rfl (fun ls hl => ?_)
              refine lv_goto (tgt := 12) hx hb dX3_comesIf_96 (by decide) ?_
              exact ih_12 (k + 1) (sumN (cTerm F (I 4) p0 p1 p2 p3) k + (cGives ((F 17) k) ((F 18) k) ((F 16) k) ((9 : Int32) - p0) (cWet (nI k) ((F 16) k) p1 p3))) (nI (k + 1)) (by grind [sumN, cTerm]) rfl (by omega) (by omega) ls (lv_sub hl [4, 5, 6, 7, 8, 9, 1, 0] rfl)
  exact loop_12 ((n - 0) + 1) 0 (0 : Int32) (0 : Int32) rfl rfl (by omega) (by omega) ls (lv_sub hl [3, 4, 5, 6, 7, 2, 1, 0] rfl)
set_option maxHeartbeats 4000000 in
set_option maxRecDepth 100000 in
theorem c_X3_comesNow (l : Launch) (D : va_G) (cI cB cS : ClassId) {B : Nat → Nat} {I : Nat → Int32} {F : Nat → Nat → Int32} {n : Nat} (hn : n ≤ 6) (h3 : I 3 = nI n) (p0 p1 : Int32) : Met l yX3_comesNow (Wm yX3_comesNow cX3_comesNow 3 (some .int)) ({ frames := 3, cells := 0, slots := 0, locals := 74 }) (va_Pc [.ref (B 0), .int p0, .int p1] (PR D (TYS cI cB cS) (wsB B cI cS I F))) (QcV (some (.int (cNow F (I 4) n p0 p1)))) 0 0 (fun _ => False) := by
  refine metR (by decide) [.ref (B 0), .int p0, .int p1] (Nat.le_of_ble_eq_true rfl) ?_
  intro p e s m args below meth c hx hb hml hr hlk hown hts hKK hP ls hl
  obtain ⟨hK, hN⟩ := id hKK
  have hl : lv_has ls 3 [(0, .ref (B 0)), (1, .int p0), (2, .int p1)] := hl
  refine lv_aload_n hx hb dX3_comesNow_0 rfl (lv_at hl 0 rfl) ?_
  refine lv_iload_n hx hb dX3_comesNow_1 rfl (lv_at hl 1 rfl) ?_
  refine lv_iload_n hx hb dX3_comesNow_2 rfl (lv_at hl 2 rfl) ?_
  refine lv_iconst (v := (-1 : Int32)) hx hb dX3_comesNow_3 (by decide) ?_
  refine lv_iconst (v := (0 : Int32)) hx hb dX3_comesNow_4 (by decide) ?_
  refine rcVi (As := [.int p0, .int p1, .int (-1 : Int32), .int (0 : Int32)]) (rest := []) hx hb hml hown hts hKK hP (c_X3_comesIf l D cI cB cS hn h3 p0 p1 (-1 : Int32) (0 : Int32)) (cwV2 4 hts kw_282 kw_3 kw_279 kw_280 kw_281 rfl rfl (by decide +kernel) ⟨Nat.le_of_ble_eq_true rfl, Nat.le_of_ble_eq_true rfl⟩) 0 rfl rfl rfl rfl hl.1 rfl (Nat.le_of_ble_eq_true rfl) ⟨Nat.zero_le _, Nat.zero_le _⟩ dX3_comesNow_5 ?_
  refine topE (z := (cComes F (I 4) n p0 p1 (-1 : Int32) (0 : Int32))) rfl ?_
  exact retRi hx hb hr hlk dX3_comesNow_8 rfl
set_option maxHeartbeats 4000000 in
set_option maxRecDepth 100000 in
theorem c_X3_pressOff_8 (l : Launch) (D : va_G) (cI cB cS : ClassId) {B : Nat → Nat} {I : Nat → Int32} {F : Nat → Nat → Int32} {n : Nat} (hn : n ≤ 6) (h3 : I 3 = nI n) (p0 : Int32) : Met l yX3_pressOff (Wm yX3_pressOff cX3_pressOff 6 (some .int)) ({ frames := 4, cells := 0, slots := 0, locals := 96 }) (va_Pc [.ref (B 0), .ref (B 8), .int p0] (PW D (TYS cI cB cS) (wsB B cI cS I F))) (QcW D (some (.int (sumN (fun c => cNow F (I 4) n (nI c) p0) 10))) (wsB B cI cS I F) (wsB B cI cS I (va_up F 8 (rowN (cPress F (I 4) n p0 (F 8)) (F 8) 10)))) 0 0 (FPw (wsB B cI cS I F)) := by
  refine metW (by decide) [.ref (B 0), .ref (B 8), .int p0] (Nat.le_of_ble_eq_true rfl) ?_
  intro p e s m args below meth c hx hb hml hr hlk hown hts hKK hP hD hS ls hl
  obtain ⟨hK, hN⟩ := id hKK
  have hl : lv_has ls 6 [(0, .ref (B 0)), (1, .ref (B 8)), (2, .int p0)] := hl
  refine lv_iconst (v := (0 : Int32)) hx hb dX3_pressOff_0 (by decide) ?_
  refine lv_istore_n (lv' := [(3, .int (0 : Int32)), (0, .ref (B 0)), (1, .ref (B 8)), (2, .int p0)]) hx hb dX3_pressOff_1 rfl hl (by decide) rfl (fun ls hl => ?_)
  refine lv_iconst (v := (0 : Int32)) hx hb dX3_pressOff_2 (by decide) ?_
  refine lv_istore (lv' := [(4, .int (0 : Int32)), (3, .int (0 : Int32)), (0, .ref (B 0)), (1, .ref (B 8)), (2, .int p0)]) hx hb dX3_pressOff_3 hl (by decide) rfl (fun ls hl => ?_)
  have loop_5 : ∀ (z : Nat) (k : Nat) (x3 : Int32) (x4 : Int32), x3 = sumN (fun c => cNow F (I 4) n (nI c) p0) k → x4 = nI k → (k ≤ 10) → 10 - k < z → ∀ (H : Heap) (locs : List Loc), va_P D vwCl (wsB B cI cS I (va_up F 8 (rowN (cPress F (I 4) n p0 (F 8)) (F 8) k))) H → va_S (FPw (wsB B cI cS I F)) s.heap H locs → ∀ (ls : Array Slot), lv_has ls 6 [(0, .ref (B 0)), (1, .ref (B 8)), (2, .int p0), (3, .int x3), (4, .int x4)] → W p l e ({ frames := 4, cells := 0, slots := 0, locals := 96 } : Room) s m args below meth c H locs 0 0 (MQ below (QcW D (some (.int (sumN (fun c => cNow F (I 4) n (nI c) p0) 10))) (wsB B cI cS I F) (wsB B cI cS I (va_up F 8 (rowN (cPress F (I 4) n p0 (F 8)) (F 8) 10)))) args s 0 0 (FPw (wsB B cI cS I F))) (F0 m 5 ls []) := by
    intro z
    induction z with
    | zero =>
      intro k x3 x4 ex3 ex4 hk hz
      exact absurd hz (Nat.not_lt_zero _)
    | succ z ih_5 =>
      intro k x3 x4 ex3 ex4 hk hz H locs hP hS ls hl
      subst ex3
      subst ex4
      have hD := va_D_addr (ws := (wsB B cI cS I F)) (ws' := (wsB B cI cS I (va_up F 8 (rowN (cPress F (I 4) n p0 (F 8)) (F 8) k)))) rfl hD
      refine lv_iload hx hb dX3_pressOff_5 (lv_at hl 4 rfl) ?_
      refine lv_aload_n hx hb dX3_pressOff_7 rfl (lv_at hl 1 rfl) ?_
      refine va_alen (D := D) hx hb hK hP 8 0 rfl rfl (v := (10 : Int32)) rfl dX3_pressOff_8 ?_
      refine lv_icmp_ge (tgt := 48) hx hb dX3_pressOff_9 (by decide) (fun c_1 => ?_) (fun c_1 => ?_)
      · have nc_1 : 10 ≤ k := (nI_leI (a := 10) (b := k) (by omega) (by omega)).mp c_1
        refine lv_iload_n hx hb dX3_pressOff_48 rfl (lv_at hl 3 rfl) ?_
        exact retWi hx hb hr hlk hP hS dX3_pressOff_49 (by have hkn : k = 10 := (by omega); subst hkn; rfl) (by have hkn : k = 10 := (by omega); subst hkn; rfl)
      · have nc_1 : ¬ 10 ≤ k := fun h => c_1 ((nI_leI (a := 10) (b := k) (by omega) (by omega)).mpr h)
        refine lv_aload_n hx hb dX3_pressOff_12 rfl (lv_at hl 0 rfl) ?_
        refine lv_iload hx hb dX3_pressOff_13 (lv_at hl 4 rfl) ?_
        refine lv_iload_n hx hb dX3_pressOff_15 rfl (lv_at hl 2 rfl) ?_
        refine rcVi (As := [.int (nI k), .int p0]) (rest := []) hx hb hml hown hts hKK hP (c_X3_comesNow l D cI cB cS hn h3 (nI k) p0) (cwV2 2 hts kw_407 kw_3 kw_404 kw_405 kw_406 rfl rfl (by decide +kernel) ⟨Nat.le_of_ble_eq_true rfl, Nat.le_of_ble_eq_true rfl⟩) 0 rfl rfl rfl rfl hl.1 rfl (Nat.le_of_ble_eq_true rfl) ⟨Nat.zero_le _, Nat.zero_le _⟩ dX3_pressOff_16 ?_
        refine topE (z := (cNow F (I 4) n (nI k) p0)) rfl ?_
        refine lv_istore (lv' := [(5, .int (cNow F (I 4) n (nI k) p0)), (0, .ref (B 0)), (1, .ref (B 8)), (2, .int p0), (3, .int (sumN (fun c => cNow F (I 4) n (nI c) p0) k)), (4, .int (nI k))]) hx hb dX3_pressOff_19 hl (by decide) rfl (fun ls hl => ?_)
        refine lv_iload_n hx hb dX3_pressOff_21 rfl (lv_at hl 4 rfl) ?_
        refine lv_iload hx hb dX3_pressOff_22 (lv_at hl 0 rfl) ?_
        refine lv_iadd hx hb dX3_pressOff_24 ?_
        refine lv_istore_n (lv' := [(3, .int (sumN (fun c => cNow F (I 4) n (nI c) p0) k + (cNow F (I 4) n (nI k) p0))), (5, .int (cNow F (I 4) n (nI k) p0)), (0, .ref (B 0)), (1, .ref (B 8)), (2, .int p0), (4, .int (nI k))]) hx hb dX3_pressOff_25 rfl hl (by decide) rfl (fun ls hl => ?_)
        refine lv_aload_n hx hb dX3_pressOff_26 rfl (lv_at hl 3 rfl) ?_
        refine lv_iload hx hb dX3_pressOff_27 (lv_at hl 5 rfl) ?_
        refine lv_bipush (v := (99 : Int32)) hx hb dX3_pressOff_29 (by decide) ?_
        refine lv_aload_n hx hb dX3_pressOff_31 rfl (lv_at hl 3 rfl) ?_
        refine lv_iload hx hb dX3_pressOff_32 (lv_at hl 5 rfl) ?_
        refine va_iald (D := D) hx hb hK hP 8 0 rfl rfl (vp_in_nI (by omega) (by omega)) dX3_pressOff_34 ?_
        refine topE (z := ((rowN (cPress F (I 4) n p0 (F 8)) (F 8) k) k)) (congrArg _ (nI_clamp (n := k) (by omega))) ?_
        refine topE (z := (F 8 k)) rowN_at ?_
        refine lv_iload hx hb dX3_pressOff_35 (lv_at hl 1 rfl) ?_
        refine lv_iadd hx hb dX3_pressOff_37 ?_
        refine va_mmin hx hb (hml.trans hl.1.symm) hown (hts _ kw_420) (hts _ kw_156) (hts _ kw_153) (hts _ kw_157) (Nat.le_of_ble_eq_true rfl) (Nat.le_of_ble_eq_true rfl) (Nat.zero_le _) (Nat.zero_le _) dX3_pressOff_38 ?_
        refine va_iast (D := D) hx hb hK hP hD hS 8 0 rfl rfl (vp_in_nI (by omega) (by omega)) dX3_pressOff_41 (fun H locs hP hD hS => ?_)
        rw [nI_clamp (n := k) (by omega)] at hP hD
        have hP : va_P D vwCl (wsB B cI cS I (va_up F 8 (upd (rowN (cPress F (I 4) n p0 (F 8)) (F 8) k) k (if ((F 8 k) + (cNow F (I 4) n (nI k) p0)) < (99 : Int32) then ((F 8 k) + (cNow F (I 4) n (nI k) p0)) else (99 : Int32))))) H := hP
        have hD : va_D (FPw (wsB B cI cS I F)) (wsB B cI cS I (va_up F 8 (upd (rowN (cPress F (I 4) n p0 (F 8)) (F 8) k) k (if ((F 8 k) + (cNow F (I 4) n (nI k) p0)) < (99 : Int32) then ((F 8 k) + (cNow F (I 4) n (nI k) p0)) else (99 : Int32))))) := hD
        refine lv_iinc (v := (nI (k + 1))) (lv' := [(4, .int (nI (k + 1))), (3, .int (sumN (fun c => cNow F (I 4) n (nI c) p0) k + (cNow F (I 4) n (nI k) p0))), (5, .int (cNow F (I 4) n (nI k) p0)), (0, .ref (B 0)), (1, .ref (B 8)), (2, .int p0)]) hx hb dX3_pressOff_42 hl (k := 5) rfl (nI_add k 1) (by decide) rfl (fun ls hl => ?_)
        refine lv_goto (tgt := 5) hx hb dX3_pressOff_45 (by decide) ?_
        have hP9 : va_P D vwCl (wsB B cI cS I (va_up F 8 (rowN (cPress F (I 4) n p0 (F 8)) (F 8) (k + 1)))) H := by rw [← rowN_upd]; exact hP
        exact ih_5 (k + 1) (sumN (fun c => cNow F (I 4) n (nI c) p0) k + (cNow F (I 4) n (nI k) p0)) (nI (k + 1)) rfl rfl (by omega) (by omega) H locs hP9 hS ls (lv_sub hl [3, 4, 5, 1, 0] rfl)
  have hP9 : va_P D vwCl (wsB B cI cS I (va_up F 8 (rowN (cPress F (I 4) n p0 (F 8)) (F 8) 0))) s.heap := by rw [rowN_0]; exact hP
  exact loop_5 ((10 - 0) + 1) 0 (0 : Int32) (0 : Int32) rfl rfl (by omega) (by omega) s.heap [] hP9 hS ls (lv_sub hl [2, 3, 4, 1, 0] rfl)
set_option maxHeartbeats 4000000 in
set_option maxRecDepth 100000 in
theorem c_X3_pressOff_5 (l : Launch) (D : va_G) (cI cB cS : ClassId) {B : Nat → Nat} {I : Nat → Int32} {F : Nat → Nat → Int32} {n : Nat} (hn : n ≤ 6) (h3 : I 3 = nI n) (p0 : Int32) : Met l yX3_pressOff (Wm yX3_pressOff cX3_pressOff 6 (some .int)) ({ frames := 4, cells := 0, slots := 0, locals := 96 }) (va_Pc [.ref (B 0), .ref (B 5), .int p0] (PW D (TYS cI cB cS) (wsB B cI cS I F))) (QcW D (some (.int (sumN (fun c => cNow F (I 4) n (nI c) p0) 10))) (wsB B cI cS I F) (wsB B cI cS I (va_up F 5 (rowN (cPress F (I 4) n p0 (F 5)) (F 5) 10)))) 0 0 (FPw (wsB B cI cS I F)) := by
  refine metW (by decide) [.ref (B 0), .ref (B 5), .int p0] (Nat.le_of_ble_eq_true rfl) ?_
  intro p e s m args below meth c hx hb hml hr hlk hown hts hKK hP hD hS ls hl
  obtain ⟨hK, hN⟩ := id hKK
  have hl : lv_has ls 6 [(0, .ref (B 0)), (1, .ref (B 5)), (2, .int p0)] := hl
  refine lv_iconst (v := (0 : Int32)) hx hb dX3_pressOff_0 (by decide) ?_
  refine lv_istore_n (lv' := [(3, .int (0 : Int32)), (0, .ref (B 0)), (1, .ref (B 5)), (2, .int p0)]) hx hb dX3_pressOff_1 rfl hl (by decide) rfl (fun ls hl => ?_)
  refine lv_iconst (v := (0 : Int32)) hx hb dX3_pressOff_2 (by decide) ?_
  refine lv_istore (lv' := [(4, .int (0 : Int32)), (3, .int (0 : Int32)), (0, .ref (B 0)), (1, .ref (B 5)), (2, .int p0)]) hx hb dX3_pressOff_3 hl (by decide) rfl (fun ls hl => ?_)
  have loop_5 : ∀ (z : Nat) (k : Nat) (x3 : Int32) (x4 : Int32), x3 = sumN (fun c => cNow F (I 4) n (nI c) p0) k → x4 = nI k → (k ≤ 10) → 10 - k < z → ∀ (H : Heap) (locs : List Loc), va_P D vwCl (wsB B cI cS I (va_up F 5 (rowN (cPress F (I 4) n p0 (F 5)) (F 5) k))) H → va_S (FPw (wsB B cI cS I F)) s.heap H locs → ∀ (ls : Array Slot), lv_has ls 6 [(0, .ref (B 0)), (1, .ref (B 5)), (2, .int p0), (3, .int x3), (4, .int x4)] → W p l e ({ frames := 4, cells := 0, slots := 0, locals := 96 } : Room) s m args below meth c H locs 0 0 (MQ below (QcW D (some (.int (sumN (fun c => cNow F (I 4) n (nI c) p0) 10))) (wsB B cI cS I F) (wsB B cI cS I (va_up F 5 (rowN (cPress F (I 4) n p0 (F 5)) (F 5) 10)))) args s 0 0 (FPw (wsB B cI cS I F))) (F0 m 5 ls []) := by
    intro z
    induction z with
    | zero =>
      intro k x3 x4 ex3 ex4 hk hz
      exact absurd hz (Nat.not_lt_zero _)
    | succ z ih_5 =>
      intro k x3 x4 ex3 ex4 hk hz H locs hP hS ls hl
      subst ex3
      subst ex4
      have hD := va_D_addr (ws := (wsB B cI cS I F)) (ws' := (wsB B cI cS I (va_up F 5 (rowN (cPress F (I 4) n p0 (F 5)) (F 5) k)))) rfl hD
      refine lv_iload hx hb dX3_pressOff_5 (lv_at hl 4 rfl) ?_
      refine lv_aload_n hx hb dX3_pressOff_7 rfl (lv_at hl 1 rfl) ?_
      refine va_alen (D := D) hx hb hK hP 5 0 rfl rfl (v := (10 : Int32)) rfl dX3_pressOff_8 ?_
      refine lv_icmp_ge (tgt := 48) hx hb dX3_pressOff_9 (by decide) (fun c_1 => ?_) (fun c_1 => ?_)
      · have nc_1 : 10 ≤ k := (nI_leI (a := 10) (b := k) (by omega) (by omega)).mp c_1
        refine lv_iload_n hx hb dX3_pressOff_48 rfl (lv_at hl 3 rfl) ?_
        exact retWi hx hb hr hlk hP hS dX3_pressOff_49 (by have hkn : k = 10 := (by omega); subst hkn; rfl) (by have hkn : k = 10 := (by omega); subst hkn; rfl)
      · have nc_1 : ¬ 10 ≤ k := fun h => c_1 ((nI_leI (a := 10) (b := k) (by omega) (by omega)).mpr h)
        refine lv_aload_n hx hb dX3_pressOff_12 rfl (lv_at hl 0 rfl) ?_
        refine lv_iload hx hb dX3_pressOff_13 (lv_at hl 4 rfl) ?_
        refine lv_iload_n hx hb dX3_pressOff_15 rfl (lv_at hl 2 rfl) ?_
        refine rcVi (As := [.int (nI k), .int p0]) (rest := []) hx hb hml hown hts hKK hP (c_X3_comesNow l D cI cB cS hn h3 (nI k) p0) (cwV2 2 hts kw_407 kw_3 kw_404 kw_405 kw_406 rfl rfl (by decide +kernel) ⟨Nat.le_of_ble_eq_true rfl, Nat.le_of_ble_eq_true rfl⟩) 0 rfl rfl rfl rfl hl.1 rfl (Nat.le_of_ble_eq_true rfl) ⟨Nat.zero_le _, Nat.zero_le _⟩ dX3_pressOff_16 ?_
        refine topE (z := (cNow F (I 4) n (nI k) p0)) rfl ?_
        refine lv_istore (lv' := [(5, .int (cNow F (I 4) n (nI k) p0)), (0, .ref (B 0)), (1, .ref (B 5)), (2, .int p0), (3, .int (sumN (fun c => cNow F (I 4) n (nI c) p0) k)), (4, .int (nI k))]) hx hb dX3_pressOff_19 hl (by decide) rfl (fun ls hl => ?_)
        refine lv_iload_n hx hb dX3_pressOff_21 rfl (lv_at hl 4 rfl) ?_
        refine lv_iload hx hb dX3_pressOff_22 (lv_at hl 0 rfl) ?_
        refine lv_iadd hx hb dX3_pressOff_24 ?_
        refine lv_istore_n (lv' := [(3, .int (sumN (fun c => cNow F (I 4) n (nI c) p0) k + (cNow F (I 4) n (nI k) p0))), (5, .int (cNow F (I 4) n (nI k) p0)), (0, .ref (B 0)), (1, .ref (B 5)), (2, .int p0), (4, .int (nI k))]) hx hb dX3_pressOff_25 rfl hl (by decide) rfl (fun ls hl => ?_)
        refine lv_aload_n hx hb dX3_pressOff_26 rfl (lv_at hl 3 rfl) ?_
        refine lv_iload hx hb dX3_pressOff_27 (lv_at hl 5 rfl) ?_
        refine lv_bipush (v := (99 : Int32)) hx hb dX3_pressOff_29 (by decide) ?_
        refine lv_aload_n hx hb dX3_pressOff_31 rfl (lv_at hl 3 rfl) ?_
        refine lv_iload hx hb dX3_pressOff_32 (lv_at hl 5 rfl) ?_
        refine va_iald (D := D) hx hb hK hP 5 0 rfl rfl (vp_in_nI (by omega) (by omega)) dX3_pressOff_34 ?_
        refine topE (z := ((rowN (cPress F (I 4) n p0 (F 5)) (F 5) k) k)) (congrArg _ (nI_clamp (n := k) (by omega))) ?_
        refine topE (z := (F 5 k)) rowN_at ?_
        refine lv_iload hx hb dX3_pressOff_35 (lv_at hl 1 rfl) ?_
        refine lv_iadd hx hb dX3_pressOff_37 ?_
        refine va_mmin hx hb (hml.trans hl.1.symm) hown (hts _ kw_420) (hts _ kw_156) (hts _ kw_153) (hts _ kw_157) (Nat.le_of_ble_eq_true rfl) (Nat.le_of_ble_eq_true rfl) (Nat.zero_le _) (Nat.zero_le _) dX3_pressOff_38 ?_
        refine va_iast (D := D) hx hb hK hP hD hS 5 0 rfl rfl (vp_in_nI (by omega) (by omega)) dX3_pressOff_41 (fun H locs hP hD hS => ?_)
        rw [nI_clamp (n := k) (by omega)] at hP hD
        have hP : va_P D vwCl (wsB B cI cS I (va_up F 5 (upd (rowN (cPress F (I 4) n p0 (F 5)) (F 5) k) k (if ((F 5 k) + (cNow F (I 4) n (nI k) p0)) < (99 : Int32) then ((F 5 k) + (cNow F (I 4) n (nI k) p0)) else (99 : Int32))))) H := hP
        have hD : va_D (FPw (wsB B cI cS I F)) (wsB B cI cS I (va_up F 5 (upd (rowN (cPress F (I 4) n p0 (F 5)) (F 5) k) k (if ((F 5 k) + (cNow F (I 4) n (nI k) p0)) < (99 : Int32) then ((F 5 k) + (cNow F (I 4) n (nI k) p0)) else (99 : Int32))))) := hD
        refine lv_iinc (v := (nI (k + 1))) (lv' := [(4, .int (nI (k + 1))), (3, .int (sumN (fun c => cNow F (I 4) n (nI c) p0) k + (cNow F (I 4) n (nI k) p0))), (5, .int (cNow F (I 4) n (nI k) p0)), (0, .ref (B 0)), (1, .ref (B 5)), (2, .int p0)]) hx hb dX3_pressOff_42 hl (k := 5) rfl (nI_add k 1) (by decide) rfl (fun ls hl => ?_)
        refine lv_goto (tgt := 5) hx hb dX3_pressOff_45 (by decide) ?_
        have hP9 : va_P D vwCl (wsB B cI cS I (va_up F 5 (rowN (cPress F (I 4) n p0 (F 5)) (F 5) (k + 1)))) H := by rw [← rowN_upd]; exact hP
        exact ih_5 (k + 1) (sumN (fun c => cNow F (I 4) n (nI c) p0) k + (cNow F (I 4) n (nI k) p0)) (nI (k + 1)) rfl rfl (by omega) (by omega) H locs hP9 hS ls (lv_sub hl [3, 4, 5, 1, 0] rfl)
  have hP9 : va_P D vwCl (wsB B cI cS I (va_up F 5 (rowN (cPress F (I 4) n p0 (F 5)) (F 5) 0))) s.heap := by rw [rowN_0]; exact hP
  exact loop_5 ((10 - 0) + 1) 0 (0 : Int32) (0 : Int32) rfl rfl (by omega) (by omega) s.heap [] hP9 hS ls (lv_sub hl [2, 3, 4, 1, 0] rfl)
set_option maxHeartbeats 4000000 in
set_option maxRecDepth 100000 in
theorem c_X1_putSanded (l : Launch) (D : va_G) (cI cB cS : ClassId) {B : Nat → Nat} {I : Nat → Int32} {F : Nat → Nat → Int32} {n : Nat} (hn : n ≤ 6) (h3 : I 3 = nI n) (p0 p1 : Int32) : Met l yX1_putSanded (Wm yX1_putSanded cX1_putSanded 4 none) ({ frames := 0, cells := 0, slots := 0, locals := 0 }) (va_Pc [.ref (B 3), .int p0, .int p1] (PW D (TYS cI cB cS) (wsB B cI cS I F))) (QcW D none (wsB B cI cS I F) (wsB B cI cS (upd I 4 (cPut (I 4) p0 p1)) F)) 0 0 (FPw (wsB B cI cS I F)) := by
  refine metW (by decide) [.ref (B 3), .int p0, .int p1] (Nat.le_of_ble_eq_true rfl) ?_
  intro p e s m args below meth c hx hb hml hr hlk hown hts hKK hP hD hS ls hl
  obtain ⟨hK, hN⟩ := id hKK
  have hl : lv_has ls 4 [(0, .ref (B 3)), (1, .int p0), (2, .int p1)] := hl
  refine lv_iconst (v := (1 : Int32)) hx hb dX1_putSanded_0 (by decide) ?_
  refine lv_iload_n hx hb dX1_putSanded_1 rfl (lv_at hl 1 rfl) ?_
  refine lv_ishl hx hb dX1_putSanded_2 ?_
  refine lv_istore_n (lv' := [(3, .int ((1 : Int32) <<< (p0 &&& 31))), (0, .ref (B 3)), (1, .int p0), (2, .int p1)]) hx hb dX1_putSanded_3 rfl hl (by decide) rfl (fun ls hl => ?_)
  refine lv_aload_n hx hb dX1_putSanded_4 rfl (lv_at hl 1 rfl) ?_
  refine lv_iload_n hx hb dX1_putSanded_5 rfl (lv_at hl 3 rfl) ?_
  refine lv_if_eq (tgt := 18) hx hb dX1_putSanded_6 (by decide) (fun c_1 => ?_) (fun c_1 => ?_)
  · refine lv_aload_n hx hb dX1_putSanded_18 rfl (lv_at hl 1 rfl) ?_
    refine va_get (D := D) (ci := 1) (v := .int (I 4)) (C := RX1) (T := TX1) (N := 8) hx hb hts inlX1 hown hK hP 3 rfl rfl 1 (by decide) (hts _ kw_39) (fun _ h9 => h9) rfl dX1_putSanded_19 ?_
    refine lv_iload_n hx hb dX1_putSanded_22 rfl (lv_at hl 0 rfl) ?_
    refine lv_iconst (v := (-1 : Int32)) hx hb dX1_putSanded_23 (by decide) ?_
    refine lv_ixor hx hb dX1_putSanded_24 ?_
    refine lv_iand hx hb dX1_putSanded_25 ?_
    refine va_put (D := D) (ci := 1) (v := .int ((I 4) &&& (((1 : Int32) <<< (p0 &&& 31)) ^^^ (-1 : Int32)))) (ty := tyX1 1) (C := RX1) (T := TX1) (N := 8) hx hb hts inlX1 tyX1 tyX1_ok nmX1 hown hK hP hD hS 3 rfl rfl 1 (by decide) (hts _ kw_39) (fun _ h9 => h9) rfl (tyX1_ok 1 (by decide)) rfl rfl (Nat.le_of_ble_eq_true rfl) dX1_putSanded_26 (fun H locs hP hD hS => ?_)
    have hP : va_P D vwCl (wsB B cI cS (upd I 4 ((I 4) &&& (((1 : Int32) <<< (p0 &&& 31)) ^^^ (-1 : Int32)))) F) H := hP
    have hD : va_D (FPw (wsB B cI cS I F)) (wsB B cI cS (upd I 4 ((I 4) &&& (((1 : Int32) <<< (p0 &&& 31)) ^^^ (-1 : Int32)))) F) := hD
    exact retWv hx hb hr hlk hP hS dX1_putSanded_29 (by simp only [cPut, c_1, if_true, if_false])
  · refine lv_aload_n hx hb dX1_putSanded_9 rfl (lv_at hl 1 rfl) ?_
    refine va_get (D := D) (ci := 1) (v := .int (I 4)) (C := RX1) (T := TX1) (N := 8) hx hb hts inlX1 hown hK hP 3 rfl rfl 1 (by decide) (hts _ kw_39) (fun _ h9 => h9) rfl dX1_putSanded_10 ?_
    refine lv_iload_n hx hb dX1_putSanded_13 rfl (lv_at hl 0 rfl) ?_
    refine lv_ior hx hb dX1_putSanded_14 ?_
    refine lv_goto (tgt := 26) hx hb dX1_putSanded_15 (by decide) ?_
    refine va_put (D := D) (ci := 1) (v := .int ((I 4) ||| ((1 : Int32) <<< (p0 &&& 31)))) (ty := tyX1 1) (C := RX1) (T := TX1) (N := 8) hx hb hts inlX1 tyX1 tyX1_ok nmX1 hown hK hP hD hS 3 rfl rfl 1 (by decide) (hts _ kw_39) (fun _ h9 => h9) rfl (tyX1_ok 1 (by decide)) rfl rfl (Nat.le_of_ble_eq_true rfl) dX1_putSanded_26 (fun H locs hP hD hS => ?_)
    have hP : va_P D vwCl (wsB B cI cS (upd I 4 ((I 4) ||| ((1 : Int32) <<< (p0 &&& 31)))) F) H := hP
    have hD : va_D (FPw (wsB B cI cS I F)) (wsB B cI cS (upd I 4 ((I 4) ||| ((1 : Int32) <<< (p0 &&& 31)))) F) := hD
    exact retWv hx hb hr hlk hP hS dX1_putSanded_29 (by simp only [cPut, c_1, if_true, if_false])
set_option maxHeartbeats 4000000 in
set_option maxRecDepth 100000 in
theorem c_X1_addFound (l : Launch) (D : va_G) (cI cB cS : ClassId) {B : Nat → Nat} {I : Nat → Int32} {F : Nat → Nat → Int32} {n : Nat} (hn : n ≤ 6) (h3 : I 3 = nI n) {fd : Nat} (hfd : fd ≤ 6) (h6 : I 6 = nI fd) (p0 p1 p2 : Int32) : Met l yX1_addFound (Wm yX1_addFound cX1_addFound 4 (some .boolean)) ({ frames := 0, cells := 0, slots := 0, locals := 0 }) (va_Pc [.ref (B 3), .int p0, .int p1, .int p2] (PW D (TYS cI cB cS) (wsB B cI cS I F))) (QcW D (some (.int (b2 (fd < 6)))) (wsB B cI cS I F) (if fd < 6 then wsB B cI cS (upd I 6 (nI (fd + 1))) (va_up (va_up (va_up F 9 (upd (F 9) fd p0)) 10 (upd (F 10) fd p1)) 11 (upd (F 11) fd p2)) else wsB B cI cS I F)) 0 0 (FPw (wsB B cI cS I F)) := by
  refine metW (by decide) [.ref (B 3), .int p0, .int p1, .int p2] (Nat.le_of_ble_eq_true rfl) ?_
  intro p e s m args below meth c hx hb hml hr hlk hown hts hKK hP hD hS ls hl
  obtain ⟨hK, hN⟩ := id hKK
  have hl : lv_has ls 4 [(0, .ref (B 3)), (1, .int p0), (2, .int p1), (3, .int p2)] := hl
  refine lv_aload_n hx hb dX1_addFound_0 rfl (lv_at hl 0 rfl) ?_
  refine va_get (D := D) (ci := 1) (v := .int (I 6)) (C := RX1) (T := TX1) (N := 8) hx hb hts inlX1 hown hK hP 3 rfl rfl 3 (by decide) (hts _ kw_41) (fun _ h9 => h9) rfl dX1_addFound_1 ?_
  refine topE (z := (nI fd)) h6 ?_
  refine lv_if_lt (tgt := 16) hx hb dX1_addFound_4 (by decide) (fun c_1 => ?_) (fun c_1 => ?_)
  · have nc_1 : fd < 0 := (nI_ltI (a := fd) (b := 0) (by omega) (by omega)).mp c_1
    exfalso; omega
  · have nc_1 : ¬ fd < 0 := fun h => c_1 ((nI_ltI (a := fd) (b := 0) (by omega) (by omega)).mpr h)
    refine lv_aload_n hx hb dX1_addFound_7 rfl (lv_at hl 0 rfl) ?_
    refine va_get (D := D) (ci := 1) (v := .int (I 6)) (C := RX1) (T := TX1) (N := 8) hx hb hts inlX1 hown hK hP 3 rfl rfl 3 (by decide) (hts _ kw_41) (fun _ h9 => h9) rfl dX1_addFound_8 ?_
    refine topE (z := (nI fd)) h6 ?_
    refine lv_bipush (v := (6 : Int32)) hx hb dX1_addFound_11 (by decide) ?_
    refine lv_icmp_lt (tgt := 18) hx hb dX1_addFound_13 (by decide) (fun c_2 => ?_) (fun c_2 => ?_)
    · have nc_2 : fd < 6 := (nI_ltI (a := fd) (b := 6) (by omega) (by omega)).mp c_2
      refine lv_aload_n hx hb dX1_addFound_18 rfl (lv_at hl 0 rfl) ?_
      refine va_get (D := D) (ci := 1) (v := .ref (B 9)) (C := RX1) (T := TX1) (N := 8) hx hb hts inlX1 hown hK hP 3 rfl rfl 5 (by decide) (hts _ kw_43) (fun _ h9 => h9) rfl dX1_addFound_19 ?_
      refine lv_aload_n hx hb dX1_addFound_22 rfl (lv_at hl 0 rfl) ?_
      refine va_get (D := D) (ci := 1) (v := .int (I 6)) (C := RX1) (T := TX1) (N := 8) hx hb hts inlX1 hown hK hP 3 rfl rfl 3 (by decide) (hts _ kw_41) (fun _ h9 => h9) rfl dX1_addFound_23 ?_
      refine topE (z := (nI fd)) h6 ?_
      refine lv_iload_n hx hb dX1_addFound_26 rfl (lv_at hl 1 rfl) ?_
      refine va_iast (D := D) hx hb hK hP hD hS 9 0 rfl rfl (vp_in_nI (by omega) (by omega)) dX1_addFound_27 (fun H locs hP hD hS => ?_)
      rw [nI_clamp (n := fd) (by omega)] at hP hD
      have hP : va_P D vwCl (wsB B cI cS I (va_up F 9 (upd (F 9) fd p0))) H := hP
      have hD : va_D (FPw (wsB B cI cS I F)) (wsB B cI cS I (va_up F 9 (upd (F 9) fd p0))) := hD
      refine lv_aload_n hx hb dX1_addFound_28 rfl (lv_at hl 0 rfl) ?_
      refine va_get (D := D) (ci := 1) (v := .ref (B 10)) (C := RX1) (T := TX1) (N := 8) hx hb hts inlX1 hown hK hP 3 rfl rfl 6 (by decide) (hts _ kw_44) (fun _ h9 => h9) rfl dX1_addFound_29 ?_
      refine lv_aload_n hx hb dX1_addFound_32 rfl (lv_at hl 0 rfl) ?_
      refine va_get (D := D) (ci := 1) (v := .int (I 6)) (C := RX1) (T := TX1) (N := 8) hx hb hts inlX1 hown hK hP 3 rfl rfl 3 (by decide) (hts _ kw_41) (fun _ h9 => h9) rfl dX1_addFound_33 ?_
      refine topE (z := (nI fd)) h6 ?_
      refine lv_iload_n hx hb dX1_addFound_36 rfl (lv_at hl 2 rfl) ?_
      refine va_iast (D := D) hx hb hK hP hD hS 10 0 rfl rfl (vp_in_nI (by omega) (by omega)) dX1_addFound_37 (fun H locs hP hD hS => ?_)
      rw [nI_clamp (n := fd) (by omega)] at hP hD
      have hP : va_P D vwCl (wsB B cI cS I (va_up (va_up F 9 (upd (F 9) fd p0)) 10 (upd (F 10) fd p1))) H := hP
      have hD : va_D (FPw (wsB B cI cS I F)) (wsB B cI cS I (va_up (va_up F 9 (upd (F 9) fd p0)) 10 (upd (F 10) fd p1))) := hD
      refine lv_aload_n hx hb dX1_addFound_38 rfl (lv_at hl 0 rfl) ?_
      refine va_get (D := D) (ci := 1) (v := .ref (B 11)) (C := RX1) (T := TX1) (N := 8) hx hb hts inlX1 hown hK hP 3 rfl rfl 7 (by decide) (hts _ kw_45) (fun _ h9 => h9) rfl dX1_addFound_39 ?_
      refine lv_aload_n hx hb dX1_addFound_42 rfl (lv_at hl 0 rfl) ?_
      refine va_get (D := D) (ci := 1) (v := .int (I 6)) (C := RX1) (T := TX1) (N := 8) hx hb hts inlX1 hown hK hP 3 rfl rfl 3 (by decide) (hts _ kw_41) (fun _ h9 => h9) rfl dX1_addFound_43 ?_
      refine topE (z := (nI fd)) h6 ?_
      refine lv_iload_n hx hb dX1_addFound_46 rfl (lv_at hl 3 rfl) ?_
      refine va_iast (D := D) hx hb hK hP hD hS 11 0 rfl rfl (vp_in_nI (by omega) (by omega)) dX1_addFound_47 (fun H locs hP hD hS => ?_)
      rw [nI_clamp (n := fd) (by omega)] at hP hD
      have hP : va_P D vwCl (wsB B cI cS I (va_up (va_up (va_up F 9 (upd (F 9) fd p0)) 10 (upd (F 10) fd p1)) 11 (upd (F 11) fd p2))) H := hP
      have hD : va_D (FPw (wsB B cI cS I F)) (wsB B cI cS I (va_up (va_up (va_up F 9 (upd (F 9) fd p0)) 10 (upd (F 10) fd p1)) 11 (upd (F 11) fd p2))) := hD
      refine lv_aload_n hx hb dX1_addFound_48 rfl (lv_at hl 0 rfl) ?_
      refine lv_dup hx hb dX1_addFound_49 rfl ?_
      refine va_get (D := D) (ci := 1) (v := .int (I 6)) (C := RX1) (T := TX1) (N := 8) hx hb hts inlX1 hown hK hP 3 rfl rfl 3 (by decide) (hts _ kw_41) (fun _ h9 => h9) rfl dX1_addFound_50 ?_
      refine topE (z := (nI fd)) h6 ?_
      refine lv_iconst (v := (1 : Int32)) hx hb dX1_addFound_53 (by decide) ?_
      refine lv_iadd hx hb dX1_addFound_54 ?_
      refine topE (z := (nI (fd + 1))) (nI_add fd 1) ?_
      refine va_put (D := D) (ci := 1) (v := .int (nI (fd + 1))) (ty := tyX1 3) (C := RX1) (T := TX1) (N := 8) hx hb hts inlX1 tyX1 tyX1_ok nmX1 hown hK hP hD hS 3 rfl rfl 3 (by decide) (hts _ kw_41) (fun _ h9 => h9) rfl (tyX1_ok 3 (by decide)) rfl rfl (Nat.le_of_ble_eq_true rfl) dX1_addFound_55 (fun H locs hP hD hS => ?_)
      have hP : va_P D vwCl (wsB B cI cS (upd I 6 (nI (fd + 1))) (va_up (va_up (va_up F 9 (upd (F 9) fd p0)) 10 (upd (F 10) fd p1)) 11 (upd (F 11) fd p2))) H := hP
      have hD : va_D (FPw (wsB B cI cS I F)) (wsB B cI cS (upd I 6 (nI (fd + 1))) (va_up (va_up (va_up F 9 (upd (F 9) fd p0)) 10 (upd (F 10) fd p1)) 11 (upd (F 11) fd p2))) := hD
      refine lv_iconst (v := (1 : Int32)) hx hb dX1_addFound_58 (by decide) ?_
      exact retWz hx hb hr hlk hP hS dX1_addFound_59 (by grind [b2]) (by simp only [if_pos (show fd < 6 by omega)])
    · have nc_2 : ¬ fd < 6 := fun h => c_2 ((nI_ltI (a := fd) (b := 6) (by omega) (by omega)).mpr h)
      refine lv_iconst (v := (0 : Int32)) hx hb dX1_addFound_16 (by decide) ?_
      exact retWz hx hb hr hlk hP hS dX1_addFound_17 (by grind [b2]) (by simp only [if_neg (show ¬ fd < 6 by omega)])
end
section
/-! the class's other rows and readers -/
def rowF (g f : Nat → Int32) (a i : Nat) : Nat → Int32 := fun c => if a ≤ c ∧ c < i then g c else f c
theorem rowF_0 {g f : Nat → Int32} {a : Nat} : rowF g f a a = f := by
  funext c
  unfold rowF
  rw [if_neg (by omega)]
theorem rowF_upd {g f : Nat → Int32} {a i : Nat} (h : a ≤ i) : upd (rowF g f a i) i (g i) = rowF g f a (i + 1) := by
  funext c
  unfold upd rowF
  by_cases hc : c = i
  · subst hc; rw [if_pos rfl, if_pos (by omega)]
  · rw [if_neg hc]
    by_cases h2 : a ≤ c ∧ c < i
    · rw [if_pos h2, if_pos (by omega)]
    · rw [if_neg h2, if_neg (by omega)]
theorem rowF_in {g f : Nat → Int32} {a i c : Nat} (h : a ≤ c) (h2 : c < i) : rowF g f a i c = g c := by
  unfold rowF; rw [if_pos ⟨h, h2⟩]
def bitsN (P : Nat → Prop) [DecidablePred P] : Nat → Int32
  | 0 => 0
  | v + 1 => if P v then bitsN P v ||| (1 <<< ((nI (v + 1) - 1) &&& 31)) else bitsN P v
def maskN (P : Nat → Prop) [DecidablePred P] : Nat → Int32
  | 0 => 0
  | k + 1 => if P k then maskN P k ||| (1 <<< (nI k &&& 31)) else maskN P k
def dryN (f : Nat → Int32) : Nat → Int32
  | 0 => 0
  | k + 1 => if f k = 0 then dryN f k + 1 else dryN f k
abbrev cAllF (F : Nat → Nat → Int32) (sd : Int32) (n fd : Nat) (stroke press : Int32) : Prop := ∀ i, i < fd → cComes F sd n (F 9 i) (F 10 i) stroke press = F 11 i
def cHeavy (F : Nat → Nat → Int32) (sd : Int32) (n fd : Nat) (stroke : Int32) : Int32 := bitsN (fun v => cAllF F sd n fd stroke (nI (v + 1))) 9
def cLike (f : Nat → Int32) (comes presses : Int32) : Nat → Int32
  | 0 => 0
  | v + 1 => if (presses >>> ((nI (v + 1) - 1) &&& 31)) &&& 1 = 1 ∧ f (v + 1) = comes then cLike f comes presses v + 1 else cLike f comes presses v
theorem cLike_congr {f g : Nat → Int32} {x y : Int32} : ∀ k, (∀ c, 1 ≤ c → c ≤ k → f c = g c) → cLike f x y k = cLike g x y k
  | 0, _ => rfl
  | k + 1, h => by
    unfold cLike
    rw [cLike_congr k (fun c h1 h2 => h c h1 (by omega)), h (k + 1) (by omega) (by omega)]
def cWorst (f : Nat → Int32) (presses : Int32) : Nat → Int32
  | 0 => 0
  | v + 1 => if cWorst f presses v < cLike f (f (v + 1)) presses 9 then cLike f (f (v + 1)) presses 9 else cWorst f presses v
/-- what comes to a cell at a minute, by the press of a stroke -/
abbrev cByP (F : Nat → Nat → Int32) (sd : Int32) (n : Nat) (land minute stroke : Int32) : Nat → Int32 := fun c => cComes F sd n land minute stroke (nI c)
def cWetS (F : Nat → Nat → Int32) (sd : Int32) (n : Nat) (p0 p1 : Int32) : Int32 :=
  if okS n p0 then (if okMin p1 then (if bitOn sd p0 then 0 else cWet p0 (F 16 p0.toNatClampNeg) p1 (F 19 p0.toNatClampNeg)) else -102) else -101
abbrev cReach (F : Nat → Nat → Int32) (sd : Int32) (n : Nat) (minute cells : Int32) (k : Nat) : Prop :=
  ¬ ∀ c, c < 10 → ¬ ((cells >>> (nI c &&& 31)) &&& 1 = 1 ∧ 0 < cGives (F 17 k) (F 18 k) (F 16 k) (9 - nI c) (cWetS F sd n (nI k) minute))
def cAbout (F : Nat → Nat → Int32) (sd : Int32) (n fd : Nat) (p0 p1 : Int32) : Int32 :=
  if okS n p0 then (if p1 = 0 then F 16 p0.toNatClampNeg else if p1 = 1 then F 17 p0.toNatClampNeg else if p1 = 2 then F 18 p0.toNatClampNeg else if p1 = 3 then F 19 p0.toNatClampNeg
    else if p1 = 4 then b2 (bitOn sd p0) else if p1 = 5 then cHeavy F sd n fd p0 else -102) else -101
def cAs (F : Nat → Nat → Int32) (n : Nat) (p0 p1 : Int32) : Int32 :=
  if okS n p0 then (if okKind p1 then (if cIsA (F 16 p0.toNatClampNeg) p1 then p0 else -1) else -102) else -101
abbrev okW (p0 p1 p2 p3 : Int32) : Prop := okKind p0 ∧ okCell p1 ∧ ¬ p2 < 1 ∧ ¬ (5 : Int32) < p2 ∧ ¬ p3 < 1 ∧ ¬ (9 : Int32) < p3
def cWrite (n : Nat) (p0 p1 p2 p3 : Int32) : Int32 := if okW p0 p1 p2 p3 then (if 0 < n then (if n < 6 then nI n else -104) else -103) else -102
def cInk (f : Nat → Int32) (n : Nat) (p0 : Int32) : Int32 := if 0 < n ∧ okCell p0 then f p0.toNatClampNeg else -101
def cComesS (F : Nat → Nat → Int32) (sd : Int32) (n : Nat) (p0 p1 : Int32) : Int32 := if 0 < n ∧ okCell p0 then (if okMin p1 then cNow F sd n p0 p1 else -102) else -101
theorem okCell_nat {x : Int32} (h : okCell x) : ∃ k : Nat, k < 10 ∧ x = nI k := by
  rcases pk_ix x (n := 10) (by decide) with h1 | h1 | h1
  · exact absurd h1 h.1
  · exact absurd h1 h.2
  · exact h1
def cIn (f : Nat → Int32) (much : Int32) : Nat → Int32
  | 0 => 0
  | k + 1 => b2 (¬ f k < much)
def cHillN (f : Nat → Int32) (much : Int32) : Nat → Int32
  | 0 => 0
  | k + 1 => if ¬ f k < much ∧ cIn f much k = 0 then cHillN f much k + 1 else cHillN f much k
def cHills (f : Nat → Int32) (n : Nat) (p0 : Int32) : Int32 := if ¬ p0 < 1 ∧ ¬ (99 : Int32) < p0 then (if 0 < n then cHillN f p0 10 else -103) else -102
def cFirst (g : Nat → Int32) (v : Int32) : Nat → Nat → Int32
  | 0, _ => -1
  | z + 1, k => if g k = v then nI k else cFirst g v z (k + 1)
def cClose (F : Nat → Nat → Int32) (sd : Int32) (n : Nat) (p0 p1 : Int32) : Int32 := if 0 < n ∧ okCell p0 then (if okMuch p1 then cFirst (fun k => cNow F sd n p0 (nI k)) p1 21 0 else -102) else -101
theorem cFirst_step {g : Nat → Int32} {v : Int32} {k : Nat} {r : Int32} (hk : k < 21) (h : cFirst g v (21 - k) k = r) : (g k = v → nI k = r) ∧ (¬ g k = v → cFirst g v (21 - (k + 1)) (k + 1) = r) := by
  rw [show 21 - k = 21 - (k + 1) + 1 by omega, cFirst] at h
  exact ⟨fun e => by rw [if_pos e] at h; exact h, fun e => by rw [if_neg e] at h; exact h⟩
/-- Integer.bitCount, as it is written -/
def jbc1 (x : Int32) : Int32 := x - ((x.toUInt32 >>> ((1 : Int32).toUInt32 &&& Int32.toUInt32 31)).toInt32 &&& 1431655765)
def jbc2 (x : Int32) : Int32 := (x &&& 858993459) + ((x.toUInt32 >>> ((2 : Int32).toUInt32 &&& Int32.toUInt32 31)).toInt32 &&& 858993459)
def jbc3 (x : Int32) : Int32 := (x + (x.toUInt32 >>> ((4 : Int32).toUInt32 &&& Int32.toUInt32 31)).toInt32) &&& 252645135
def jbc4 (x : Int32) : Int32 := x + (x.toUInt32 >>> ((8 : Int32).toUInt32 &&& Int32.toUInt32 31)).toInt32
def jbc5 (x : Int32) : Int32 := x + (x.toUInt32 >>> ((16 : Int32).toUInt32 &&& Int32.toUInt32 31)).toInt32
def jbc (x : Int32) : Int32 := jbc5 (jbc4 (jbc3 (jbc2 (jbc1 x)))) &&& 63
def cToSand (F : Nat → Nat → Int32) (sd : Int32) (n : Nat) (p0 p1 p2 : Int32) : Int32 :=
  if okMin p0 ∧ ¬ p1 < 0 ∧ ¬ (1023 : Int32) < p1 ∧ ¬ p2 < 0 ∧ ¬ (1 : Int32) < p2 then (if 0 < n then (if p2 = 0 then jbc (maskN (cReach F sd n p0 p1) n) else maskN (cReach F sd n p0 p1) n) else -103) else -102
set_option maxHeartbeats 4000000 in
set_option maxRecDepth 100000 in
theorem c_X3_copyRow_8_12 (l : Launch) (D : va_G) (cI cB cS : ClassId) {B : Nat → Nat} {I : Nat → Int32} {F : Nat → Nat → Int32} : Met l yX3_copyRow (Wm yX3_copyRow cX3_copyRow 3 none) ({ frames := 0, cells := 0, slots := 0, locals := 0 }) (va_Pc [.ref (B 8), .ref (B 12)] (PW D (TYS cI cB cS) (wsB B cI cS I F))) (QcW D none (wsB B cI cS I F) (wsB B cI cS I (va_up F 12 (rowN (F 8) (F 12) 10)))) 0 0 (FPw (wsB B cI cS I F)) := by
  refine metW (by decide) [.ref (B 8), .ref (B 12)] (Nat.le_of_ble_eq_true rfl) ?_
  intro p e s m args below meth c hx hb hml hr hlk hown hts hKK hP hD hS ls hl
  obtain ⟨hK, hN⟩ := id hKK
  have hl : lv_has ls 3 [(0, .ref (B 8)), (1, .ref (B 12))] := hl
  refine lv_iconst (v := (0 : Int32)) hx hb dX3_copyRow_0 (by decide) ?_
  refine lv_istore_n (lv' := [(2, .int (0 : Int32)), (0, .ref (B 8)), (1, .ref (B 12))]) hx hb dX3_copyRow_1 rfl hl (by decide) rfl (fun ls hl => ?_)
  have loop_2 : ∀ (z : Nat) (k : Nat) (x2 : Int32), x2 = nI k → (k ≤ 10) → 10 - k < z → ∀ (H : Heap) (locs : List Loc), va_P D vwCl (wsB B cI cS I (va_up F 12 (rowN (F 8) (F 12) k))) H → va_S (FPw (wsB B cI cS I F)) s.heap H locs → ∀ (ls : Array Slot), lv_has ls 3 [(0, .ref (B 8)), (1, .ref (B 12)), (2, .int x2)] → W p l e ({ frames := 0, cells := 0, slots := 0, locals := 0 } : Room) s m args below meth c H locs 0 0 (MQ below (QcW D none (wsB B cI cS I F) (wsB B cI cS I (va_up F 12 (rowN (F 8) (F 12) 10)))) args s 0 0 (FPw (wsB B cI cS I F))) (F0 m 2 ls []) := by
    intro z
    induction z with
    | zero =>
      intro k x2 ex2 hk hz
      exact absurd hz (Nat.not_lt_zero _)
    | succ z ih_2 =>
      intro k x2 ex2 hk hz H locs hP hS ls hl
      subst ex2
      have hD := va_D_addr (ws := (wsB B cI cS I F)) (ws' := (wsB B cI cS I (va_up F 12 (rowN (F 8) (F 12) k)))) rfl hD
      refine lv_iload_n hx hb dX3_copyRow_2 rfl (lv_at hl 2 rfl) ?_
      refine lv_aload_n hx hb dX3_copyRow_3 rfl (lv_at hl 0 rfl) ?_
      refine va_alen (D := D) hx hb hK hP 8 0 rfl rfl (v := (10 : Int32)) rfl dX3_copyRow_4 ?_
      refine lv_icmp_ge (tgt := 26) hx hb dX3_copyRow_5 (by decide) (fun c_1 => ?_) (fun c_1 => ?_)
      · have nc_1 : 10 ≤ k := (nI_leI (a := 10) (b := k) (by omega) (by omega)).mp c_1
        exact retWv hx hb hr hlk hP hS dX3_copyRow_26 (by have hkn : k = 10 := (by omega); subst hkn; rfl)
      · have nc_1 : ¬ 10 ≤ k := fun h => c_1 ((nI_leI (a := 10) (b := k) (by omega) (by omega)).mpr h)
        refine lv_iload_n hx hb dX3_copyRow_8 rfl (lv_at hl 2 rfl) ?_
        refine lv_aload_n hx hb dX3_copyRow_9 rfl (lv_at hl 1 rfl) ?_
        refine va_alen (D := D) hx hb hK hP 12 0 rfl rfl (v := (10 : Int32)) rfl dX3_copyRow_10 ?_
        refine lv_icmp_ge (tgt := 26) hx hb dX3_copyRow_11 (by decide) (fun c_2 => ?_) (fun c_2 => ?_)
        · have nc_2 : 10 ≤ k := (nI_leI (a := 10) (b := k) (by omega) (by omega)).mp c_2
          exfalso; omega
        · have nc_2 : ¬ 10 ≤ k := fun h => c_2 ((nI_leI (a := 10) (b := k) (by omega) (by omega)).mpr h)
          refine lv_aload_n hx hb dX3_copyRow_14 rfl (lv_at hl 1 rfl) ?_
          refine lv_iload_n hx hb dX3_copyRow_15 rfl (lv_at hl 2 rfl) ?_
          refine lv_aload_n hx hb dX3_copyRow_16 rfl (lv_at hl 0 rfl) ?_
          refine lv_iload_n hx hb dX3_copyRow_17 rfl (lv_at hl 2 rfl) ?_
          refine va_iald (D := D) hx hb hK hP 8 0 rfl rfl (vp_in_nI (by omega) (by omega)) dX3_copyRow_18 ?_
          refine topE (z := ((F 8) k)) (congrArg _ (nI_clamp (n := k) (by omega))) ?_
          refine va_iast (D := D) hx hb hK hP hD hS 12 0 rfl rfl (vp_in_nI (by omega) (by omega)) dX3_copyRow_19 (fun H locs hP hD hS => ?_)
          rw [nI_clamp (n := k) (by omega)] at hP hD
          have hP : va_P D vwCl (wsB B cI cS I (va_up F 12 (upd (rowN (F 8) (F 12) k) k ((F 8) k)))) H := hP
          have hD : va_D (FPw (wsB B cI cS I F)) (wsB B cI cS I (va_up F 12 (upd (rowN (F 8) (F 12) k) k ((F 8) k)))) := hD
          refine lv_iinc (v := (nI (k + 1))) (lv' := [(2, .int (nI (k + 1))), (0, .ref (B 8)), (1, .ref (B 12))]) hx hb dX3_copyRow_20 hl (k := 2) rfl (nI_add k 1) (by decide) rfl (fun ls hl => ?_)
          refine lv_goto (tgt := 2) hx hb dX3_copyRow_23 (by decide) ?_
          have hP9 : va_P D vwCl (wsB B cI cS I (va_up F 12 (rowN (F 8) (F 12) (k + 1)))) H := by rw [← rowN_upd]; exact hP
          exact ih_2 (k + 1) (nI (k + 1)) rfl (by omega) (by omega) H locs hP9 hS ls (lv_sub hl [1, 2, 0] rfl)
  have hP9 : va_P D vwCl (wsB B cI cS I (va_up F 12 (rowN (F 8) (F 12) 0))) s.heap := by rw [rowN_0]; exact hP
  exact loop_2 ((10 - 0) + 1) 0 (0 : Int32) rfl (by omega) (by omega) s.heap [] hP9 hS ls (lv_sub hl [1, 2, 0] rfl)
set_option maxHeartbeats 4000000 in
set_option maxRecDepth 100000 in
theorem c_X3_copyRow_9_13 (l : Launch) (D : va_G) (cI cB cS : ClassId) {B : Nat → Nat} {I : Nat → Int32} {F : Nat → Nat → Int32} : Met l yX3_copyRow (Wm yX3_copyRow cX3_copyRow 3 none) ({ frames := 0, cells := 0, slots := 0, locals := 0 }) (va_Pc [.ref (B 9), .ref (B 13)] (PW D (TYS cI cB cS) (wsB B cI cS I F))) (QcW D none (wsB B cI cS I F) (wsB B cI cS I (va_up F 13 (rowN (F 9) (F 13) 6)))) 0 0 (FPw (wsB B cI cS I F)) := by
  refine metW (by decide) [.ref (B 9), .ref (B 13)] (Nat.le_of_ble_eq_true rfl) ?_
  intro p e s m args below meth c hx hb hml hr hlk hown hts hKK hP hD hS ls hl
  obtain ⟨hK, hN⟩ := id hKK
  have hl : lv_has ls 3 [(0, .ref (B 9)), (1, .ref (B 13))] := hl
  refine lv_iconst (v := (0 : Int32)) hx hb dX3_copyRow_0 (by decide) ?_
  refine lv_istore_n (lv' := [(2, .int (0 : Int32)), (0, .ref (B 9)), (1, .ref (B 13))]) hx hb dX3_copyRow_1 rfl hl (by decide) rfl (fun ls hl => ?_)
  have loop_2 : ∀ (z : Nat) (k : Nat) (x2 : Int32), x2 = nI k → (k ≤ 6) → 6 - k < z → ∀ (H : Heap) (locs : List Loc), va_P D vwCl (wsB B cI cS I (va_up F 13 (rowN (F 9) (F 13) k))) H → va_S (FPw (wsB B cI cS I F)) s.heap H locs → ∀ (ls : Array Slot), lv_has ls 3 [(0, .ref (B 9)), (1, .ref (B 13)), (2, .int x2)] → W p l e ({ frames := 0, cells := 0, slots := 0, locals := 0 } : Room) s m args below meth c H locs 0 0 (MQ below (QcW D none (wsB B cI cS I F) (wsB B cI cS I (va_up F 13 (rowN (F 9) (F 13) 6)))) args s 0 0 (FPw (wsB B cI cS I F))) (F0 m 2 ls []) := by
    intro z
    induction z with
    | zero =>
      intro k x2 ex2 hk hz
      exact absurd hz (Nat.not_lt_zero _)
    | succ z ih_2 =>
      intro k x2 ex2 hk hz H locs hP hS ls hl
      subst ex2
      have hD := va_D_addr (ws := (wsB B cI cS I F)) (ws' := (wsB B cI cS I (va_up F 13 (rowN (F 9) (F 13) k)))) rfl hD
      refine lv_iload_n hx hb dX3_copyRow_2 rfl (lv_at hl 2 rfl) ?_
      refine lv_aload_n hx hb dX3_copyRow_3 rfl (lv_at hl 0 rfl) ?_
      refine va_alen (D := D) hx hb hK hP 9 0 rfl rfl (v := (6 : Int32)) rfl dX3_copyRow_4 ?_
      refine lv_icmp_ge (tgt := 26) hx hb dX3_copyRow_5 (by decide) (fun c_1 => ?_) (fun c_1 => ?_)
      · have nc_1 : 6 ≤ k := (nI_leI (a := 6) (b := k) (by omega) (by omega)).mp c_1
        exact retWv hx hb hr hlk hP hS dX3_copyRow_26 (by have hkn : k = 6 := (by omega); subst hkn; rfl)
      · have nc_1 : ¬ 6 ≤ k := fun h => c_1 ((nI_leI (a := 6) (b := k) (by omega) (by omega)).mpr h)
        refine lv_iload_n hx hb dX3_copyRow_8 rfl (lv_at hl 2 rfl) ?_
        refine lv_aload_n hx hb dX3_copyRow_9 rfl (lv_at hl 1 rfl) ?_
        refine va_alen (D := D) hx hb hK hP 13 0 rfl rfl (v := (6 : Int32)) rfl dX3_copyRow_10 ?_
        refine lv_icmp_ge (tgt := 26) hx hb dX3_copyRow_11 (by decide) (fun c_2 => ?_) (fun c_2 => ?_)
        · have nc_2 : 6 ≤ k := (nI_leI (a := 6) (b := k) (by omega) (by omega)).mp c_2
          exfalso; omega
        · have nc_2 : ¬ 6 ≤ k := fun h => c_2 ((nI_leI (a := 6) (b := k) (by omega) (by omega)).mpr h)
          refine lv_aload_n hx hb dX3_copyRow_14 rfl (lv_at hl 1 rfl) ?_
          refine lv_iload_n hx hb dX3_copyRow_15 rfl (lv_at hl 2 rfl) ?_
          refine lv_aload_n hx hb dX3_copyRow_16 rfl (lv_at hl 0 rfl) ?_
          refine lv_iload_n hx hb dX3_copyRow_17 rfl (lv_at hl 2 rfl) ?_
          refine va_iald (D := D) hx hb hK hP 9 0 rfl rfl (vp_in_nI (by omega) (by omega)) dX3_copyRow_18 ?_
          refine topE (z := ((F 9) k)) (congrArg _ (nI_clamp (n := k) (by omega))) ?_
          refine va_iast (D := D) hx hb hK hP hD hS 13 0 rfl rfl (vp_in_nI (by omega) (by omega)) dX3_copyRow_19 (fun H locs hP hD hS => ?_)
          rw [nI_clamp (n := k) (by omega)] at hP hD
          have hP : va_P D vwCl (wsB B cI cS I (va_up F 13 (upd (rowN (F 9) (F 13) k) k ((F 9) k)))) H := hP
          have hD : va_D (FPw (wsB B cI cS I F)) (wsB B cI cS I (va_up F 13 (upd (rowN (F 9) (F 13) k) k ((F 9) k)))) := hD
          refine lv_iinc (v := (nI (k + 1))) (lv' := [(2, .int (nI (k + 1))), (0, .ref (B 9)), (1, .ref (B 13))]) hx hb dX3_copyRow_20 hl (k := 2) rfl (nI_add k 1) (by decide) rfl (fun ls hl => ?_)
          refine lv_goto (tgt := 2) hx hb dX3_copyRow_23 (by decide) ?_
          have hP9 : va_P D vwCl (wsB B cI cS I (va_up F 13 (rowN (F 9) (F 13) (k + 1)))) H := by rw [← rowN_upd]; exact hP
          exact ih_2 (k + 1) (nI (k + 1)) rfl (by omega) (by omega) H locs hP9 hS ls (lv_sub hl [1, 2, 0] rfl)
  have hP9 : va_P D vwCl (wsB B cI cS I (va_up F 13 (rowN (F 9) (F 13) 0))) s.heap := by rw [rowN_0]; exact hP
  exact loop_2 ((6 - 0) + 1) 0 (0 : Int32) rfl (by omega) (by omega) s.heap [] hP9 hS ls (lv_sub hl [1, 2, 0] rfl)
set_option maxHeartbeats 4000000 in
set_option maxRecDepth 100000 in
theorem c_X3_copyRow_10_14 (l : Launch) (D : va_G) (cI cB cS : ClassId) {B : Nat → Nat} {I : Nat → Int32} {F : Nat → Nat → Int32} : Met l yX3_copyRow (Wm yX3_copyRow cX3_copyRow 3 none) ({ frames := 0, cells := 0, slots := 0, locals := 0 }) (va_Pc [.ref (B 10), .ref (B 14)] (PW D (TYS cI cB cS) (wsB B cI cS I F))) (QcW D none (wsB B cI cS I F) (wsB B cI cS I (va_up F 14 (rowN (F 10) (F 14) 6)))) 0 0 (FPw (wsB B cI cS I F)) := by
  refine metW (by decide) [.ref (B 10), .ref (B 14)] (Nat.le_of_ble_eq_true rfl) ?_
  intro p e s m args below meth c hx hb hml hr hlk hown hts hKK hP hD hS ls hl
  obtain ⟨hK, hN⟩ := id hKK
  have hl : lv_has ls 3 [(0, .ref (B 10)), (1, .ref (B 14))] := hl
  refine lv_iconst (v := (0 : Int32)) hx hb dX3_copyRow_0 (by decide) ?_
  refine lv_istore_n (lv' := [(2, .int (0 : Int32)), (0, .ref (B 10)), (1, .ref (B 14))]) hx hb dX3_copyRow_1 rfl hl (by decide) rfl (fun ls hl => ?_)
  have loop_2 : ∀ (z : Nat) (k : Nat) (x2 : Int32), x2 = nI k → (k ≤ 6) → 6 - k < z → ∀ (H : Heap) (locs : List Loc), va_P D vwCl (wsB B cI cS I (va_up F 14 (rowN (F 10) (F 14) k))) H → va_S (FPw (wsB B cI cS I F)) s.heap H locs → ∀ (ls : Array Slot), lv_has ls 3 [(0, .ref (B 10)), (1, .ref (B 14)), (2, .int x2)] → W p l e ({ frames := 0, cells := 0, slots := 0, locals := 0 } : Room) s m args below meth c H locs 0 0 (MQ below (QcW D none (wsB B cI cS I F) (wsB B cI cS I (va_up F 14 (rowN (F 10) (F 14) 6)))) args s 0 0 (FPw (wsB B cI cS I F))) (F0 m 2 ls []) := by
    intro z
    induction z with
    | zero =>
      intro k x2 ex2 hk hz
      exact absurd hz (Nat.not_lt_zero _)
    | succ z ih_2 =>
      intro k x2 ex2 hk hz H locs hP hS ls hl
      subst ex2
      have hD := va_D_addr (ws := (wsB B cI cS I F)) (ws' := (wsB B cI cS I (va_up F 14 (rowN (F 10) (F 14) k)))) rfl hD
      refine lv_iload_n hx hb dX3_copyRow_2 rfl (lv_at hl 2 rfl) ?_
      refine lv_aload_n hx hb dX3_copyRow_3 rfl (lv_at hl 0 rfl) ?_
      refine va_alen (D := D) hx hb hK hP 10 0 rfl rfl (v := (6 : Int32)) rfl dX3_copyRow_4 ?_
      refine lv_icmp_ge (tgt := 26) hx hb dX3_copyRow_5 (by decide) (fun c_1 => ?_) (fun c_1 => ?_)
      · have nc_1 : 6 ≤ k := (nI_leI (a := 6) (b := k) (by omega) (by omega)).mp c_1
        exact retWv hx hb hr hlk hP hS dX3_copyRow_26 (by have hkn : k = 6 := (by omega); subst hkn; rfl)
      · have nc_1 : ¬ 6 ≤ k := fun h => c_1 ((nI_leI (a := 6) (b := k) (by omega) (by omega)).mpr h)
        refine lv_iload_n hx hb dX3_copyRow_8 rfl (lv_at hl 2 rfl) ?_
        refine lv_aload_n hx hb dX3_copyRow_9 rfl (lv_at hl 1 rfl) ?_
        refine va_alen (D := D) hx hb hK hP 14 0 rfl rfl (v := (6 : Int32)) rfl dX3_copyRow_10 ?_
        refine lv_icmp_ge (tgt := 26) hx hb dX3_copyRow_11 (by decide) (fun c_2 => ?_) (fun c_2 => ?_)
        · have nc_2 : 6 ≤ k := (nI_leI (a := 6) (b := k) (by omega) (by omega)).mp c_2
          exfalso; omega
        · have nc_2 : ¬ 6 ≤ k := fun h => c_2 ((nI_leI (a := 6) (b := k) (by omega) (by omega)).mpr h)
          refine lv_aload_n hx hb dX3_copyRow_14 rfl (lv_at hl 1 rfl) ?_
          refine lv_iload_n hx hb dX3_copyRow_15 rfl (lv_at hl 2 rfl) ?_
          refine lv_aload_n hx hb dX3_copyRow_16 rfl (lv_at hl 0 rfl) ?_
          refine lv_iload_n hx hb dX3_copyRow_17 rfl (lv_at hl 2 rfl) ?_
          refine va_iald (D := D) hx hb hK hP 10 0 rfl rfl (vp_in_nI (by omega) (by omega)) dX3_copyRow_18 ?_
          refine topE (z := ((F 10) k)) (congrArg _ (nI_clamp (n := k) (by omega))) ?_
          refine va_iast (D := D) hx hb hK hP hD hS 14 0 rfl rfl (vp_in_nI (by omega) (by omega)) dX3_copyRow_19 (fun H locs hP hD hS => ?_)
          rw [nI_clamp (n := k) (by omega)] at hP hD
          have hP : va_P D vwCl (wsB B cI cS I (va_up F 14 (upd (rowN (F 10) (F 14) k) k ((F 10) k)))) H := hP
          have hD : va_D (FPw (wsB B cI cS I F)) (wsB B cI cS I (va_up F 14 (upd (rowN (F 10) (F 14) k) k ((F 10) k)))) := hD
          refine lv_iinc (v := (nI (k + 1))) (lv' := [(2, .int (nI (k + 1))), (0, .ref (B 10)), (1, .ref (B 14))]) hx hb dX3_copyRow_20 hl (k := 2) rfl (nI_add k 1) (by decide) rfl (fun ls hl => ?_)
          refine lv_goto (tgt := 2) hx hb dX3_copyRow_23 (by decide) ?_
          have hP9 : va_P D vwCl (wsB B cI cS I (va_up F 14 (rowN (F 10) (F 14) (k + 1)))) H := by rw [← rowN_upd]; exact hP
          exact ih_2 (k + 1) (nI (k + 1)) rfl (by omega) (by omega) H locs hP9 hS ls (lv_sub hl [1, 2, 0] rfl)
  have hP9 : va_P D vwCl (wsB B cI cS I (va_up F 14 (rowN (F 10) (F 14) 0))) s.heap := by rw [rowN_0]; exact hP
  exact loop_2 ((6 - 0) + 1) 0 (0 : Int32) rfl (by omega) (by omega) s.heap [] hP9 hS ls (lv_sub hl [1, 2, 0] rfl)
set_option maxHeartbeats 4000000 in
set_option maxRecDepth 100000 in
theorem c_X3_copyRow_11_15 (l : Launch) (D : va_G) (cI cB cS : ClassId) {B : Nat → Nat} {I : Nat → Int32} {F : Nat → Nat → Int32} : Met l yX3_copyRow (Wm yX3_copyRow cX3_copyRow 3 none) ({ frames := 0, cells := 0, slots := 0, locals := 0 }) (va_Pc [.ref (B 11), .ref (B 15)] (PW D (TYS cI cB cS) (wsB B cI cS I F))) (QcW D none (wsB B cI cS I F) (wsB B cI cS I (va_up F 15 (rowN (F 11) (F 15) 6)))) 0 0 (FPw (wsB B cI cS I F)) := by
  refine metW (by decide) [.ref (B 11), .ref (B 15)] (Nat.le_of_ble_eq_true rfl) ?_
  intro p e s m args below meth c hx hb hml hr hlk hown hts hKK hP hD hS ls hl
  obtain ⟨hK, hN⟩ := id hKK
  have hl : lv_has ls 3 [(0, .ref (B 11)), (1, .ref (B 15))] := hl
  refine lv_iconst (v := (0 : Int32)) hx hb dX3_copyRow_0 (by decide) ?_
  refine lv_istore_n (lv' := [(2, .int (0 : Int32)), (0, .ref (B 11)), (1, .ref (B 15))]) hx hb dX3_copyRow_1 rfl hl (by decide) rfl (fun ls hl => ?_)
  have loop_2 : ∀ (z : Nat) (k : Nat) (x2 : Int32), x2 = nI k → (k ≤ 6) → 6 - k < z → ∀ (H : Heap) (locs : List Loc), va_P D vwCl (wsB B cI cS I (va_up F 15 (rowN (F 11) (F 15) k))) H → va_S (FPw (wsB B cI cS I F)) s.heap H locs → ∀ (ls : Array Slot), lv_has ls 3 [(0, .ref (B 11)), (1, .ref (B 15)), (2, .int x2)] → W p l e ({ frames := 0, cells := 0, slots := 0, locals := 0 } : Room) s m args below meth c H locs 0 0 (MQ below (QcW D none (wsB B cI cS I F) (wsB B cI cS I (va_up F 15 (rowN (F 11) (F 15) 6)))) args s 0 0 (FPw (wsB B cI cS I F))) (F0 m 2 ls []) := by
    intro z
    induction z with
    | zero =>
      intro k x2 ex2 hk hz
      exact absurd hz (Nat.not_lt_zero _)
    | succ z ih_2 =>
      intro k x2 ex2 hk hz H locs hP hS ls hl
      subst ex2
      have hD := va_D_addr (ws := (wsB B cI cS I F)) (ws' := (wsB B cI cS I (va_up F 15 (rowN (F 11) (F 15) k)))) rfl hD
      refine lv_iload_n hx hb dX3_copyRow_2 rfl (lv_at hl 2 rfl) ?_
      refine lv_aload_n hx hb dX3_copyRow_3 rfl (lv_at hl 0 rfl) ?_
      refine va_alen (D := D) hx hb hK hP 11 0 rfl rfl (v := (6 : Int32)) rfl dX3_copyRow_4 ?_
      refine lv_icmp_ge (tgt := 26) hx hb dX3_copyRow_5 (by decide) (fun c_1 => ?_) (fun c_1 => ?_)
      · have nc_1 : 6 ≤ k := (nI_leI (a := 6) (b := k) (by omega) (by omega)).mp c_1
        exact retWv hx hb hr hlk hP hS dX3_copyRow_26 (by have hkn : k = 6 := (by omega); subst hkn; rfl)
      · have nc_1 : ¬ 6 ≤ k := fun h => c_1 ((nI_leI (a := 6) (b := k) (by omega) (by omega)).mpr h)
        refine lv_iload_n hx hb dX3_copyRow_8 rfl (lv_at hl 2 rfl) ?_
        refine lv_aload_n hx hb dX3_copyRow_9 rfl (lv_at hl 1 rfl) ?_
        refine va_alen (D := D) hx hb hK hP 15 0 rfl rfl (v := (6 : Int32)) rfl dX3_copyRow_10 ?_
        refine lv_icmp_ge (tgt := 26) hx hb dX3_copyRow_11 (by decide) (fun c_2 => ?_) (fun c_2 => ?_)
        · have nc_2 : 6 ≤ k := (nI_leI (a := 6) (b := k) (by omega) (by omega)).mp c_2
          exfalso; omega
        · have nc_2 : ¬ 6 ≤ k := fun h => c_2 ((nI_leI (a := 6) (b := k) (by omega) (by omega)).mpr h)
          refine lv_aload_n hx hb dX3_copyRow_14 rfl (lv_at hl 1 rfl) ?_
          refine lv_iload_n hx hb dX3_copyRow_15 rfl (lv_at hl 2 rfl) ?_
          refine lv_aload_n hx hb dX3_copyRow_16 rfl (lv_at hl 0 rfl) ?_
          refine lv_iload_n hx hb dX3_copyRow_17 rfl (lv_at hl 2 rfl) ?_
          refine va_iald (D := D) hx hb hK hP 11 0 rfl rfl (vp_in_nI (by omega) (by omega)) dX3_copyRow_18 ?_
          refine topE (z := ((F 11) k)) (congrArg _ (nI_clamp (n := k) (by omega))) ?_
          refine va_iast (D := D) hx hb hK hP hD hS 15 0 rfl rfl (vp_in_nI (by omega) (by omega)) dX3_copyRow_19 (fun H locs hP hD hS => ?_)
          rw [nI_clamp (n := k) (by omega)] at hP hD
          have hP : va_P D vwCl (wsB B cI cS I (va_up F 15 (upd (rowN (F 11) (F 15) k) k ((F 11) k)))) H := hP
          have hD : va_D (FPw (wsB B cI cS I F)) (wsB B cI cS I (va_up F 15 (upd (rowN (F 11) (F 15) k) k ((F 11) k)))) := hD
          refine lv_iinc (v := (nI (k + 1))) (lv' := [(2, .int (nI (k + 1))), (0, .ref (B 11)), (1, .ref (B 15))]) hx hb dX3_copyRow_20 hl (k := 2) rfl (nI_add k 1) (by decide) rfl (fun ls hl => ?_)
          refine lv_goto (tgt := 2) hx hb dX3_copyRow_23 (by decide) ?_
          have hP9 : va_P D vwCl (wsB B cI cS I (va_up F 15 (rowN (F 11) (F 15) (k + 1)))) H := by rw [← rowN_upd]; exact hP
          exact ih_2 (k + 1) (nI (k + 1)) rfl (by omega) (by omega) H locs hP9 hS ls (lv_sub hl [1, 2, 0] rfl)
  have hP9 : va_P D vwCl (wsB B cI cS I (va_up F 15 (rowN (F 11) (F 15) 0))) s.heap := by rw [rowN_0]; exact hP
  exact loop_2 ((6 - 0) + 1) 0 (0 : Int32) rfl (by omega) (by omega) s.heap [] hP9 hS ls (lv_sub hl [1, 2, 0] rfl)
set_option maxHeartbeats 4000000 in
set_option maxRecDepth 100000 in
theorem c_X3_copyRow_12_8 (l : Launch) (D : va_G) (cI cB cS : ClassId) {B : Nat → Nat} {I : Nat → Int32} {F : Nat → Nat → Int32} : Met l yX3_copyRow (Wm yX3_copyRow cX3_copyRow 3 none) ({ frames := 0, cells := 0, slots := 0, locals := 0 }) (va_Pc [.ref (B 12), .ref (B 8)] (PW D (TYS cI cB cS) (wsB B cI cS I F))) (QcW D none (wsB B cI cS I F) (wsB B cI cS I (va_up F 8 (rowN (F 12) (F 8) 10)))) 0 0 (FPw (wsB B cI cS I F)) := by
  refine metW (by decide) [.ref (B 12), .ref (B 8)] (Nat.le_of_ble_eq_true rfl) ?_
  intro p e s m args below meth c hx hb hml hr hlk hown hts hKK hP hD hS ls hl
  obtain ⟨hK, hN⟩ := id hKK
  have hl : lv_has ls 3 [(0, .ref (B 12)), (1, .ref (B 8))] := hl
  refine lv_iconst (v := (0 : Int32)) hx hb dX3_copyRow_0 (by decide) ?_
  refine lv_istore_n (lv' := [(2, .int (0 : Int32)), (0, .ref (B 12)), (1, .ref (B 8))]) hx hb dX3_copyRow_1 rfl hl (by decide) rfl (fun ls hl => ?_)
  have loop_2 : ∀ (z : Nat) (k : Nat) (x2 : Int32), x2 = nI k → (k ≤ 10) → 10 - k < z → ∀ (H : Heap) (locs : List Loc), va_P D vwCl (wsB B cI cS I (va_up F 8 (rowN (F 12) (F 8) k))) H → va_S (FPw (wsB B cI cS I F)) s.heap H locs → ∀ (ls : Array Slot), lv_has ls 3 [(0, .ref (B 12)), (1, .ref (B 8)), (2, .int x2)] → W p l e ({ frames := 0, cells := 0, slots := 0, locals := 0 } : Room) s m args below meth c H locs 0 0 (MQ below (QcW D none (wsB B cI cS I F) (wsB B cI cS I (va_up F 8 (rowN (F 12) (F 8) 10)))) args s 0 0 (FPw (wsB B cI cS I F))) (F0 m 2 ls []) := by
    intro z
    induction z with
    | zero =>
      intro k x2 ex2 hk hz
      exact absurd hz (Nat.not_lt_zero _)
    | succ z ih_2 =>
      intro k x2 ex2 hk hz H locs hP hS ls hl
      subst ex2
      have hD := va_D_addr (ws := (wsB B cI cS I F)) (ws' := (wsB B cI cS I (va_up F 8 (rowN (F 12) (F 8) k)))) rfl hD
      refine lv_iload_n hx hb dX3_copyRow_2 rfl (lv_at hl 2 rfl) ?_
      refine lv_aload_n hx hb dX3_copyRow_3 rfl (lv_at hl 0 rfl) ?_
      refine va_alen (D := D) hx hb hK hP 12 0 rfl rfl (v := (10 : Int32)) rfl dX3_copyRow_4 ?_
      refine lv_icmp_ge (tgt := 26) hx hb dX3_copyRow_5 (by decide) (fun c_1 => ?_) (fun c_1 => ?_)
      · have nc_1 : 10 ≤ k := (nI_leI (a := 10) (b := k) (by omega) (by omega)).mp c_1
        exact retWv hx hb hr hlk hP hS dX3_copyRow_26 (by have hkn : k = 10 := (by omega); subst hkn; rfl)
      · have nc_1 : ¬ 10 ≤ k := fun h => c_1 ((nI_leI (a := 10) (b := k) (by omega) (by omega)).mpr h)
        refine lv_iload_n hx hb dX3_copyRow_8 rfl (lv_at hl 2 rfl) ?_
        refine lv_aload_n hx hb dX3_copyRow_9 rfl (lv_at hl 1 rfl) ?_
        refine va_alen (D := D) hx hb hK hP 8 0 rfl rfl (v := (10 : Int32)) rfl dX3_copyRow_10 ?_
        refine lv_icmp_ge (tgt := 26) hx hb dX3_copyRow_11 (by decide) (fun c_2 => ?_) (fun c_2 => ?_)
        · have nc_2 : 10 ≤ k := (nI_leI (a := 10) (b := k) (by omega) (by omega)).mp c_2
          exfalso; omega
        · have nc_2 : ¬ 10 ≤ k := fun h => c_2 ((nI_leI (a := 10) (b := k) (by omega) (by omega)).mpr h)
          refine lv_aload_n hx hb dX3_copyRow_14 rfl (lv_at hl 1 rfl) ?_
          refine lv_iload_n hx hb dX3_copyRow_15 rfl (lv_at hl 2 rfl) ?_
          refine lv_aload_n hx hb dX3_copyRow_16 rfl (lv_at hl 0 rfl) ?_
          refine lv_iload_n hx hb dX3_copyRow_17 rfl (lv_at hl 2 rfl) ?_
          refine va_iald (D := D) hx hb hK hP 12 0 rfl rfl (vp_in_nI (by omega) (by omega)) dX3_copyRow_18 ?_
          refine topE (z := ((F 12) k)) (congrArg _ (nI_clamp (n := k) (by omega))) ?_
          refine va_iast (D := D) hx hb hK hP hD hS 8 0 rfl rfl (vp_in_nI (by omega) (by omega)) dX3_copyRow_19 (fun H locs hP hD hS => ?_)
          rw [nI_clamp (n := k) (by omega)] at hP hD
          have hP : va_P D vwCl (wsB B cI cS I (va_up F 8 (upd (rowN (F 12) (F 8) k) k ((F 12) k)))) H := hP
          have hD : va_D (FPw (wsB B cI cS I F)) (wsB B cI cS I (va_up F 8 (upd (rowN (F 12) (F 8) k) k ((F 12) k)))) := hD
          refine lv_iinc (v := (nI (k + 1))) (lv' := [(2, .int (nI (k + 1))), (0, .ref (B 12)), (1, .ref (B 8))]) hx hb dX3_copyRow_20 hl (k := 2) rfl (nI_add k 1) (by decide) rfl (fun ls hl => ?_)
          refine lv_goto (tgt := 2) hx hb dX3_copyRow_23 (by decide) ?_
          have hP9 : va_P D vwCl (wsB B cI cS I (va_up F 8 (rowN (F 12) (F 8) (k + 1)))) H := by rw [← rowN_upd]; exact hP
          exact ih_2 (k + 1) (nI (k + 1)) rfl (by omega) (by omega) H locs hP9 hS ls (lv_sub hl [1, 2, 0] rfl)
  have hP9 : va_P D vwCl (wsB B cI cS I (va_up F 8 (rowN (F 12) (F 8) 0))) s.heap := by rw [rowN_0]; exact hP
  exact loop_2 ((10 - 0) + 1) 0 (0 : Int32) rfl (by omega) (by omega) s.heap [] hP9 hS ls (lv_sub hl [1, 2, 0] rfl)
set_option maxHeartbeats 4000000 in
set_option maxRecDepth 100000 in
theorem c_X3_copyRow_13_9 (l : Launch) (D : va_G) (cI cB cS : ClassId) {B : Nat → Nat} {I : Nat → Int32} {F : Nat → Nat → Int32} : Met l yX3_copyRow (Wm yX3_copyRow cX3_copyRow 3 none) ({ frames := 0, cells := 0, slots := 0, locals := 0 }) (va_Pc [.ref (B 13), .ref (B 9)] (PW D (TYS cI cB cS) (wsB B cI cS I F))) (QcW D none (wsB B cI cS I F) (wsB B cI cS I (va_up F 9 (rowN (F 13) (F 9) 6)))) 0 0 (FPw (wsB B cI cS I F)) := by
  refine metW (by decide) [.ref (B 13), .ref (B 9)] (Nat.le_of_ble_eq_true rfl) ?_
  intro p e s m args below meth c hx hb hml hr hlk hown hts hKK hP hD hS ls hl
  obtain ⟨hK, hN⟩ := id hKK
  have hl : lv_has ls 3 [(0, .ref (B 13)), (1, .ref (B 9))] := hl
  refine lv_iconst (v := (0 : Int32)) hx hb dX3_copyRow_0 (by decide) ?_
  refine lv_istore_n (lv' := [(2, .int (0 : Int32)), (0, .ref (B 13)), (1, .ref (B 9))]) hx hb dX3_copyRow_1 rfl hl (by decide) rfl (fun ls hl => ?_)
  have loop_2 : ∀ (z : Nat) (k : Nat) (x2 : Int32), x2 = nI k → (k ≤ 6) → 6 - k < z → ∀ (H : Heap) (locs : List Loc), va_P D vwCl (wsB B cI cS I (va_up F 9 (rowN (F 13) (F 9) k))) H → va_S (FPw (wsB B cI cS I F)) s.heap H locs → ∀ (ls : Array Slot), lv_has ls 3 [(0, .ref (B 13)), (1, .ref (B 9)), (2, .int x2)] → W p l e ({ frames := 0, cells := 0, slots := 0, locals := 0 } : Room) s m args below meth c H locs 0 0 (MQ below (QcW D none (wsB B cI cS I F) (wsB B cI cS I (va_up F 9 (rowN (F 13) (F 9) 6)))) args s 0 0 (FPw (wsB B cI cS I F))) (F0 m 2 ls []) := by
    intro z
    induction z with
    | zero =>
      intro k x2 ex2 hk hz
      exact absurd hz (Nat.not_lt_zero _)
    | succ z ih_2 =>
      intro k x2 ex2 hk hz H locs hP hS ls hl
      subst ex2
      have hD := va_D_addr (ws := (wsB B cI cS I F)) (ws' := (wsB B cI cS I (va_up F 9 (rowN (F 13) (F 9) k)))) rfl hD
      refine lv_iload_n hx hb dX3_copyRow_2 rfl (lv_at hl 2 rfl) ?_
      refine lv_aload_n hx hb dX3_copyRow_3 rfl (lv_at hl 0 rfl) ?_
      refine va_alen (D := D) hx hb hK hP 13 0 rfl rfl (v := (6 : Int32)) rfl dX3_copyRow_4 ?_
      refine lv_icmp_ge (tgt := 26) hx hb dX3_copyRow_5 (by decide) (fun c_1 => ?_) (fun c_1 => ?_)
      · have nc_1 : 6 ≤ k := (nI_leI (a := 6) (b := k) (by omega) (by omega)).mp c_1
        exact retWv hx hb hr hlk hP hS dX3_copyRow_26 (by have hkn : k = 6 := (by omega); subst hkn; rfl)
      · have nc_1 : ¬ 6 ≤ k := fun h => c_1 ((nI_leI (a := 6) (b := k) (by omega) (by omega)).mpr h)
        refine lv_iload_n hx hb dX3_copyRow_8 rfl (lv_at hl 2 rfl) ?_
        refine lv_aload_n hx hb dX3_copyRow_9 rfl (lv_at hl 1 rfl) ?_
        refine va_alen (D := D) hx hb hK hP 9 0 rfl rfl (v := (6 : Int32)) rfl dX3_copyRow_10 ?_
        refine lv_icmp_ge (tgt := 26) hx hb dX3_copyRow_11 (by decide) (fun c_2 => ?_) (fun c_2 => ?_)
        · have nc_2 : 6 ≤ k := (nI_leI (a := 6) (b := k) (by omega) (by omega)).mp c_2
          exfalso; omega
        · have nc_2 : ¬ 6 ≤ k := fun h => c_2 ((nI_leI (a := 6) (b := k) (by omega) (by omega)).mpr h)
          refine lv_aload_n hx hb dX3_copyRow_14 rfl (lv_at hl 1 rfl) ?_
          refine lv_iload_n hx hb dX3_copyRow_15 rfl (lv_at hl 2 rfl) ?_
          refine lv_aload_n hx hb dX3_copyRow_16 rfl (lv_at hl 0 rfl) ?_
          refine lv_iload_n hx hb dX3_copyRow_17 rfl (lv_at hl 2 rfl) ?_
          refine va_iald (D := D) hx hb hK hP 13 0 rfl rfl (vp_in_nI (by omega) (by omega)) dX3_copyRow_18 ?_
          refine topE (z := ((F 13) k)) (congrArg _ (nI_clamp (n := k) (by omega))) ?_
          refine va_iast (D := D) hx hb hK hP hD hS 9 0 rfl rfl (vp_in_nI (by omega) (by omega)) dX3_copyRow_19 (fun H locs hP hD hS => ?_)
          rw [nI_clamp (n := k) (by omega)] at hP hD
          have hP : va_P D vwCl (wsB B cI cS I (va_up F 9 (upd (rowN (F 13) (F 9) k) k ((F 13) k)))) H := hP
          have hD : va_D (FPw (wsB B cI cS I F)) (wsB B cI cS I (va_up F 9 (upd (rowN (F 13) (F 9) k) k ((F 13) k)))) := hD
          refine lv_iinc (v := (nI (k + 1))) (lv' := [(2, .int (nI (k + 1))), (0, .ref (B 13)), (1, .ref (B 9))]) hx hb dX3_copyRow_20 hl (k := 2) rfl (nI_add k 1) (by decide) rfl (fun ls hl => ?_)
          refine lv_goto (tgt := 2) hx hb dX3_copyRow_23 (by decide) ?_
          have hP9 : va_P D vwCl (wsB B cI cS I (va_up F 9 (rowN (F 13) (F 9) (k + 1)))) H := by rw [← rowN_upd]; exact hP
          exact ih_2 (k + 1) (nI (k + 1)) rfl (by omega) (by omega) H locs hP9 hS ls (lv_sub hl [1, 2, 0] rfl)
  have hP9 : va_P D vwCl (wsB B cI cS I (va_up F 9 (rowN (F 13) (F 9) 0))) s.heap := by rw [rowN_0]; exact hP
  exact loop_2 ((6 - 0) + 1) 0 (0 : Int32) rfl (by omega) (by omega) s.heap [] hP9 hS ls (lv_sub hl [1, 2, 0] rfl)
set_option maxHeartbeats 4000000 in
set_option maxRecDepth 100000 in
theorem c_X3_copyRow_14_10 (l : Launch) (D : va_G) (cI cB cS : ClassId) {B : Nat → Nat} {I : Nat → Int32} {F : Nat → Nat → Int32} : Met l yX3_copyRow (Wm yX3_copyRow cX3_copyRow 3 none) ({ frames := 0, cells := 0, slots := 0, locals := 0 }) (va_Pc [.ref (B 14), .ref (B 10)] (PW D (TYS cI cB cS) (wsB B cI cS I F))) (QcW D none (wsB B cI cS I F) (wsB B cI cS I (va_up F 10 (rowN (F 14) (F 10) 6)))) 0 0 (FPw (wsB B cI cS I F)) := by
  refine metW (by decide) [.ref (B 14), .ref (B 10)] (Nat.le_of_ble_eq_true rfl) ?_
  intro p e s m args below meth c hx hb hml hr hlk hown hts hKK hP hD hS ls hl
  obtain ⟨hK, hN⟩ := id hKK
  have hl : lv_has ls 3 [(0, .ref (B 14)), (1, .ref (B 10))] := hl
  refine lv_iconst (v := (0 : Int32)) hx hb dX3_copyRow_0 (by decide) ?_
  refine lv_istore_n (lv' := [(2, .int (0 : Int32)), (0, .ref (B 14)), (1, .ref (B 10))]) hx hb dX3_copyRow_1 rfl hl (by decide) rfl (fun ls hl => ?_)
  have loop_2 : ∀ (z : Nat) (k : Nat) (x2 : Int32), x2 = nI k → (k ≤ 6) → 6 - k < z → ∀ (H : Heap) (locs : List Loc), va_P D vwCl (wsB B cI cS I (va_up F 10 (rowN (F 14) (F 10) k))) H → va_S (FPw (wsB B cI cS I F)) s.heap H locs → ∀ (ls : Array Slot), lv_has ls 3 [(0, .ref (B 14)), (1, .ref (B 10)), (2, .int x2)] → W p l e ({ frames := 0, cells := 0, slots := 0, locals := 0 } : Room) s m args below meth c H locs 0 0 (MQ below (QcW D none (wsB B cI cS I F) (wsB B cI cS I (va_up F 10 (rowN (F 14) (F 10) 6)))) args s 0 0 (FPw (wsB B cI cS I F))) (F0 m 2 ls []) := by
    intro z
    induction z with
    | zero =>
      intro k x2 ex2 hk hz
      exact absurd hz (Nat.not_lt_zero _)
    | succ z ih_2 =>
      intro k x2 ex2 hk hz H locs hP hS ls hl
      subst ex2
      have hD := va_D_addr (ws := (wsB B cI cS I F)) (ws' := (wsB B cI cS I (va_up F 10 (rowN (F 14) (F 10) k)))) rfl hD
      refine lv_iload_n hx hb dX3_copyRow_2 rfl (lv_at hl 2 rfl) ?_
      refine lv_aload_n hx hb dX3_copyRow_3 rfl (lv_at hl 0 rfl) ?_
      refine va_alen (D := D) hx hb hK hP 14 0 rfl rfl (v := (6 : Int32)) rfl dX3_copyRow_4 ?_
      refine lv_icmp_ge (tgt := 26) hx hb dX3_copyRow_5 (by decide) (fun c_1 => ?_) (fun c_1 => ?_)
      · have nc_1 : 6 ≤ k := (nI_leI (a := 6) (b := k) (by omega) (by omega)).mp c_1
        exact retWv hx hb hr hlk hP hS dX3_copyRow_26 (by have hkn : k = 6 := (by omega); subst hkn; rfl)
      · have nc_1 : ¬ 6 ≤ k := fun h => c_1 ((nI_leI (a := 6) (b := k) (by omega) (by omega)).mpr h)
        refine lv_iload_n hx hb dX3_copyRow_8 rfl (lv_at hl 2 rfl) ?_
        refine lv_aload_n hx hb dX3_copyRow_9 rfl (lv_at hl 1 rfl) ?_
        refine va_alen (D := D) hx hb hK hP 10 0 rfl rfl (v := (6 : Int32)) rfl dX3_copyRow_10 ?_
        refine lv_icmp_ge (tgt := 26) hx hb dX3_copyRow_11 (by decide) (fun c_2 => ?_) (fun c_2 => ?_)
        · have nc_2 : 6 ≤ k := (nI_leI (a := 6) (b := k) (by omega) (by omega)).mp c_2
          exfalso; omega
        · have nc_2 : ¬ 6 ≤ k := fun h => c_2 ((nI_leI (a := 6) (b := k) (by omega) (by omega)).mpr h)
          refine lv_aload_n hx hb dX3_copyRow_14 rfl (lv_at hl 1 rfl) ?_
          refine lv_iload_n hx hb dX3_copyRow_15 rfl (lv_at hl 2 rfl) ?_
          refine lv_aload_n hx hb dX3_copyRow_16 rfl (lv_at hl 0 rfl) ?_
          refine lv_iload_n hx hb dX3_copyRow_17 rfl (lv_at hl 2 rfl) ?_
          refine va_iald (D := D) hx hb hK hP 14 0 rfl rfl (vp_in_nI (by omega) (by omega)) dX3_copyRow_18 ?_
          refine topE (z := ((F 14) k)) (congrArg _ (nI_clamp (n := k) (by omega))) ?_
          refine va_iast (D := D) hx hb hK hP hD hS 10 0 rfl rfl (vp_in_nI (by omega) (by omega)) dX3_copyRow_19 (fun H locs hP hD hS => ?_)
          rw [nI_clamp (n := k) (by omega)] at hP hD
          have hP : va_P D vwCl (wsB B cI cS I (va_up F 10 (upd (rowN (F 14) (F 10) k) k ((F 14) k)))) H := hP
          have hD : va_D (FPw (wsB B cI cS I F)) (wsB B cI cS I (va_up F 10 (upd (rowN (F 14) (F 10) k) k ((F 14) k)))) := hD
          refine lv_iinc (v := (nI (k + 1))) (lv' := [(2, .int (nI (k + 1))), (0, .ref (B 14)), (1, .ref (B 10))]) hx hb dX3_copyRow_20 hl (k := 2) rfl (nI_add k 1) (by decide) rfl (fun ls hl => ?_)
          refine lv_goto (tgt := 2) hx hb dX3_copyRow_23 (by decide) ?_
          have hP9 : va_P D vwCl (wsB B cI cS I (va_up F 10 (rowN (F 14) (F 10) (k + 1)))) H := by rw [← rowN_upd]; exact hP
          exact ih_2 (k + 1) (nI (k + 1)) rfl (by omega) (by omega) H locs hP9 hS ls (lv_sub hl [1, 2, 0] rfl)
  have hP9 : va_P D vwCl (wsB B cI cS I (va_up F 10 (rowN (F 14) (F 10) 0))) s.heap := by rw [rowN_0]; exact hP
  exact loop_2 ((6 - 0) + 1) 0 (0 : Int32) rfl (by omega) (by omega) s.heap [] hP9 hS ls (lv_sub hl [1, 2, 0] rfl)
set_option maxHeartbeats 4000000 in
set_option maxRecDepth 100000 in
theorem c_X3_copyRow_15_11 (l : Launch) (D : va_G) (cI cB cS : ClassId) {B : Nat → Nat} {I : Nat → Int32} {F : Nat → Nat → Int32} : Met l yX3_copyRow (Wm yX3_copyRow cX3_copyRow 3 none) ({ frames := 0, cells := 0, slots := 0, locals := 0 }) (va_Pc [.ref (B 15), .ref (B 11)] (PW D (TYS cI cB cS) (wsB B cI cS I F))) (QcW D none (wsB B cI cS I F) (wsB B cI cS I (va_up F 11 (rowN (F 15) (F 11) 6)))) 0 0 (FPw (wsB B cI cS I F)) := by
  refine metW (by decide) [.ref (B 15), .ref (B 11)] (Nat.le_of_ble_eq_true rfl) ?_
  intro p e s m args below meth c hx hb hml hr hlk hown hts hKK hP hD hS ls hl
  obtain ⟨hK, hN⟩ := id hKK
  have hl : lv_has ls 3 [(0, .ref (B 15)), (1, .ref (B 11))] := hl
  refine lv_iconst (v := (0 : Int32)) hx hb dX3_copyRow_0 (by decide) ?_
  refine lv_istore_n (lv' := [(2, .int (0 : Int32)), (0, .ref (B 15)), (1, .ref (B 11))]) hx hb dX3_copyRow_1 rfl hl (by decide) rfl (fun ls hl => ?_)
  have loop_2 : ∀ (z : Nat) (k : Nat) (x2 : Int32), x2 = nI k → (k ≤ 6) → 6 - k < z → ∀ (H : Heap) (locs : List Loc), va_P D vwCl (wsB B cI cS I (va_up F 11 (rowN (F 15) (F 11) k))) H → va_S (FPw (wsB B cI cS I F)) s.heap H locs → ∀ (ls : Array Slot), lv_has ls 3 [(0, .ref (B 15)), (1, .ref (B 11)), (2, .int x2)] → W p l e ({ frames := 0, cells := 0, slots := 0, locals := 0 } : Room) s m args below meth c H locs 0 0 (MQ below (QcW D none (wsB B cI cS I F) (wsB B cI cS I (va_up F 11 (rowN (F 15) (F 11) 6)))) args s 0 0 (FPw (wsB B cI cS I F))) (F0 m 2 ls []) := by
    intro z
    induction z with
    | zero =>
      intro k x2 ex2 hk hz
      exact absurd hz (Nat.not_lt_zero _)
    | succ z ih_2 =>
      intro k x2 ex2 hk hz H locs hP hS ls hl
      subst ex2
      have hD := va_D_addr (ws := (wsB B cI cS I F)) (ws' := (wsB B cI cS I (va_up F 11 (rowN (F 15) (F 11) k)))) rfl hD
      refine lv_iload_n hx hb dX3_copyRow_2 rfl (lv_at hl 2 rfl) ?_
      refine lv_aload_n hx hb dX3_copyRow_3 rfl (lv_at hl 0 rfl) ?_
      refine va_alen (D := D) hx hb hK hP 15 0 rfl rfl (v := (6 : Int32)) rfl dX3_copyRow_4 ?_
      refine lv_icmp_ge (tgt := 26) hx hb dX3_copyRow_5 (by decide) (fun c_1 => ?_) (fun c_1 => ?_)
      · have nc_1 : 6 ≤ k := (nI_leI (a := 6) (b := k) (by omega) (by omega)).mp c_1
        exact retWv hx hb hr hlk hP hS dX3_copyRow_26 (by have hkn : k = 6 := (by omega); subst hkn; rfl)
      · have nc_1 : ¬ 6 ≤ k := fun h => c_1 ((nI_leI (a := 6) (b := k) (by omega) (by omega)).mpr h)
        refine lv_iload_n hx hb dX3_copyRow_8 rfl (lv_at hl 2 rfl) ?_
        refine lv_aload_n hx hb dX3_copyRow_9 rfl (lv_at hl 1 rfl) ?_
        refine va_alen (D := D) hx hb hK hP 11 0 rfl rfl (v := (6 : Int32)) rfl dX3_copyRow_10 ?_
        refine lv_icmp_ge (tgt := 26) hx hb dX3_copyRow_11 (by decide) (fun c_2 => ?_) (fun c_2 => ?_)
        · have nc_2 : 6 ≤ k := (nI_leI (a := 6) (b := k) (by omega) (by omega)).mp c_2
          exfalso; omega
        · have nc_2 : ¬ 6 ≤ k := fun h => c_2 ((nI_leI (a := 6) (b := k) (by omega) (by omega)).mpr h)
          refine lv_aload_n hx hb dX3_copyRow_14 rfl (lv_at hl 1 rfl) ?_
          refine lv_iload_n hx hb dX3_copyRow_15 rfl (lv_at hl 2 rfl) ?_
          refine lv_aload_n hx hb dX3_copyRow_16 rfl (lv_at hl 0 rfl) ?_
          refine lv_iload_n hx hb dX3_copyRow_17 rfl (lv_at hl 2 rfl) ?_
          refine va_iald (D := D) hx hb hK hP 15 0 rfl rfl (vp_in_nI (by omega) (by omega)) dX3_copyRow_18 ?_
          refine topE (z := ((F 15) k)) (congrArg _ (nI_clamp (n := k) (by omega))) ?_
          refine va_iast (D := D) hx hb hK hP hD hS 11 0 rfl rfl (vp_in_nI (by omega) (by omega)) dX3_copyRow_19 (fun H locs hP hD hS => ?_)
          rw [nI_clamp (n := k) (by omega)] at hP hD
          have hP : va_P D vwCl (wsB B cI cS I (va_up F 11 (upd (rowN (F 15) (F 11) k) k ((F 15) k)))) H := hP
          have hD : va_D (FPw (wsB B cI cS I F)) (wsB B cI cS I (va_up F 11 (upd (rowN (F 15) (F 11) k) k ((F 15) k)))) := hD
          refine lv_iinc (v := (nI (k + 1))) (lv' := [(2, .int (nI (k + 1))), (0, .ref (B 15)), (1, .ref (B 11))]) hx hb dX3_copyRow_20 hl (k := 2) rfl (nI_add k 1) (by decide) rfl (fun ls hl => ?_)
          refine lv_goto (tgt := 2) hx hb dX3_copyRow_23 (by decide) ?_
          have hP9 : va_P D vwCl (wsB B cI cS I (va_up F 11 (rowN (F 15) (F 11) (k + 1)))) H := by rw [← rowN_upd]; exact hP
          exact ih_2 (k + 1) (nI (k + 1)) rfl (by omega) (by omega) H locs hP9 hS ls (lv_sub hl [1, 2, 0] rfl)
  have hP9 : va_P D vwCl (wsB B cI cS I (va_up F 11 (rowN (F 15) (F 11) 0))) s.heap := by rw [rowN_0]; exact hP
  exact loop_2 ((6 - 0) + 1) 0 (0 : Int32) rfl (by omega) (by omega) s.heap [] hP9 hS ls (lv_sub hl [1, 2, 0] rfl)
set_option maxHeartbeats 4000000 in
set_option maxRecDepth 100000 in
theorem c_X3_copyRow_8_5 (l : Launch) (D : va_G) (cI cB cS : ClassId) {B : Nat → Nat} {I : Nat → Int32} {F : Nat → Nat → Int32} : Met l yX3_copyRow (Wm yX3_copyRow cX3_copyRow 3 none) ({ frames := 0, cells := 0, slots := 0, locals := 0 }) (va_Pc [.ref (B 8), .ref (B 5)] (PW D (TYS cI cB cS) (wsB B cI cS I F))) (QcW D none (wsB B cI cS I F) (wsB B cI cS I (va_up F 5 (rowN (F 8) (F 5) 10)))) 0 0 (FPw (wsB B cI cS I F)) := by
  refine metW (by decide) [.ref (B 8), .ref (B 5)] (Nat.le_of_ble_eq_true rfl) ?_
  intro p e s m args below meth c hx hb hml hr hlk hown hts hKK hP hD hS ls hl
  obtain ⟨hK, hN⟩ := id hKK
  have hl : lv_has ls 3 [(0, .ref (B 8)), (1, .ref (B 5))] := hl
  refine lv_iconst (v := (0 : Int32)) hx hb dX3_copyRow_0 (by decide) ?_
  refine lv_istore_n (lv' := [(2, .int (0 : Int32)), (0, .ref (B 8)), (1, .ref (B 5))]) hx hb dX3_copyRow_1 rfl hl (by decide) rfl (fun ls hl => ?_)
  have loop_2 : ∀ (z : Nat) (k : Nat) (x2 : Int32), x2 = nI k → (k ≤ 10) → 10 - k < z → ∀ (H : Heap) (locs : List Loc), va_P D vwCl (wsB B cI cS I (va_up F 5 (rowN (F 8) (F 5) k))) H → va_S (FPw (wsB B cI cS I F)) s.heap H locs → ∀ (ls : Array Slot), lv_has ls 3 [(0, .ref (B 8)), (1, .ref (B 5)), (2, .int x2)] → W p l e ({ frames := 0, cells := 0, slots := 0, locals := 0 } : Room) s m args below meth c H locs 0 0 (MQ below (QcW D none (wsB B cI cS I F) (wsB B cI cS I (va_up F 5 (rowN (F 8) (F 5) 10)))) args s 0 0 (FPw (wsB B cI cS I F))) (F0 m 2 ls []) := by
    intro z
    induction z with
    | zero =>
      intro k x2 ex2 hk hz
      exact absurd hz (Nat.not_lt_zero _)
    | succ z ih_2 =>
      intro k x2 ex2 hk hz H locs hP hS ls hl
      subst ex2
      have hD := va_D_addr (ws := (wsB B cI cS I F)) (ws' := (wsB B cI cS I (va_up F 5 (rowN (F 8) (F 5) k)))) rfl hD
      refine lv_iload_n hx hb dX3_copyRow_2 rfl (lv_at hl 2 rfl) ?_
      refine lv_aload_n hx hb dX3_copyRow_3 rfl (lv_at hl 0 rfl) ?_
      refine va_alen (D := D) hx hb hK hP 8 0 rfl rfl (v := (10 : Int32)) rfl dX3_copyRow_4 ?_
      refine lv_icmp_ge (tgt := 26) hx hb dX3_copyRow_5 (by decide) (fun c_1 => ?_) (fun c_1 => ?_)
      · have nc_1 : 10 ≤ k := (nI_leI (a := 10) (b := k) (by omega) (by omega)).mp c_1
        exact retWv hx hb hr hlk hP hS dX3_copyRow_26 (by have hkn : k = 10 := (by omega); subst hkn; rfl)
      · have nc_1 : ¬ 10 ≤ k := fun h => c_1 ((nI_leI (a := 10) (b := k) (by omega) (by omega)).mpr h)
        refine lv_iload_n hx hb dX3_copyRow_8 rfl (lv_at hl 2 rfl) ?_
        refine lv_aload_n hx hb dX3_copyRow_9 rfl (lv_at hl 1 rfl) ?_
        refine va_alen (D := D) hx hb hK hP 5 0 rfl rfl (v := (10 : Int32)) rfl dX3_copyRow_10 ?_
        refine lv_icmp_ge (tgt := 26) hx hb dX3_copyRow_11 (by decide) (fun c_2 => ?_) (fun c_2 => ?_)
        · have nc_2 : 10 ≤ k := (nI_leI (a := 10) (b := k) (by omega) (by omega)).mp c_2
          exfalso; omega
        · have nc_2 : ¬ 10 ≤ k := fun h => c_2 ((nI_leI (a := 10) (b := k) (by omega) (by omega)).mpr h)
          refine lv_aload_n hx hb dX3_copyRow_14 rfl (lv_at hl 1 rfl) ?_
          refine lv_iload_n hx hb dX3_copyRow_15 rfl (lv_at hl 2 rfl) ?_
          refine lv_aload_n hx hb dX3_copyRow_16 rfl (lv_at hl 0 rfl) ?_
          refine lv_iload_n hx hb dX3_copyRow_17 rfl (lv_at hl 2 rfl) ?_
          refine va_iald (D := D) hx hb hK hP 8 0 rfl rfl (vp_in_nI (by omega) (by omega)) dX3_copyRow_18 ?_
          refine topE (z := ((F 8) k)) (congrArg _ (nI_clamp (n := k) (by omega))) ?_
          refine va_iast (D := D) hx hb hK hP hD hS 5 0 rfl rfl (vp_in_nI (by omega) (by omega)) dX3_copyRow_19 (fun H locs hP hD hS => ?_)
          rw [nI_clamp (n := k) (by omega)] at hP hD
          have hP : va_P D vwCl (wsB B cI cS I (va_up F 5 (upd (rowN (F 8) (F 5) k) k ((F 8) k)))) H := hP
          have hD : va_D (FPw (wsB B cI cS I F)) (wsB B cI cS I (va_up F 5 (upd (rowN (F 8) (F 5) k) k ((F 8) k)))) := hD
          refine lv_iinc (v := (nI (k + 1))) (lv' := [(2, .int (nI (k + 1))), (0, .ref (B 8)), (1, .ref (B 5))]) hx hb dX3_copyRow_20 hl (k := 2) rfl (nI_add k 1) (by decide) rfl (fun ls hl => ?_)
          refine lv_goto (tgt := 2) hx hb dX3_copyRow_23 (by decide) ?_
          have hP9 : va_P D vwCl (wsB B cI cS I (va_up F 5 (rowN (F 8) (F 5) (k + 1)))) H := by rw [← rowN_upd]; exact hP
          exact ih_2 (k + 1) (nI (k + 1)) rfl (by omega) (by omega) H locs hP9 hS ls (lv_sub hl [1, 2, 0] rfl)
  have hP9 : va_P D vwCl (wsB B cI cS I (va_up F 5 (rowN (F 8) (F 5) 0))) s.heap := by rw [rowN_0]; exact hP
  exact loop_2 ((10 - 0) + 1) 0 (0 : Int32) rfl (by omega) (by omega) s.heap [] hP9 hS ls (lv_sub hl [1, 2, 0] rfl)
set_option maxHeartbeats 4000000 in
set_option maxRecDepth 100000 in
theorem c_X1_copyFrom_kept (l : Launch) (D : va_G) (cI cB cS : ClassId) {B : Nat → Nat} {I : Nat → Int32} {F : Nat → Nat → Int32} : Met l yX1_copyFrom (Wm yX1_copyFrom cX1_copyFrom 2 none) ({ frames := 1, cells := 0, slots := 0, locals := 22 }) (va_Pc [.ref (B 4), .ref (B 3)] (PW D (TYS cI cB cS) (wsB B cI cS I F))) (QcW D none (wsB B cI cS I F) (wsB B cI cS (upd (upd (upd (upd I 7 (I 3)) 8 (I 4)) 9 (I 5)) 10 (I 6)) (va_up (va_up (va_up (va_up F 12 (rowN (F 8) (F 12) 10)) 13 (rowN (F 9) (F 13) 6)) 14 (rowN (F 10) (F 14) 6)) 15 (rowN (F 11) (F 15) 6)))) 0 0 (FPw (wsB B cI cS I F)) := by
  refine metW (by decide) [.ref (B 4), .ref (B 3)] (Nat.le_of_ble_eq_true rfl) ?_
  intro p e s m args below meth c hx hb hml hr hlk hown hts hKK hP hD hS ls hl
  obtain ⟨hK, hN⟩ := id hKK
  have hl : lv_has ls 2 [(0, .ref (B 4)), (1, .ref (B 3))] := hl
  refine lv_aload_n hx hb dX1_copyFrom_0 rfl (lv_at hl 0 rfl) ?_
  refine lv_aload_n hx hb dX1_copyFrom_1 rfl (lv_at hl 1 rfl) ?_
  refine va_get (D := D) (ci := 1) (v := .int (I 3)) (C := RX1) (T := TX1) (N := 8) hx hb hts inlX1 hown hK hP 3 rfl rfl 0 (by decide) (hts _ kw_38) (fun _ h9 => h9) rfl dX1_copyFrom_2 ?_
  refine va_put (D := D) (ci := 1) (v := .int (I 3)) (ty := tyX1 0) (C := RX1) (T := TX1) (N := 8) hx hb hts inlX1 tyX1 tyX1_ok nmX1 hown hK hP hD hS 4 rfl rfl 0 (by decide) (hts _ kw_38) (fun _ h9 => h9) rfl (tyX1_ok 0 (by decide)) rfl rfl (Nat.le_of_ble_eq_true rfl) dX1_copyFrom_5 (fun H locs hP hD hS => ?_)
  have hP : va_P D vwCl (wsB B cI cS (upd I 7 (I 3)) F) H := hP
  have hD : va_D (FPw (wsB B cI cS I F)) (wsB B cI cS (upd I 7 (I 3)) F) := hD
  refine lv_aload_n hx hb dX1_copyFrom_8 rfl (lv_at hl 0 rfl) ?_
  refine lv_aload_n hx hb dX1_copyFrom_9 rfl (lv_at hl 1 rfl) ?_
  refine va_get (D := D) (ci := 1) (v := .int (I 4)) (C := RX1) (T := TX1) (N := 8) hx hb hts inlX1 hown hK hP 3 rfl rfl 1 (by decide) (hts _ kw_39) (fun _ h9 => h9) rfl dX1_copyFrom_10 ?_
  refine va_put (D := D) (ci := 1) (v := .int (I 4)) (ty := tyX1 1) (C := RX1) (T := TX1) (N := 8) hx hb hts inlX1 tyX1 tyX1_ok nmX1 hown hK hP hD hS 4 rfl rfl 1 (by decide) (hts _ kw_39) (fun _ h9 => h9) rfl (tyX1_ok 1 (by decide)) rfl rfl (Nat.le_of_ble_eq_true rfl) dX1_copyFrom_13 (fun H locs hP hD hS => ?_)
  have hP : va_P D vwCl (wsB B cI cS (upd (upd I 7 (I 3)) 8 (I 4)) F) H := hP
  have hD : va_D (FPw (wsB B cI cS I F)) (wsB B cI cS (upd (upd I 7 (I 3)) 8 (I 4)) F) := hD
  refine lv_aload_n hx hb dX1_copyFrom_16 rfl (lv_at hl 0 rfl) ?_
  refine lv_aload_n hx hb dX1_copyFrom_17 rfl (lv_at hl 1 rfl) ?_
  refine va_get (D := D) (ci := 1) (v := .int (I 5)) (C := RX1) (T := TX1) (N := 8) hx hb hts inlX1 hown hK hP 3 rfl rfl 2 (by decide) (hts _ kw_40) (fun _ h9 => h9) rfl dX1_copyFrom_18 ?_
  refine va_put (D := D) (ci := 1) (v := .int (I 5)) (ty := tyX1 2) (C := RX1) (T := TX1) (N := 8) hx hb hts inlX1 tyX1 tyX1_ok nmX1 hown hK hP hD hS 4 rfl rfl 2 (by decide) (hts _ kw_40) (fun _ h9 => h9) rfl (tyX1_ok 2 (by decide)) rfl rfl (Nat.le_of_ble_eq_true rfl) dX1_copyFrom_21 (fun H locs hP hD hS => ?_)
  have hP : va_P D vwCl (wsB B cI cS (upd (upd (upd I 7 (I 3)) 8 (I 4)) 9 (I 5)) F) H := hP
  have hD : va_D (FPw (wsB B cI cS I F)) (wsB B cI cS (upd (upd (upd I 7 (I 3)) 8 (I 4)) 9 (I 5)) F) := hD
  refine lv_aload_n hx hb dX1_copyFrom_24 rfl (lv_at hl 0 rfl) ?_
  refine lv_aload_n hx hb dX1_copyFrom_25 rfl (lv_at hl 1 rfl) ?_
  refine va_get (D := D) (ci := 1) (v := .int (I 6)) (C := RX1) (T := TX1) (N := 8) hx hb hts inlX1 hown hK hP 3 rfl rfl 3 (by decide) (hts _ kw_41) (fun _ h9 => h9) rfl dX1_copyFrom_26 ?_
  refine va_put (D := D) (ci := 1) (v := .int (I 6)) (ty := tyX1 3) (C := RX1) (T := TX1) (N := 8) hx hb hts inlX1 tyX1 tyX1_ok nmX1 hown hK hP hD hS 4 rfl rfl 3 (by decide) (hts _ kw_41) (fun _ h9 => h9) rfl (tyX1_ok 3 (by decide)) rfl rfl (Nat.le_of_ble_eq_true rfl) dX1_copyFrom_29 (fun H locs hP hD hS => ?_)
  have hP : va_P D vwCl (wsB B cI cS (upd (upd (upd (upd I 7 (I 3)) 8 (I 4)) 9 (I 5)) 10 (I 6)) F) H := hP
  have hD : va_D (FPw (wsB B cI cS I F)) (wsB B cI cS (upd (upd (upd (upd I 7 (I 3)) 8 (I 4)) 9 (I 5)) 10 (I 6)) F) := hD
  refine lv_aload_n hx hb dX1_copyFrom_32 rfl (lv_at hl 1 rfl) ?_
  refine va_get (D := D) (ci := 1) (v := .ref (B 8)) (C := RX1) (T := TX1) (N := 8) hx hb hts inlX1 hown hK hP 3 rfl rfl 4 (by decide) (hts _ kw_42) (fun _ h9 => h9) rfl dX1_copyFrom_33 ?_
  refine lv_aload_n hx hb dX1_copyFrom_36 rfl (lv_at hl 0 rfl) ?_
  refine va_get (D := D) (ci := 1) (v := .ref (B 12)) (C := RX1) (T := TX1) (N := 8) hx hb hts inlX1 hown hK hP 4 rfl rfl 4 (by decide) (hts _ kw_42) (fun _ h9 => h9) rfl dX1_copyFrom_37 ?_
  refine wcSNv (As := [.ref (B 8), .ref (B 12)]) (rest := []) hx hb hml hown hts hKK hP hD hS (c_X3_copyRow_8_12 l D cI cB cS ) ⟨va_cnB 2 hts (Wm_good kw_544) rfl rfl rfl (nfM_2 hN) (hts _ kw_3) (by decide +kernel) ⟨Nat.le_of_ble_eq_true rfl, Nat.le_of_ble_eq_true rfl⟩, hts _ kw_543, trivial⟩ rfl hl.1 rfl (Nat.le_of_ble_eq_true rfl) ⟨Nat.zero_le _, Nat.zero_le _⟩ dX1_copyFrom_40 (fun H locs hP hS => ?_)
  have hP : va_P D vwCl (wsB B cI cS (upd (upd (upd (upd I 7 (I 3)) 8 (I 4)) 9 (I 5)) 10 (I 6)) (va_up F 12 (rowN (F 8) (F 12) 10))) H := hP
  have hD : va_D (FPw (wsB B cI cS I F)) (wsB B cI cS (upd (upd (upd (upd I 7 (I 3)) 8 (I 4)) 9 (I 5)) 10 (I 6)) (va_up F 12 (rowN (F 8) (F 12) 10))) := va_D_addr (ws := (wsB B cI cS (upd (upd (upd (upd I 7 (I 3)) 8 (I 4)) 9 (I 5)) 10 (I 6)) F)) rfl hD
  refine lv_aload_n hx hb dX1_copyFrom_43 rfl (lv_at hl 1 rfl) ?_
  refine va_get (D := D) (ci := 1) (v := .ref (B 9)) (C := RX1) (T := TX1) (N := 8) hx hb hts inlX1 hown hK hP 3 rfl rfl 5 (by decide) (hts _ kw_43) (fun _ h9 => h9) rfl dX1_copyFrom_44 ?_
  refine lv_aload_n hx hb dX1_copyFrom_47 rfl (lv_at hl 0 rfl) ?_
  refine va_get (D := D) (ci := 1) (v := .ref (B 13)) (C := RX1) (T := TX1) (N := 8) hx hb hts inlX1 hown hK hP 4 rfl rfl 5 (by decide) (hts _ kw_43) (fun _ h9 => h9) rfl dX1_copyFrom_48 ?_
  refine wcSNv (As := [.ref (B 9), .ref (B 13)]) (rest := []) hx hb hml hown hts hKK hP hD hS (c_X3_copyRow_9_13 l D cI cB cS ) ⟨va_cnB 2 hts (Wm_good kw_544) rfl rfl rfl (nfM_2 hN) (hts _ kw_3) (by decide +kernel) ⟨Nat.le_of_ble_eq_true rfl, Nat.le_of_ble_eq_true rfl⟩, hts _ kw_543, trivial⟩ rfl hl.1 rfl (Nat.le_of_ble_eq_true rfl) ⟨Nat.zero_le _, Nat.zero_le _⟩ dX1_copyFrom_51 (fun H locs hP hS => ?_)
  have hP : va_P D vwCl (wsB B cI cS (upd (upd (upd (upd I 7 (I 3)) 8 (I 4)) 9 (I 5)) 10 (I 6)) (va_up (va_up F 12 (rowN (F 8) (F 12) 10)) 13 (rowN (F 9) (F 13) 6))) H := hP
  have hD : va_D (FPw (wsB B cI cS I F)) (wsB B cI cS (upd (upd (upd (upd I 7 (I 3)) 8 (I 4)) 9 (I 5)) 10 (I 6)) (va_up (va_up F 12 (rowN (F 8) (F 12) 10)) 13 (rowN (F 9) (F 13) 6))) := va_D_addr (ws := (wsB B cI cS (upd (upd (upd (upd I 7 (I 3)) 8 (I 4)) 9 (I 5)) 10 (I 6)) (va_up F 12 (rowN (F 8) (F 12) 10)))) rfl hD
  refine lv_aload_n hx hb dX1_copyFrom_54 rfl (lv_at hl 1 rfl) ?_
  refine va_get (D := D) (ci := 1) (v := .ref (B 10)) (C := RX1) (T := TX1) (N := 8) hx hb hts inlX1 hown hK hP 3 rfl rfl 6 (by decide) (hts _ kw_44) (fun _ h9 => h9) rfl dX1_copyFrom_55 ?_
  refine lv_aload_n hx hb dX1_copyFrom_58 rfl (lv_at hl 0 rfl) ?_
  refine va_get (D := D) (ci := 1) (v := .ref (B 14)) (C := RX1) (T := TX1) (N := 8) hx hb hts inlX1 hown hK hP 4 rfl rfl 6 (by decide) (hts _ kw_44) (fun _ h9 => h9) rfl dX1_copyFrom_59 ?_
  refine wcSNv (As := [.ref (B 10), .ref (B 14)]) (rest := []) hx hb hml hown hts hKK hP hD hS (c_X3_copyRow_10_14 l D cI cB cS ) ⟨va_cnB 2 hts (Wm_good kw_544) rfl rfl rfl (nfM_2 hN) (hts _ kw_3) (by decide +kernel) ⟨Nat.le_of_ble_eq_true rfl, Nat.le_of_ble_eq_true rfl⟩, hts _ kw_543, trivial⟩ rfl hl.1 rfl (Nat.le_of_ble_eq_true rfl) ⟨Nat.zero_le _, Nat.zero_le _⟩ dX1_copyFrom_62 (fun H locs hP hS => ?_)
  have hP : va_P D vwCl (wsB B cI cS (upd (upd (upd (upd I 7 (I 3)) 8 (I 4)) 9 (I 5)) 10 (I 6)) (va_up (va_up (va_up F 12 (rowN (F 8) (F 12) 10)) 13 (rowN (F 9) (F 13) 6)) 14 (rowN (F 10) (F 14) 6))) H := hP
  have hD : va_D (FPw (wsB B cI cS I F)) (wsB B cI cS (upd (upd (upd (upd I 7 (I 3)) 8 (I 4)) 9 (I 5)) 10 (I 6)) (va_up (va_up (va_up F 12 (rowN (F 8) (F 12) 10)) 13 (rowN (F 9) (F 13) 6)) 14 (rowN (F 10) (F 14) 6))) := va_D_addr (ws := (wsB B cI cS (upd (upd (upd (upd I 7 (I 3)) 8 (I 4)) 9 (I 5)) 10 (I 6)) (va_up (va_up F 12 (rowN (F 8) (F 12) 10)) 13 (rowN (F 9) (F 13) 6)))) rfl hD
  refine lv_aload_n hx hb dX1_copyFrom_65 rfl (lv_at hl 1 rfl) ?_
  refine va_get (D := D) (ci := 1) (v := .ref (B 11)) (C := RX1) (T := TX1) (N := 8) hx hb hts inlX1 hown hK hP 3 rfl rfl 7 (by decide) (hts _ kw_45) (fun _ h9 => h9) rfl dX1_copyFrom_66 ?_
  refine lv_aload_n hx hb dX1_copyFrom_69 rfl (lv_at hl 0 rfl) ?_
  refine va_get (D := D) (ci := 1) (v := .ref (B 15)) (C := RX1) (T := TX1) (N := 8) hx hb hts inlX1 hown hK hP 4 rfl rfl 7 (by decide) (hts _ kw_45) (fun _ h9 => h9) rfl dX1_copyFrom_70 ?_
  refine wcSNv (As := [.ref (B 11), .ref (B 15)]) (rest := []) hx hb hml hown hts hKK hP hD hS (c_X3_copyRow_11_15 l D cI cB cS ) ⟨va_cnB 2 hts (Wm_good kw_544) rfl rfl rfl (nfM_2 hN) (hts _ kw_3) (by decide +kernel) ⟨Nat.le_of_ble_eq_true rfl, Nat.le_of_ble_eq_true rfl⟩, hts _ kw_543, trivial⟩ rfl hl.1 rfl (Nat.le_of_ble_eq_true rfl) ⟨Nat.zero_le _, Nat.zero_le _⟩ dX1_copyFrom_73 (fun H locs hP hS => ?_)
  have hP : va_P D vwCl (wsB B cI cS (upd (upd (upd (upd I 7 (I 3)) 8 (I 4)) 9 (I 5)) 10 (I 6)) (va_up (va_up (va_up (va_up F 12 (rowN (F 8) (F 12) 10)) 13 (rowN (F 9) (F 13) 6)) 14 (rowN (F 10) (F 14) 6)) 15 (rowN (F 11) (F 15) 6))) H := hP
  have hD : va_D (FPw (wsB B cI cS I F)) (wsB B cI cS (upd (upd (upd (upd I 7 (I 3)) 8 (I 4)) 9 (I 5)) 10 (I 6)) (va_up (va_up (va_up (va_up F 12 (rowN (F 8) (F 12) 10)) 13 (rowN (F 9) (F 13) 6)) 14 (rowN (F 10) (F 14) 6)) 15 (rowN (F 11) (F 15) 6))) := va_D_addr (ws := (wsB B cI cS (upd (upd (upd (upd I 7 (I 3)) 8 (I 4)) 9 (I 5)) 10 (I 6)) (va_up (va_up (va_up F 12 (rowN (F 8) (F 12) 10)) 13 (rowN (F 9) (F 13) 6)) 14 (rowN (F 10) (F 14) 6)))) rfl hD
  exact retWv hx hb hr hlk hP hS dX1_copyFrom_76 rfl
set_option maxHeartbeats 4000000 in
set_option maxRecDepth 100000 in
theorem c_X1_copyFrom_now (l : Launch) (D : va_G) (cI cB cS : ClassId) {B : Nat → Nat} {I : Nat → Int32} {F : Nat → Nat → Int32} : Met l yX1_copyFrom (Wm yX1_copyFrom cX1_copyFrom 2 none) ({ frames := 1, cells := 0, slots := 0, locals := 22 }) (va_Pc [.ref (B 3), .ref (B 4)] (PW D (TYS cI cB cS) (wsB B cI cS I F))) (QcW D none (wsB B cI cS I F) (wsB B cI cS (upd (upd (upd (upd I 3 (I 7)) 4 (I 8)) 5 (I 9)) 6 (I 10)) (va_up (va_up (va_up (va_up F 8 (rowN (F 12) (F 8) 10)) 9 (rowN (F 13) (F 9) 6)) 10 (rowN (F 14) (F 10) 6)) 11 (rowN (F 15) (F 11) 6)))) 0 0 (FPw (wsB B cI cS I F)) := by
  refine metW (by decide) [.ref (B 3), .ref (B 4)] (Nat.le_of_ble_eq_true rfl) ?_
  intro p e s m args below meth c hx hb hml hr hlk hown hts hKK hP hD hS ls hl
  obtain ⟨hK, hN⟩ := id hKK
  have hl : lv_has ls 2 [(0, .ref (B 3)), (1, .ref (B 4))] := hl
  refine lv_aload_n hx hb dX1_copyFrom_0 rfl (lv_at hl 0 rfl) ?_
  refine lv_aload_n hx hb dX1_copyFrom_1 rfl (lv_at hl 1 rfl) ?_
  refine va_get (D := D) (ci := 1) (v := .int (I 7)) (C := RX1) (T := TX1) (N := 8) hx hb hts inlX1 hown hK hP 4 rfl rfl 0 (by decide) (hts _ kw_38) (fun _ h9 => h9) rfl dX1_copyFrom_2 ?_
  refine va_put (D := D) (ci := 1) (v := .int (I 7)) (ty := tyX1 0) (C := RX1) (T := TX1) (N := 8) hx hb hts inlX1 tyX1 tyX1_ok nmX1 hown hK hP hD hS 3 rfl rfl 0 (by decide) (hts _ kw_38) (fun _ h9 => h9) rfl (tyX1_ok 0 (by decide)) rfl rfl (Nat.le_of_ble_eq_true rfl) dX1_copyFrom_5 (fun H locs hP hD hS => ?_)
  have hP : va_P D vwCl (wsB B cI cS (upd I 3 (I 7)) F) H := hP
  have hD : va_D (FPw (wsB B cI cS I F)) (wsB B cI cS (upd I 3 (I 7)) F) := hD
  refine lv_aload_n hx hb dX1_copyFrom_8 rfl (lv_at hl 0 rfl) ?_
  refine lv_aload_n hx hb dX1_copyFrom_9 rfl (lv_at hl 1 rfl) ?_
  refine va_get (D := D) (ci := 1) (v := .int (I 8)) (C := RX1) (T := TX1) (N := 8) hx hb hts inlX1 hown hK hP 4 rfl rfl 1 (by decide) (hts _ kw_39) (fun _ h9 => h9) rfl dX1_copyFrom_10 ?_
  refine va_put (D := D) (ci := 1) (v := .int (I 8)) (ty := tyX1 1) (C := RX1) (T := TX1) (N := 8) hx hb hts inlX1 tyX1 tyX1_ok nmX1 hown hK hP hD hS 3 rfl rfl 1 (by decide) (hts _ kw_39) (fun _ h9 => h9) rfl (tyX1_ok 1 (by decide)) rfl rfl (Nat.le_of_ble_eq_true rfl) dX1_copyFrom_13 (fun H locs hP hD hS => ?_)
  have hP : va_P D vwCl (wsB B cI cS (upd (upd I 3 (I 7)) 4 (I 8)) F) H := hP
  have hD : va_D (FPw (wsB B cI cS I F)) (wsB B cI cS (upd (upd I 3 (I 7)) 4 (I 8)) F) := hD
  refine lv_aload_n hx hb dX1_copyFrom_16 rfl (lv_at hl 0 rfl) ?_
  refine lv_aload_n hx hb dX1_copyFrom_17 rfl (lv_at hl 1 rfl) ?_
  refine va_get (D := D) (ci := 1) (v := .int (I 9)) (C := RX1) (T := TX1) (N := 8) hx hb hts inlX1 hown hK hP 4 rfl rfl 2 (by decide) (hts _ kw_40) (fun _ h9 => h9) rfl dX1_copyFrom_18 ?_
  refine va_put (D := D) (ci := 1) (v := .int (I 9)) (ty := tyX1 2) (C := RX1) (T := TX1) (N := 8) hx hb hts inlX1 tyX1 tyX1_ok nmX1 hown hK hP hD hS 3 rfl rfl 2 (by decide) (hts _ kw_40) (fun _ h9 => h9) rfl (tyX1_ok 2 (by decide)) rfl rfl (Nat.le_of_ble_eq_true rfl) dX1_copyFrom_21 (fun H locs hP hD hS => ?_)
  have hP : va_P D vwCl (wsB B cI cS (upd (upd (upd I 3 (I 7)) 4 (I 8)) 5 (I 9)) F) H := hP
  have hD : va_D (FPw (wsB B cI cS I F)) (wsB B cI cS (upd (upd (upd I 3 (I 7)) 4 (I 8)) 5 (I 9)) F) := hD
  refine lv_aload_n hx hb dX1_copyFrom_24 rfl (lv_at hl 0 rfl) ?_
  refine lv_aload_n hx hb dX1_copyFrom_25 rfl (lv_at hl 1 rfl) ?_
  refine va_get (D := D) (ci := 1) (v := .int (I 10)) (C := RX1) (T := TX1) (N := 8) hx hb hts inlX1 hown hK hP 4 rfl rfl 3 (by decide) (hts _ kw_41) (fun _ h9 => h9) rfl dX1_copyFrom_26 ?_
  refine va_put (D := D) (ci := 1) (v := .int (I 10)) (ty := tyX1 3) (C := RX1) (T := TX1) (N := 8) hx hb hts inlX1 tyX1 tyX1_ok nmX1 hown hK hP hD hS 3 rfl rfl 3 (by decide) (hts _ kw_41) (fun _ h9 => h9) rfl (tyX1_ok 3 (by decide)) rfl rfl (Nat.le_of_ble_eq_true rfl) dX1_copyFrom_29 (fun H locs hP hD hS => ?_)
  have hP : va_P D vwCl (wsB B cI cS (upd (upd (upd (upd I 3 (I 7)) 4 (I 8)) 5 (I 9)) 6 (I 10)) F) H := hP
  have hD : va_D (FPw (wsB B cI cS I F)) (wsB B cI cS (upd (upd (upd (upd I 3 (I 7)) 4 (I 8)) 5 (I 9)) 6 (I 10)) F) := hD
  refine lv_aload_n hx hb dX1_copyFrom_32 rfl (lv_at hl 1 rfl) ?_
  refine va_get (D := D) (ci := 1) (v := .ref (B 12)) (C := RX1) (T := TX1) (N := 8) hx hb hts inlX1 hown hK hP 4 rfl rfl 4 (by decide) (hts _ kw_42) (fun _ h9 => h9) rfl dX1_copyFrom_33 ?_
  refine lv_aload_n hx hb dX1_copyFrom_36 rfl (lv_at hl 0 rfl) ?_
  refine va_get (D := D) (ci := 1) (v := .ref (B 8)) (C := RX1) (T := TX1) (N := 8) hx hb hts inlX1 hown hK hP 3 rfl rfl 4 (by decide) (hts _ kw_42) (fun _ h9 => h9) rfl dX1_copyFrom_37 ?_
  refine wcSNv (As := [.ref (B 12), .ref (B 8)]) (rest := []) hx hb hml hown hts hKK hP hD hS (c_X3_copyRow_12_8 l D cI cB cS ) ⟨va_cnB 2 hts (Wm_good kw_544) rfl rfl rfl (nfM_2 hN) (hts _ kw_3) (by decide +kernel) ⟨Nat.le_of_ble_eq_true rfl, Nat.le_of_ble_eq_true rfl⟩, hts _ kw_543, trivial⟩ rfl hl.1 rfl (Nat.le_of_ble_eq_true rfl) ⟨Nat.zero_le _, Nat.zero_le _⟩ dX1_copyFrom_40 (fun H locs hP hS => ?_)
  have hP : va_P D vwCl (wsB B cI cS (upd (upd (upd (upd I 3 (I 7)) 4 (I 8)) 5 (I 9)) 6 (I 10)) (va_up F 8 (rowN (F 12) (F 8) 10))) H := hP
  have hD : va_D (FPw (wsB B cI cS I F)) (wsB B cI cS (upd (upd (upd (upd I 3 (I 7)) 4 (I 8)) 5 (I 9)) 6 (I 10)) (va_up F 8 (rowN (F 12) (F 8) 10))) := va_D_addr (ws := (wsB B cI cS (upd (upd (upd (upd I 3 (I 7)) 4 (I 8)) 5 (I 9)) 6 (I 10)) F)) rfl hD
  refine lv_aload_n hx hb dX1_copyFrom_43 rfl (lv_at hl 1 rfl) ?_
  refine va_get (D := D) (ci := 1) (v := .ref (B 13)) (C := RX1) (T := TX1) (N := 8) hx hb hts inlX1 hown hK hP 4 rfl rfl 5 (by decide) (hts _ kw_43) (fun _ h9 => h9) rfl dX1_copyFrom_44 ?_
  refine lv_aload_n hx hb dX1_copyFrom_47 rfl (lv_at hl 0 rfl) ?_
  refine va_get (D := D) (ci := 1) (v := .ref (B 9)) (C := RX1) (T := TX1) (N := 8) hx hb hts inlX1 hown hK hP 3 rfl rfl 5 (by decide) (hts _ kw_43) (fun _ h9 => h9) rfl dX1_copyFrom_48 ?_
  refine wcSNv (As := [.ref (B 13), .ref (B 9)]) (rest := []) hx hb hml hown hts hKK hP hD hS (c_X3_copyRow_13_9 l D cI cB cS ) ⟨va_cnB 2 hts (Wm_good kw_544) rfl rfl rfl (nfM_2 hN) (hts _ kw_3) (by decide +kernel) ⟨Nat.le_of_ble_eq_true rfl, Nat.le_of_ble_eq_true rfl⟩, hts _ kw_543, trivial⟩ rfl hl.1 rfl (Nat.le_of_ble_eq_true rfl) ⟨Nat.zero_le _, Nat.zero_le _⟩ dX1_copyFrom_51 (fun H locs hP hS => ?_)
  have hP : va_P D vwCl (wsB B cI cS (upd (upd (upd (upd I 3 (I 7)) 4 (I 8)) 5 (I 9)) 6 (I 10)) (va_up (va_up F 8 (rowN (F 12) (F 8) 10)) 9 (rowN (F 13) (F 9) 6))) H := hP
  have hD : va_D (FPw (wsB B cI cS I F)) (wsB B cI cS (upd (upd (upd (upd I 3 (I 7)) 4 (I 8)) 5 (I 9)) 6 (I 10)) (va_up (va_up F 8 (rowN (F 12) (F 8) 10)) 9 (rowN (F 13) (F 9) 6))) := va_D_addr (ws := (wsB B cI cS (upd (upd (upd (upd I 3 (I 7)) 4 (I 8)) 5 (I 9)) 6 (I 10)) (va_up F 8 (rowN (F 12) (F 8) 10)))) rfl hD
  refine lv_aload_n hx hb dX1_copyFrom_54 rfl (lv_at hl 1 rfl) ?_
  refine va_get (D := D) (ci := 1) (v := .ref (B 14)) (C := RX1) (T := TX1) (N := 8) hx hb hts inlX1 hown hK hP 4 rfl rfl 6 (by decide) (hts _ kw_44) (fun _ h9 => h9) rfl dX1_copyFrom_55 ?_
  refine lv_aload_n hx hb dX1_copyFrom_58 rfl (lv_at hl 0 rfl) ?_
  refine va_get (D := D) (ci := 1) (v := .ref (B 10)) (C := RX1) (T := TX1) (N := 8) hx hb hts inlX1 hown hK hP 3 rfl rfl 6 (by decide) (hts _ kw_44) (fun _ h9 => h9) rfl dX1_copyFrom_59 ?_
  refine wcSNv (As := [.ref (B 14), .ref (B 10)]) (rest := []) hx hb hml hown hts hKK hP hD hS (c_X3_copyRow_14_10 l D cI cB cS ) ⟨va_cnB 2 hts (Wm_good kw_544) rfl rfl rfl (nfM_2 hN) (hts _ kw_3) (by decide +kernel) ⟨Nat.le_of_ble_eq_true rfl, Nat.le_of_ble_eq_true rfl⟩, hts _ kw_543, trivial⟩ rfl hl.1 rfl (Nat.le_of_ble_eq_true rfl) ⟨Nat.zero_le _, Nat.zero_le _⟩ dX1_copyFrom_62 (fun H locs hP hS => ?_)
  have hP : va_P D vwCl (wsB B cI cS (upd (upd (upd (upd I 3 (I 7)) 4 (I 8)) 5 (I 9)) 6 (I 10)) (va_up (va_up (va_up F 8 (rowN (F 12) (F 8) 10)) 9 (rowN (F 13) (F 9) 6)) 10 (rowN (F 14) (F 10) 6))) H := hP
  have hD : va_D (FPw (wsB B cI cS I F)) (wsB B cI cS (upd (upd (upd (upd I 3 (I 7)) 4 (I 8)) 5 (I 9)) 6 (I 10)) (va_up (va_up (va_up F 8 (rowN (F 12) (F 8) 10)) 9 (rowN (F 13) (F 9) 6)) 10 (rowN (F 14) (F 10) 6))) := va_D_addr (ws := (wsB B cI cS (upd (upd (upd (upd I 3 (I 7)) 4 (I 8)) 5 (I 9)) 6 (I 10)) (va_up (va_up F 8 (rowN (F 12) (F 8) 10)) 9 (rowN (F 13) (F 9) 6)))) rfl hD
  refine lv_aload_n hx hb dX1_copyFrom_65 rfl (lv_at hl 1 rfl) ?_
  refine va_get (D := D) (ci := 1) (v := .ref (B 15)) (C := RX1) (T := TX1) (N := 8) hx hb hts inlX1 hown hK hP 4 rfl rfl 7 (by decide) (hts _ kw_45) (fun _ h9 => h9) rfl dX1_copyFrom_66 ?_
  refine lv_aload_n hx hb dX1_copyFrom_69 rfl (lv_at hl 0 rfl) ?_
  refine va_get (D := D) (ci := 1) (v := .ref (B 11)) (C := RX1) (T := TX1) (N := 8) hx hb hts inlX1 hown hK hP 3 rfl rfl 7 (by decide) (hts _ kw_45) (fun _ h9 => h9) rfl dX1_copyFrom_70 ?_
  refine wcSNv (As := [.ref (B 15), .ref (B 11)]) (rest := []) hx hb hml hown hts hKK hP hD hS (c_X3_copyRow_15_11 l D cI cB cS ) ⟨va_cnB 2 hts (Wm_good kw_544) rfl rfl rfl (nfM_2 hN) (hts _ kw_3) (by decide +kernel) ⟨Nat.le_of_ble_eq_true rfl, Nat.le_of_ble_eq_true rfl⟩, hts _ kw_543, trivial⟩ rfl hl.1 rfl (Nat.le_of_ble_eq_true rfl) ⟨Nat.zero_le _, Nat.zero_le _⟩ dX1_copyFrom_73 (fun H locs hP hS => ?_)
  have hP : va_P D vwCl (wsB B cI cS (upd (upd (upd (upd I 3 (I 7)) 4 (I 8)) 5 (I 9)) 6 (I 10)) (va_up (va_up (va_up (va_up F 8 (rowN (F 12) (F 8) 10)) 9 (rowN (F 13) (F 9) 6)) 10 (rowN (F 14) (F 10) 6)) 11 (rowN (F 15) (F 11) 6))) H := hP
  have hD : va_D (FPw (wsB B cI cS I F)) (wsB B cI cS (upd (upd (upd (upd I 3 (I 7)) 4 (I 8)) 5 (I 9)) 6 (I 10)) (va_up (va_up (va_up (va_up F 8 (rowN (F 12) (F 8) 10)) 9 (rowN (F 13) (F 9) 6)) 10 (rowN (F 14) (F 10) 6)) 11 (rowN (F 15) (F 11) 6))) := va_D_addr (ws := (wsB B cI cS (upd (upd (upd (upd I 3 (I 7)) 4 (I 8)) 5 (I 9)) 6 (I 10)) (va_up (va_up (va_up F 8 (rowN (F 12) (F 8) 10)) 9 (rowN (F 13) (F 9) 6)) 10 (rowN (F 14) (F 10) 6)))) rfl hD
  exact retWv hx hb hr hlk hP hS dX1_copyFrom_76 rfl
set_option maxHeartbeats 4000000 in
set_option maxRecDepth 100000 in
theorem c_X1_begin (l : Launch) (D : va_G) (cI cB cS : ClassId) {B : Nat → Nat} {I : Nat → Int32} {F : Nat → Nat → Int32} (p0 : Int32) : Met l yX1_begin (Wm yX1_begin cX1_begin 3 none) ({ frames := 0, cells := 0, slots := 0, locals := 0 }) (va_Pc [.ref (B 3), .int p0] (PW D (TYS cI cB cS) (wsB B cI cS I F))) (QcW D none (wsB B cI cS I F) (wsB B cI cS (upd (upd (upd (upd I 3 p0) 4 0) 5 0) 6 0) (va_up F 8 (rowN (fun _ => 0) (F 8) 10)))) 0 0 (FPw (wsB B cI cS I F)) := by
  refine metW (by decide) [.ref (B 3), .int p0] (Nat.le_of_ble_eq_true rfl) ?_
  intro p e s m args below meth c hx hb hml hr hlk hown hts hKK hP hD hS ls hl
  obtain ⟨hK, hN⟩ := id hKK
  have hl : lv_has ls 3 [(0, .ref (B 3)), (1, .int p0)] := hl
  refine lv_aload_n hx hb dX1_begin_0 rfl (lv_at hl 0 rfl) ?_
  refine lv_iload_n hx hb dX1_begin_1 rfl (lv_at hl 1 rfl) ?_
  refine va_put (D := D) (ci := 1) (v := .int p0) (ty := tyX1 0) (C := RX1) (T := TX1) (N := 8) hx hb hts inlX1 tyX1 tyX1_ok nmX1 hown hK hP hD hS 3 rfl rfl 0 (by decide) (hts _ kw_38) (fun _ h9 => h9) rfl (tyX1_ok 0 (by decide)) rfl rfl (Nat.le_of_ble_eq_true rfl) dX1_begin_2 (fun H locs hP hD hS => ?_)
  have hP : va_P D vwCl (wsB B cI cS (upd I 3 p0) F) H := hP
  have hD : va_D (FPw (wsB B cI cS I F)) (wsB B cI cS (upd I 3 p0) F) := hD
  refine lv_aload_n hx hb dX1_begin_5 rfl (lv_at hl 0 rfl) ?_
  refine lv_iconst (v := (0 : Int32)) hx hb dX1_begin_6 (by decide) ?_
  refine va_put (D := D) (ci := 1) (v := .int (0 : Int32)) (ty := tyX1 1) (C := RX1) (T := TX1) (N := 8) hx hb hts inlX1 tyX1 tyX1_ok nmX1 hown hK hP hD hS 3 rfl rfl 1 (by decide) (hts _ kw_39) (fun _ h9 => h9) rfl (tyX1_ok 1 (by decide)) rfl rfl (Nat.le_of_ble_eq_true rfl) dX1_begin_7 (fun H locs hP hD hS => ?_)
  have hP : va_P D vwCl (wsB B cI cS (upd (upd I 3 p0) 4 (0 : Int32)) F) H := hP
  have hD : va_D (FPw (wsB B cI cS I F)) (wsB B cI cS (upd (upd I 3 p0) 4 (0 : Int32)) F) := hD
  refine lv_aload_n hx hb dX1_begin_10 rfl (lv_at hl 0 rfl) ?_
  refine lv_iconst (v := (0 : Int32)) hx hb dX1_begin_11 (by decide) ?_
  refine va_put (D := D) (ci := 1) (v := .int (0 : Int32)) (ty := tyX1 2) (C := RX1) (T := TX1) (N := 8) hx hb hts inlX1 tyX1 tyX1_ok nmX1 hown hK hP hD hS 3 rfl rfl 2 (by decide) (hts _ kw_40) (fun _ h9 => h9) rfl (tyX1_ok 2 (by decide)) rfl rfl (Nat.le_of_ble_eq_true rfl) dX1_begin_12 (fun H locs hP hD hS => ?_)
  have hP : va_P D vwCl (wsB B cI cS (upd (upd (upd I 3 p0) 4 (0 : Int32)) 5 (0 : Int32)) F) H := hP
  have hD : va_D (FPw (wsB B cI cS I F)) (wsB B cI cS (upd (upd (upd I 3 p0) 4 (0 : Int32)) 5 (0 : Int32)) F) := hD
  refine lv_aload_n hx hb dX1_begin_15 rfl (lv_at hl 0 rfl) ?_
  refine lv_iconst (v := (0 : Int32)) hx hb dX1_begin_16 (by decide) ?_
  refine va_put (D := D) (ci := 1) (v := .int (0 : Int32)) (ty := tyX1 3) (C := RX1) (T := TX1) (N := 8) hx hb hts inlX1 tyX1 tyX1_ok nmX1 hown hK hP hD hS 3 rfl rfl 3 (by decide) (hts _ kw_41) (fun _ h9 => h9) rfl (tyX1_ok 3 (by decide)) rfl rfl (Nat.le_of_ble_eq_true rfl) dX1_begin_17 (fun H locs hP hD hS => ?_)
  have hP : va_P D vwCl (wsB B cI cS (upd (upd (upd (upd I 3 p0) 4 (0 : Int32)) 5 (0 : Int32)) 6 (0 : Int32)) F) H := hP
  have hD : va_D (FPw (wsB B cI cS I F)) (wsB B cI cS (upd (upd (upd (upd I 3 p0) 4 (0 : Int32)) 5 (0 : Int32)) 6 (0 : Int32)) F) := hD
  refine lv_iconst (v := (0 : Int32)) hx hb dX1_begin_20 (by decide) ?_
  refine lv_istore_n (lv' := [(2, .int (0 : Int32)), (0, .ref (B 3)), (1, .int p0)]) hx hb dX1_begin_21 rfl hl (by decide) rfl (fun ls hl => ?_)
  have loop_22 : ∀ (z : Nat) (k : Nat) (x2 : Int32), x2 = nI k → (k ≤ 10) → 10 - k < z → ∀ (H : Heap) (locs : List Loc), va_P D vwCl (wsB B cI cS (upd (upd (upd (upd I 3 p0) 4 (0 : Int32)) 5 (0 : Int32)) 6 (0 : Int32)) (va_up F 8 (rowN (fun _ => 0) (F 8) k))) H → va_S (FPw (wsB B cI cS I F)) s.heap H locs → ∀ (ls : Array Slot), lv_has ls 3 [(0, .ref (B 3)), (1, .int p0), (2, .int x2)] → W p l e ({ frames := 0, cells := 0, slots := 0, locals := 0 } : Room) s m args below meth c H locs 0 0 (MQ below (QcW D none (wsB B cI cS I F) (wsB B cI cS (upd (upd (upd (upd I 3 p0) 4 0) 5 0) 6 0) (va_up F 8 (rowN (fun _ => 0) (F 8) 10)))) args s 0 0 (FPw (wsB B cI cS I F))) (F0 m 22 ls []) := by
    intro z
    induction z with
    | zero =>
      intro k x2 ex2 hk hz
      exact absurd hz (Nat.not_lt_zero _)
    | succ z ih_22 =>
      intro k x2 ex2 hk hz H locs hP hS ls hl
      subst ex2
      have hD := va_D_addr (ws := (wsB B cI cS (upd (upd (upd (upd I 3 p0) 4 (0 : Int32)) 5 (0 : Int32)) 6 (0 : Int32)) F)) (ws' := (wsB B cI cS (upd (upd (upd (upd I 3 p0) 4 (0 : Int32)) 5 (0 : Int32)) 6 (0 : Int32)) (va_up F 8 (rowN (fun _ => 0) (F 8) k)))) rfl hD
      refine lv_iload_n hx hb dX1_begin_22 rfl (lv_at hl 2 rfl) ?_
      refine lv_aload_n hx hb dX1_begin_23 rfl (lv_at hl 0 rfl) ?_
      refine va_get (D := D) (ci := 1) (v := .ref (B 8)) (C := RX1) (T := TX1) (N := 8) hx hb hts inlX1 hown hK hP 3 rfl rfl 4 (by decide) (hts _ kw_42) (fun _ h9 => h9) rfl dX1_begin_24 ?_
      refine va_alen (D := D) hx hb hK hP 8 0 rfl rfl (v := (10 : Int32)) rfl dX1_begin_27 ?_
      refine lv_icmp_ge (tgt := 44) hx hb dX1_begin_28 (by decide) (fun c_1 => ?_) (fun c_1 => ?_)
      · have nc_1 : 10 ≤ k := (nI_leI (a := 10) (b := k) (by omega) (by omega)).mp c_1
        exact retWv hx hb hr hlk hP hS dX1_begin_44 (by have hkn : k = 10 := (by omega); subst hkn; rfl)
      · have nc_1 : ¬ 10 ≤ k := fun h => c_1 ((nI_leI (a := 10) (b := k) (by omega) (by omega)).mpr h)
        refine lv_aload_n hx hb dX1_begin_31 rfl (lv_at hl 0 rfl) ?_
        refine va_get (D := D) (ci := 1) (v := .ref (B 8)) (C := RX1) (T := TX1) (N := 8) hx hb hts inlX1 hown hK hP 3 rfl rfl 4 (by decide) (hts _ kw_42) (fun _ h9 => h9) rfl dX1_begin_32 ?_
        refine lv_iload_n hx hb dX1_begin_35 rfl (lv_at hl 2 rfl) ?_
        refine lv_iconst (v := (0 : Int32)) hx hb dX1_begin_36 (by decide) ?_
        refine va_iast (D := D) hx hb hK hP hD hS 8 0 rfl rfl (vp_in_nI (by omega) (by omega)) dX1_begin_37 (fun H locs hP hD hS => ?_)
        rw [nI_clamp (n := k) (by omega)] at hP hD
        have hP : va_P D vwCl (wsB B cI cS (upd (upd (upd (upd I 3 p0) 4 (0 : Int32)) 5 (0 : Int32)) 6 (0 : Int32)) (va_up F 8 (upd (rowN (fun _ => 0) (F 8) k) k (0 : Int32)))) H := hP
        have hD : va_D (FPw (wsB B cI cS I F)) (wsB B cI cS (upd (upd (upd (upd I 3 p0) 4 (0 : Int32)) 5 (0 : Int32)) 6 (0 : Int32)) (va_up F 8 (upd (rowN (fun _ => 0) (F 8) k) k (0 : Int32)))) := hD
        refine lv_iinc (v := (nI (k + 1))) (lv' := [(2, .int (nI (k + 1))), (0, .ref (B 3)), (1, .int p0)]) hx hb dX1_begin_38 hl (k := 2) rfl (nI_add k 1) (by decide) rfl (fun ls hl => ?_)
        refine lv_goto (tgt := 22) hx hb dX1_begin_41 (by decide) ?_
        have hP9 : va_P D vwCl (wsB B cI cS (upd (upd (upd (upd I 3 p0) 4 (0 : Int32)) 5 (0 : Int32)) 6 (0 : Int32)) (va_up F 8 (rowN (fun _ => 0) (F 8) (k + 1)))) H := by rw [← rowN_upd]; exact hP
        exact ih_22 (k + 1) (nI (k + 1)) rfl (by omega) (by omega) H locs hP9 hS ls (lv_sub hl [1, 2, 0] rfl)
  have hP9 : va_P D vwCl (wsB B cI cS (upd (upd (upd (upd I 3 p0) 4 (0 : Int32)) 5 (0 : Int32)) 6 (0 : Int32)) (va_up F 8 (rowN (fun _ => 0) (F 8) 0))) H := by rw [rowN_0]; exact hP
  exact loop_22 ((10 - 0) + 1) 0 (0 : Int32) rfl (by omega) (by omega) H locs hP9 hS ls (lv_sub hl [1, 2, 0] rfl)
set_option maxHeartbeats 4000000 in
set_option maxRecDepth 100000 in
theorem c_X2_become (l : Launch) (D : va_G) (cI cB cS : ClassId) {B : Nat → Nat} {I : Nat → Int32} {F : Nat → Nat → Int32} {k : Nat} (hk6 : k < 6) (p0 p1 p2 p3 : Int32) : Met l yX2_become (Wm yX2_become cX2_become 5 none) ({ frames := 1, cells := 0, slots := 0, locals := 21 }) (va_Pc [.ref (B (16 + k)), .int p0, .int p1, .int p2, .int p3] (PW D (TYS cI cB cS) (wsB B cI cS I F))) (QcW D none (wsB B cI cS I F) (wsB B cI cS I (va_up (va_up (va_up (va_up F 16 (upd (F 16) k p0)) 17 (upd (F 17) k p1)) 18 (upd (F 18) k (if 10 - p1 < p2 then 10 - p1 else p2))) 19 (upd (F 19) k p3)))) 0 0 (FPw (wsB B cI cS I F)) := by
  refine metW (by decide) [.ref (B (16 + k)), .int p0, .int p1, .int p2, .int p3] (Nat.le_of_ble_eq_true rfl) ?_
  intro p e s m args below meth c hx hb hml hr hlk hown hts hKK hP hD hS ls hl
  obtain ⟨hK, hN⟩ := id hKK
  have hl : lv_has ls 5 [(0, .ref (B (16 + k))), (1, .int p0), (2, .int p1), (3, .int p2), (4, .int p3)] := hl
  refine lv_aload_n hx hb dX2_become_0 rfl (lv_at hl 0 rfl) ?_
  refine lv_iload_n hx hb dX2_become_1 rfl (lv_at hl 1 rfl) ?_
  refine va_put (D := D) (ci := 2) (v := .int p0) (ty := tyX2 1) (C := RX2) (T := TX2) (N := 5) hx hb hts inlX2 tyX2 tyX2_ok nmX2 hown hK hP hD hS (16 + k) (wsB_st (by omega)) rfl 1 (by decide) (hts _ kw_50) (fun _ h9 => h9) rfl (tyX2_ok 1 (by decide)) rfl rfl (Nat.le_of_ble_eq_true rfl) dX2_become_2 (fun H locs hP hD hS => ?_)
  have hP : va_P D vwCl (wsB B cI cS I (va_up F 16 (upd (F 16) k p0))) H := by have e : _ = (wsB B cI cS I (va_up F 16 (upd (F 16) k p0))) := wsB_set16 (B := B) (cI := cI) (cS := cS) (I := I) (F := F) (k := k) (by omega) p0; rw [← e]; exact hP
  have hD : va_D (FPw (wsB B cI cS I F)) (wsB B cI cS I (va_up F 16 (upd (F 16) k p0))) := by have e : _ = (wsB B cI cS I (va_up F 16 (upd (F 16) k p0))) := wsB_set16 (B := B) (cI := cI) (cS := cS) (I := I) (F := F) (k := k) (by omega) p0; rw [← e]; exact hD
  refine lv_aload_n hx hb dX2_become_5 rfl (lv_at hl 0 rfl) ?_
  refine lv_iload_n hx hb dX2_become_6 rfl (lv_at hl 2 rfl) ?_
  refine va_put (D := D) (ci := 2) (v := .int p1) (ty := tyX2 2) (C := RX2) (T := TX2) (N := 5) hx hb hts inlX2 tyX2 tyX2_ok nmX2 hown hK hP hD hS (16 + k) (wsB_st (by omega)) rfl 2 (by decide) (hts _ kw_51) (fun _ h9 => h9) rfl (tyX2_ok 2 (by decide)) rfl rfl (Nat.le_of_ble_eq_true rfl) dX2_become_7 (fun H locs hP hD hS => ?_)
  have hP : va_P D vwCl (wsB B cI cS I (va_up (va_up F 16 (upd (F 16) k p0)) 17 (upd (F 17) k p1))) H := by have e : _ = (wsB B cI cS I (va_up (va_up F 16 (upd (F 16) k p0)) 17 (upd (F 17) k p1))) := wsB_set17 (B := B) (cI := cI) (cS := cS) (I := I) (F := (va_up F 16 (upd (F 16) k p0))) (k := k) (by omega) p1; rw [← e]; exact hP
  have hD : va_D (FPw (wsB B cI cS I F)) (wsB B cI cS I (va_up (va_up F 16 (upd (F 16) k p0)) 17 (upd (F 17) k p1))) := by have e : _ = (wsB B cI cS I (va_up (va_up F 16 (upd (F 16) k p0)) 17 (upd (F 17) k p1))) := wsB_set17 (B := B) (cI := cI) (cS := cS) (I := I) (F := (va_up F 16 (upd (F 16) k p0))) (k := k) (by omega) p1; rw [← e]; exact hD
  refine lv_aload_n hx hb dX2_become_10 rfl (lv_at hl 0 rfl) ?_
  refine lv_iload_n hx hb dX2_become_11 rfl (lv_at hl 3 rfl) ?_
  refine lv_bipush (v := (10 : Int32)) hx hb dX2_become_12 (by decide) ?_
  refine lv_iload_n hx hb dX2_become_14 rfl (lv_at hl 2 rfl) ?_
  refine lv_isub hx hb dX2_become_15 ?_
  refine va_mmin hx hb (hml.trans hl.1.symm) hown (hts _ kw_242) (hts _ kw_156) (hts _ kw_153) (hts _ kw_157) (Nat.le_of_ble_eq_true rfl) (Nat.le_of_ble_eq_true rfl) (Nat.zero_le _) (Nat.zero_le _) dX2_become_16 ?_
  refine va_put (D := D) (ci := 2) (v := .int (if ((10 : Int32) - p1) < p2 then ((10 : Int32) - p1) else p2)) (ty := tyX2 3) (C := RX2) (T := TX2) (N := 5) hx hb hts inlX2 tyX2 tyX2_ok nmX2 hown hK hP hD hS (16 + k) (wsB_st (by omega)) rfl 3 (by decide) (hts _ kw_52) (fun _ h9 => h9) rfl (tyX2_ok 3 (by decide)) rfl rfl (Nat.le_of_ble_eq_true rfl) dX2_become_19 (fun H locs hP hD hS => ?_)
  have hP : va_P D vwCl (wsB B cI cS I (va_up (va_up (va_up F 16 (upd (F 16) k p0)) 17 (upd (F 17) k p1)) 18 (upd (F 18) k (if ((10 : Int32) - p1) < p2 then ((10 : Int32) - p1) else p2)))) H := by have e : _ = (wsB B cI cS I (va_up (va_up (va_up F 16 (upd (F 16) k p0)) 17 (upd (F 17) k p1)) 18 (upd (F 18) k (if ((10 : Int32) - p1) < p2 then ((10 : Int32) - p1) else p2)))) := wsB_set18 (B := B) (cI := cI) (cS := cS) (I := I) (F := (va_up (va_up F 16 (upd (F 16) k p0)) 17 (upd (F 17) k p1))) (k := k) (by omega) (if ((10 : Int32) - p1) < p2 then ((10 : Int32) - p1) else p2); rw [← e]; exact hP
  have hD : va_D (FPw (wsB B cI cS I F)) (wsB B cI cS I (va_up (va_up (va_up F 16 (upd (F 16) k p0)) 17 (upd (F 17) k p1)) 18 (upd (F 18) k (if ((10 : Int32) - p1) < p2 then ((10 : Int32) - p1) else p2)))) := by have e : _ = (wsB B cI cS I (va_up (va_up (va_up F 16 (upd (F 16) k p0)) 17 (upd (F 17) k p1)) 18 (upd (F 18) k (if ((10 : Int32) - p1) < p2 then ((10 : Int32) - p1) else p2)))) := wsB_set18 (B := B) (cI := cI) (cS := cS) (I := I) (F := (va_up (va_up F 16 (upd (F 16) k p0)) 17 (upd (F 17) k p1))) (k := k) (by omega) (if ((10 : Int32) - p1) < p2 then ((10 : Int32) - p1) else p2); rw [← e]; exact hD
  refine lv_aload_n hx hb dX2_become_22 rfl (lv_at hl 0 rfl) ?_
  refine lv_iload hx hb dX2_become_23 (lv_at hl 4 rfl) ?_
  refine va_put (D := D) (ci := 2) (v := .int p3) (ty := tyX2 4) (C := RX2) (T := TX2) (N := 5) hx hb hts inlX2 tyX2 tyX2_ok nmX2 hown hK hP hD hS (16 + k) (wsB_st (by omega)) rfl 4 (by decide) (hts _ kw_53) (fun _ h9 => h9) rfl (tyX2_ok 4 (by decide)) rfl rfl (Nat.le_of_ble_eq_true rfl) dX2_become_25 (fun H locs hP hD hS => ?_)
  have hP : va_P D vwCl (wsB B cI cS I (va_up (va_up (va_up (va_up F 16 (upd (F 16) k p0)) 17 (upd (F 17) k p1)) 18 (upd (F 18) k (if ((10 : Int32) - p1) < p2 then ((10 : Int32) - p1) else p2))) 19 (upd (F 19) k p3))) H := by have e : _ = (wsB B cI cS I (va_up (va_up (va_up (va_up F 16 (upd (F 16) k p0)) 17 (upd (F 17) k p1)) 18 (upd (F 18) k (if ((10 : Int32) - p1) < p2 then ((10 : Int32) - p1) else p2))) 19 (upd (F 19) k p3))) := wsB_set19 (B := B) (cI := cI) (cS := cS) (I := I) (F := (va_up (va_up (va_up F 16 (upd (F 16) k p0)) 17 (upd (F 17) k p1)) 18 (upd (F 18) k (if ((10 : Int32) - p1) < p2 then ((10 : Int32) - p1) else p2)))) (k := k) (by omega) p3; rw [← e]; exact hP
  have hD : va_D (FPw (wsB B cI cS I F)) (wsB B cI cS I (va_up (va_up (va_up (va_up F 16 (upd (F 16) k p0)) 17 (upd (F 17) k p1)) 18 (upd (F 18) k (if ((10 : Int32) - p1) < p2 then ((10 : Int32) - p1) else p2))) 19 (upd (F 19) k p3))) := by have e : _ = (wsB B cI cS I (va_up (va_up (va_up (va_up F 16 (upd (F 16) k p0)) 17 (upd (F 17) k p1)) 18 (upd (F 18) k (if ((10 : Int32) - p1) < p2 then ((10 : Int32) - p1) else p2))) 19 (upd (F 19) k p3))) := wsB_set19 (B := B) (cI := cI) (cS := cS) (I := I) (F := (va_up (va_up (va_up F 16 (upd (F 16) k p0)) 17 (upd (F 17) k p1)) 18 (upd (F 18) k (if ((10 : Int32) - p1) < p2 then ((10 : Int32) - p1) else p2)))) (k := k) (by omega) p3; rw [← e]; exact hD
  exact retWv hx hb hr hlk hP hS dX2_become_28 rfl
set_option maxHeartbeats 4000000 in
set_option maxRecDepth 100000 in
theorem c_X3_isAllFoundWith (l : Launch) (D : va_G) (cI cB cS : ClassId) {B : Nat → Nat} {I : Nat → Int32} {F : Nat → Nat → Int32} {n : Nat} (hn : n ≤ 6) (h3 : I 3 = nI n) {fd : Nat} (hfd : fd ≤ 6) (h6 : I 6 = nI fd) (p0 p1 : Int32) : Met l yX3_isAllFoundWith (Wm yX3_isAllFoundWith cX3_isAllFoundWith 4 (some .boolean)) ({ frames := 3, cells := 0, slots := 0, locals := 74 }) (va_Pc [.ref (B 0), .int p0, .int p1] (PR D (TYS cI cB cS) (wsB B cI cS I F))) (QcV (some (.int (b2 (cAllF F (I 4) n fd p0 p1))))) 0 0 (fun _ => False) := by
  refine metR (by decide) [.ref (B 0), .int p0, .int p1] (Nat.le_of_ble_eq_true rfl) ?_
  intro p e s m args below meth c hx hb hml hr hlk hown hts hKK hP ls hl
  obtain ⟨hK, hN⟩ := id hKK
  have hl : lv_has ls 4 [(0, .ref (B 0)), (1, .int p0), (2, .int p1)] := hl
  refine lv_iconst (v := (0 : Int32)) hx hb dX3_isAllFoundWith_0 (by decide) ?_
  refine lv_istore_n (lv' := [(3, .int (0 : Int32)), (0, .ref (B 0)), (1, .int p0), (2, .int p1)]) hx hb dX3_isAllFoundWith_1 rfl hl (by decide) rfl (fun ls hl => ?_)
  have loop_2 : ∀ (z : Nat) (k : Nat) (x3 : Int32), x3 = nI k → (k ≤ fd) → (∀ i, i < k → cComes F (I 4) n (F 9 i) (F 10 i) p0 p1 = F 11 i) → fd - k < z → ∀ (ls : Array Slot), lv_has ls 4 [(0, .ref (B 0)), (1, .int p0), (2, .int p1), (3, .int x3)] → W p l e ({ frames := 3, cells := 0, slots := 0, locals := 74 } : Room) s m args below meth c s.heap [] 0 0 (MQ below (QcV (some (.int (b2 (cAllF F (I 4) n fd p0 p1))))) args s 0 0 (fun _ => False)) (F0 m 2 ls []) := by
    intro z
    induction z with
    | zero =>
      intro k x3 ex3 hk hall hz
      exact absurd hz (Nat.not_lt_zero _)
    | succ z ih_2 =>
      intro k x3 ex3 hk hall hz ls hl
      subst ex3
      refine lv_iload_n hx hb dX3_isAllFoundWith_2 rfl (lv_at hl 3 rfl) ?_
      refine lv_aload_n hx hb dX3_isAllFoundWith_3 rfl (lv_at hl 0 rfl) ?_
      refine va_get (D := D) (ci := 3) (v := .ref (B 3)) (C := RX3) (T := TX3) (N := 8) hx hb hts inlX3 hown hK hP 0 rfl rfl 2 (by decide) (hts _ kw_21) (fun _ h9 => h9) rfl dX3_isAllFoundWith_4 ?_
      refine va_getN (D := D) (ci := 1) (v := .int (I 6)) (C := RX1) (T := TX1) (N := 8) hx hb hts inlX1 hown hK hP 3 rfl rfl 3 (by decide) (nfF_4 hN) (fun _ h9 => h9) rfl dX3_isAllFoundWith_7 ?_
      refine topE (z := (nI fd)) h6 ?_
      refine lv_icmp_ge (tgt := 63) hx hb dX3_isAllFoundWith_10 (by decide) (fun c_1 => ?_) (fun c_1 => ?_)
      · have nc_1 : fd ≤ k := (nI_leI (a := fd) (b := k) (by omega) (by omega)).mp c_1
        refine lv_iconst (v := (1 : Int32)) hx hb dX3_isAllFoundWith_63 (by decide) ?_
        exact retRz hx hb hr hlk dX3_isAllFoundWith_64 (by exact b2_t (fun i hi => hall i (by omega)))
      · have nc_1 : ¬ fd ≤ k := fun h => c_1 ((nI_leI (a := fd) (b := k) (by omega) (by omega)).mpr h)
        refine lv_iload_n hx hb dX3_isAllFoundWith_13 rfl (lv_at hl 3 rfl) ?_
        refine lv_bipush (v := (6 : Int32)) hx hb dX3_isAllFoundWith_14 (by decide) ?_
        refine lv_icmp_ge (tgt := 63) hx hb dX3_isAllFoundWith_16 (by decide) (fun c_2 => ?_) (fun c_2 => ?_)
        · have nc_2 : 6 ≤ k := (nI_leI (a := 6) (b := k) (by omega) (by omega)).mp c_2
          exfalso; omega
        · have nc_2 : ¬ 6 ≤ k := fun h => c_2 ((nI_leI (a := 6) (b := k) (by omega) (by omega)).mpr h)
          refine lv_aload_n hx hb dX3_isAllFoundWith_19 rfl (lv_at hl 0 rfl) ?_
          refine lv_aload_n hx hb dX3_isAllFoundWith_20 rfl (lv_at hl 0 rfl) ?_
          refine va_get (D := D) (ci := 3) (v := .ref (B 3)) (C := RX3) (T := TX3) (N := 8) hx hb hts inlX3 hown hK hP 0 rfl rfl 2 (by decide) (hts _ kw_21) (fun _ h9 => h9) rfl dX3_isAllFoundWith_21 ?_
          refine va_getN (D := D) (ci := 1) (v := .ref (B 9)) (C := RX1) (T := TX1) (N := 8) hx hb hts inlX1 hown hK hP 3 rfl rfl 5 (by decide) (nfF_6 hN) (fun _ h9 => h9) rfl dX3_isAllFoundWith_24 ?_
          refine lv_iload_n hx hb dX3_isAllFoundWith_27 rfl (lv_at hl 3 rfl) ?_
          refine va_iald (D := D) hx hb hK hP 9 0 rfl rfl (vp_in_nI (by omega) (by omega)) dX3_isAllFoundWith_28 ?_
          refine topE (z := ((F 9) k)) (congrArg _ (nI_clamp (n := k) (by omega))) ?_
          refine lv_aload_n hx hb dX3_isAllFoundWith_29 rfl (lv_at hl 0 rfl) ?_
          refine va_get (D := D) (ci := 3) (v := .ref (B 3)) (C := RX3) (T := TX3) (N := 8) hx hb hts inlX3 hown hK hP 0 rfl rfl 2 (by decide) (hts _ kw_21) (fun _ h9 => h9) rfl dX3_isAllFoundWith_30 ?_
          refine va_getN (D := D) (ci := 1) (v := .ref (B 10)) (C := RX1) (T := TX1) (N := 8) hx hb hts inlX1 hown hK hP 3 rfl rfl 6 (by decide) (nfF_7 hN) (fun _ h9 => h9) rfl dX3_isAllFoundWith_33 ?_
          refine lv_iload_n hx hb dX3_isAllFoundWith_36 rfl (lv_at hl 3 rfl) ?_
          refine va_iald (D := D) hx hb hK hP 10 0 rfl rfl (vp_in_nI (by omega) (by omega)) dX3_isAllFoundWith_37 ?_
          refine topE (z := ((F 10) k)) (congrArg _ (nI_clamp (n := k) (by omega))) ?_
          refine lv_iload_n hx hb dX3_isAllFoundWith_38 rfl (lv_at hl 1 rfl) ?_
          refine lv_iload_n hx hb dX3_isAllFoundWith_39 rfl (lv_at hl 2 rfl) ?_
          refine rcVi (As := [.int ((F 9) k), .int ((F 10) k), .int p0, .int p1]) (rest := []) hx hb hml hown hts hKK hP (c_X3_comesIf l D cI cB cS hn h3 ((F 9) k) ((F 10) k) p0 p1) (cwV2 4 hts kw_282 kw_3 kw_279 kw_280 kw_281 rfl rfl (by decide +kernel) ⟨Nat.le_of_ble_eq_true rfl, Nat.le_of_ble_eq_true rfl⟩) 0 rfl rfl rfl rfl hl.1 rfl (Nat.le_of_ble_eq_true rfl) ⟨Nat.zero_le _, Nat.zero_le _⟩ dX3_isAllFoundWith_40 ?_
          refine topE (z := (cComes F (I 4) n ((F 9) k) ((F 10) k) p0 p1)) rfl ?_
          refine lv_aload_n hx hb dX3_isAllFoundWith_43 rfl (lv_at hl 0 rfl) ?_
          refine va_get (D := D) (ci := 3) (v := .ref (B 3)) (C := RX3) (T := TX3) (N := 8) hx hb hts inlX3 hown hK hP 0 rfl rfl 2 (by decide) (hts _ kw_21) (fun _ h9 => h9) rfl dX3_isAllFoundWith_44 ?_
          refine va_getN (D := D) (ci := 1) (v := .ref (B 11)) (C := RX1) (T := TX1) (N := 8) hx hb hts inlX1 hown hK hP 3 rfl rfl 7 (by decide) (nfF_8 hN) (fun _ h9 => h9) rfl dX3_isAllFoundWith_47 ?_
          refine lv_iload_n hx hb dX3_isAllFoundWith_50 rfl (lv_at hl 3 rfl) ?_
          refine va_iald (D := D) hx hb hK hP 11 0 rfl rfl (vp_in_nI (by omega) (by omega)) dX3_isAllFoundWith_51 ?_
          refine topE (z := ((F 11) k)) (congrArg _ (nI_clamp (n := k) (by omega))) ?_
          refine lv_icmp_eq (tgt := 57) hx hb dX3_isAllFoundWith_52 (by decide) (fun c_3 => ?_) (fun c_3 => ?_)
          · refine lv_iinc (v := (nI (k + 1))) (lv' := [(3, .int (nI (k + 1))), (0, .ref (B 0)), (1, .int p0), (2, .int p1)]) hx hb dX3_isAllFoundWith_57 hl (k := 3) rfl (nI_add k 1) (by decide) rfl (fun ls hl => ?_)
            refine lv_goto (tgt := 2) hx hb dX3_isAllFoundWith_60 (by decide) ?_
            exact ih_2 (k + 1) (nI (k + 1)) rfl (by omega) (by intro i hi; by_cases hik : i = k; (subst hik; assumption); exact hall i (by omega)) (by omega) ls (lv_sub hl [1, 2, 3, 0] rfl)
          · refine lv_iconst (v := (0 : Int32)) hx hb dX3_isAllFoundWith_55 (by decide) ?_
            exact retRz hx hb hr hlk dX3_isAllFoundWith_56 (by exact b2_f (fun h => absurd (h k (by omega)) c_3))
  exact loop_2 ((fd - 0) + 1) 0 (0 : Int32) rfl (by omega) (by intro i hi; exact absurd hi (by omega)) (by omega) ls (lv_sub hl [1, 2, 3, 0] rfl)
set_option maxHeartbeats 4000000 in
set_option maxRecDepth 100000 in
theorem c_X3_heavy (l : Launch) (D : va_G) (cI cB cS : ClassId) {B : Nat → Nat} {I : Nat → Int32} {F : Nat → Nat → Int32} {n : Nat} (hn : n ≤ 6) (h3 : I 3 = nI n) {fd : Nat} (hfd : fd ≤ 6) (h6 : I 6 = nI fd) (p0 : Int32) : Met l yX3_heavy (Wm yX3_heavy cX3_heavy 4 (some .int)) ({ frames := 4, cells := 0, slots := 0, locals := 97 }) (va_Pc [.ref (B 0), .int p0] (PR D (TYS cI cB cS) (wsB B cI cS I F))) (QcV (some (.int (cHeavy F (I 4) n fd p0)))) 0 0 (fun _ => False) := by
  refine metR (by decide) [.ref (B 0), .int p0] (Nat.le_of_ble_eq_true rfl) ?_
  intro p e s m args below meth c hx hb hml hr hlk hown hts hKK hP ls hl
  obtain ⟨hK, hN⟩ := id hKK
  have hl : lv_has ls 4 [(0, .ref (B 0)), (1, .int p0)] := hl
  refine lv_iconst (v := (0 : Int32)) hx hb dX3_heavy_0 (by decide) ?_
  refine lv_istore_n (lv' := [(2, .int (0 : Int32)), (0, .ref (B 0)), (1, .int p0)]) hx hb dX3_heavy_1 rfl hl (by decide) rfl (fun ls hl => ?_)
  refine lv_iconst (v := (1 : Int32)) hx hb dX3_heavy_2 (by decide) ?_
  refine lv_istore_n (lv' := [(3, .int (1 : Int32)), (2, .int (0 : Int32)), (0, .ref (B 0)), (1, .int p0)]) hx hb dX3_heavy_3 rfl hl (by decide) rfl (fun ls hl => ?_)
  have loop_4 : ∀ (z : Nat) (k : Nat) (x2 : Int32) (x3 : Int32), x2 = bitsN (fun v => cAllF F (I 4) n fd p0 (nI (v + 1))) k → x3 = nI (k + 1) → (k ≤ 9) → 9 - k < z → ∀ (ls : Array Slot), lv_has ls 4 [(0, .ref (B 0)), (1, .int p0), (2, .int x2), (3, .int x3)] → W p l e ({ frames := 4, cells := 0, slots := 0, locals := 97 } : Room) s m args below meth c s.heap [] 0 0 (MQ below (QcV (some (.int (cHeavy F (I 4) n fd p0)))) args s 0 0 (fun _ => False)) (F0 m 4 ls []) := by
    intro z
    induction z with
    | zero =>
      intro k x2 x3 ex2 ex3 hk hz
      exact absurd hz (Nat.not_lt_zero _)
    | succ z ih_4 =>
      intro k x2 x3 ex2 ex3 hk hz ls hl
      subst ex2
      subst ex3
      refine lv_iload_n hx hb dX3_heavy_4 rfl (lv_at hl 3 rfl) ?_
      refine lv_bipush (v := (9 : Int32)) hx hb dX3_heavy_5 (by decide) ?_
      refine lv_icmp_gt (tgt := 33) hx hb dX3_heavy_7 (by decide) (fun c_1 => ?_) (fun c_1 => ?_)
      · have nc_1 : 9 < (k + 1) := (nI_ltI (a := 9) (b := (k + 1)) (by omega) (by omega)).mp c_1
        refine lv_iload_n hx hb dX3_heavy_33 rfl (lv_at hl 2 rfl) ?_
        exact retRi hx hb hr hlk dX3_heavy_34 (by have hkn : k = 9 := (by omega); subst hkn; rfl)
      · have nc_1 : ¬ 9 < (k + 1) := fun h => c_1 ((nI_ltI (a := 9) (b := (k + 1)) (by omega) (by omega)).mpr h)
        refine lv_aload_n hx hb dX3_heavy_10 rfl (lv_at hl 0 rfl) ?_
        refine lv_iload_n hx hb dX3_heavy_11 rfl (lv_at hl 1 rfl) ?_
        refine lv_iload_n hx hb dX3_heavy_12 rfl (lv_at hl 3 rfl) ?_
        refine rcVi (As := [.int p0, .int (nI (k + 1))]) (rest := []) hx hb hml hown hts hKK hP (c_X3_isAllFoundWith l D cI cB cS hn h3 hfd h6 p0 (nI (k + 1))) (cwV2 2 hts kw_278 kw_3 kw_275 kw_276 kw_277 rfl rfl (by decide +kernel) ⟨Nat.le_of_ble_eq_true rfl, Nat.le_of_ble_eq_true rfl⟩) 0 rfl rfl rfl rfl hl.1 rfl (Nat.le_of_ble_eq_true rfl) ⟨Nat.zero_le _, Nat.zero_le _⟩ dX3_heavy_13 ?_
        refine topE (z := (b2 (cAllF F (I 4) n fd p0 (nI (k + 1))))) rfl ?_
        refine lv_if_eq (tgt := 27) hx hb dX3_heavy_16 (by decide) (fun c_2 => ?_) (fun c_2 => ?_)
        · have c_2 := b2_z c_2
          refine lv_iinc (v := (nI ((k + 1) + 1))) (lv' := [(3, .int (nI ((k + 1) + 1))), (0, .ref (B 0)), (1, .int p0), (2, .int (bitsN (fun v => cAllF F (I 4) n fd p0 (nI (v + 1))) k))]) hx hb dX3_heavy_27 hl (k := 3) rfl (nI_add (k + 1) 1) (by decide) rfl (fun ls hl => ?_)
          refine lv_goto (tgt := 4) hx hb dX3_heavy_30 (by decide) ?_
          exact ih_4 (k + 1) (bitsN (fun v => cAllF F (I 4) n fd p0 (nI (v + 1))) k) (nI ((k + 1) + 1)) (by rw [bitsN, if_neg c_2]) rfl (by omega) (by omega) ls (lv_sub hl [1, 2, 3, 0] rfl)
        · have c_2 := b2_nz c_2
          refine lv_iload_n hx hb dX3_heavy_19 rfl (lv_at hl 2 rfl) ?_
          refine lv_iconst (v := (1 : Int32)) hx hb dX3_heavy_20 (by decide) ?_
          refine lv_iload_n hx hb dX3_heavy_21 rfl (lv_at hl 3 rfl) ?_
          refine lv_iconst (v := (1 : Int32)) hx hb dX3_heavy_22 (by decide) ?_
          refine lv_isub hx hb dX3_heavy_23 ?_
          refine lv_ishl hx hb dX3_heavy_24 ?_
          refine lv_ior hx hb dX3_heavy_25 ?_
          refine lv_istore_n (lv' := [(2, .int (bitsN (fun v => cAllF F (I 4) n fd p0 (nI (v + 1))) k ||| ((1 : Int32) <<< ((nI (k + 1) - (1 : Int32)) &&& 31)))), (0, .ref (B 0)), (1, .int p0), (3, .int (nI (k + 1)))]) hx hb dX3_heavy_26 rfl hl (by decide) rfl (fun ls hl => ?_)
          refine lv_iinc (v := (nI ((k + 1) + 1))) (lv' := [(3, .int (nI ((k + 1) + 1))), (2, .int (bitsN (fun v => cAllF F (I 4) n fd p0 (nI (v + 1))) k ||| ((1 : Int32) <<< ((nI (k + 1) - (1 : Int32)) &&& 31)))), (0, .ref (B 0)), (1, .int p0)]) hx hb dX3_heavy_27 hl (k := 3) rfl (nI_add (k + 1) 1) (by decide) rfl (fun ls hl => ?_)
          refine lv_goto (tgt := 4) hx hb dX3_heavy_30 (by decide) ?_
          exact ih_4 (k + 1) (bitsN (fun v => cAllF F (I 4) n fd p0 (nI (v + 1))) k ||| ((1 : Int32) <<< ((nI (k + 1) - (1 : Int32)) &&& 31))) (nI ((k + 1) + 1)) (by rw [bitsN, if_pos c_2]) rfl (by omega) (by omega) ls (lv_sub hl [2, 3, 1, 0] rfl)
  exact loop_4 ((9 - 0) + 1) 0 (0 : Int32) (1 : Int32) rfl rfl (by omega) (by omega) ls (lv_sub hl [2, 3, 1, 0] rfl)
set_option maxHeartbeats 4000000 in
set_option maxRecDepth 100000 in
theorem c_X3_countLike (l : Launch) (D : va_G) (cI cB cS : ClassId) {B : Nat → Nat} {I : Nat → Int32} {F : Nat → Nat → Int32} {n : Nat} (hn : n ≤ 6) (h3 : I 3 = nI n) (p0 p1 : Int32) : Met l yX3_countLike (Wm yX3_countLike cX3_countLike 6 (some .int)) ({ frames := 0, cells := 0, slots := 0, locals := 0 }) (va_Pc [.ref (B 0), .int p0, .int p1] (PR D (TYS cI cB cS) (wsB B cI cS I F))) (QcV (some (.int (cLike (F 6) p0 p1 9)))) 0 0 (fun _ => False) := by
  refine metR (by decide) [.ref (B 0), .int p0, .int p1] (Nat.le_of_ble_eq_true rfl) ?_
  intro p e s m args below meth c hx hb hml hr hlk hown hts hKK hP ls hl
  obtain ⟨hK, hN⟩ := id hKK
  have hl : lv_has ls 6 [(0, .ref (B 0)), (1, .int p0), (2, .int p1)] := hl
  refine lv_iconst (v := (0 : Int32)) hx hb dX3_countLike_0 (by decide) ?_
  refine lv_istore_n (lv' := [(3, .int (0 : Int32)), (0, .ref (B 0)), (1, .int p0), (2, .int p1)]) hx hb dX3_countLike_1 rfl hl (by decide) rfl (fun ls hl => ?_)
  refine lv_iconst (v := (1 : Int32)) hx hb dX3_countLike_2 (by decide) ?_
  refine lv_istore (lv' := [(4, .int (1 : Int32)), (3, .int (0 : Int32)), (0, .ref (B 0)), (1, .int p0), (2, .int p1)]) hx hb dX3_countLike_3 hl (by decide) rfl (fun ls hl => ?_)
  have loop_5 : ∀ (z : Nat) (k : Nat) (x3 : Int32) (x4 : Int32), x3 = cLike (F 6) p0 p1 k → x4 = nI (k + 1) → (k ≤ 9) → 9 - k < z → ∀ (ls : Array Slot), lv_has ls 6 [(0, .ref (B 0)), (1, .int p0), (2, .int p1), (3, .int x3), (4, .int x4)] → W p l e ({ frames := 0, cells := 0, slots := 0, locals := 0 } : Room) s m args below meth c s.heap [] 0 0 (MQ below (QcV (some (.int (cLike (F 6) p0 p1 9)))) args s 0 0 (fun _ => False)) (F0 m 5 ls []) := by
    intro z
    induction z with
    | zero =>
      intro k x3 x4 ex3 ex4 hk hz
      exact absurd hz (Nat.not_lt_zero _)
    | succ z ih_5 =>
      intro k x3 x4 ex3 ex4 hk hz ls hl
      subst ex3
      subst ex4
      refine lv_iload hx hb dX3_countLike_5 (lv_at hl 4 rfl) ?_
      refine lv_bipush (v := (9 : Int32)) hx hb dX3_countLike_7 (by decide) ?_
      refine lv_icmp_gt (tgt := 56) hx hb dX3_countLike_9 (by decide) (fun c_1 => ?_) (fun c_1 => ?_)
      · have nc_1 : 9 < (k + 1) := (nI_ltI (a := 9) (b := (k + 1)) (by omega) (by omega)).mp c_1
        refine lv_iload_n hx hb dX3_countLike_56 rfl (lv_at hl 3 rfl) ?_
        exact retRi hx hb hr hlk dX3_countLike_57 (by have hkn : k = 9 := (by omega); subst hkn; rfl)
      · have nc_1 : ¬ 9 < (k + 1) := fun h => c_1 ((nI_ltI (a := 9) (b := (k + 1)) (by omega) (by omega)).mpr h)
        refine lv_iload_n hx hb dX3_countLike_12 rfl (lv_at hl 2 rfl) ?_
        refine lv_iload hx hb dX3_countLike_13 (lv_at hl 4 rfl) ?_
        refine lv_iconst (v := (1 : Int32)) hx hb dX3_countLike_15 (by decide) ?_
        refine lv_isub hx hb dX3_countLike_16 ?_
        refine lv_ishr hx hb dX3_countLike_17 ?_
        refine lv_iconst (v := (1 : Int32)) hx hb dX3_countLike_18 (by decide) ?_
        refine lv_iand hx hb dX3_countLike_19 ?_
        refine lv_iconst (v := (1 : Int32)) hx hb dX3_countLike_20 (by decide) ?_
        refine lv_icmp_ne (tgt := 28) hx hb dX3_countLike_21 (by decide) (fun c_2 => ?_) (fun c_2 => ?_)
        · refine lv_iconst (v := (0 : Int32)) hx hb dX3_countLike_28 (by decide) ?_
          refine lv_istore (lv' := [(5, .int (0 : Int32)), (0, .ref (B 0)), (1, .int p0), (2, .int p1), (3, .int (cLike (F 6) p0 p1 k)), (4, .int (nI (k + 1)))]) hx hb dX3_countLike_29 hl (by decide) rfl (fun ls hl => ?_)
          refine lv_iload hx hb dX3_countLike_31 (lv_at hl 0 rfl) ?_
          refine lv_if_eq (tgt := 50) hx hb dX3_countLike_33 (by decide) (fun c_3 => ?_) (fun c_3 => ?_)
          · refine lv_iinc (v := (nI ((k + 1) + 1))) (lv' := [(4, .int (nI ((k + 1) + 1))), (5, .int (0 : Int32)), (0, .ref (B 0)), (1, .int p0), (2, .int p1), (3, .int (cLike (F 6) p0 p1 k))]) hx hb dX3_countLike_50 hl (k := 5) rfl (nI_add (k + 1) 1) (by decide) rfl (fun ls hl => ?_)
            refine lv_goto (tgt := 5) hx hb dX3_countLike_53 (by decide) ?_
            exact ih_5 (k + 1) (cLike (F 6) p0 p1 k) (nI ((k + 1) + 1)) (by grind [cLike]) rfl (by omega) (by omega) ls (lv_sub hl [2, 3, 4, 5, 0] rfl)
          · exact absurd c_3 (by decide)
        · refine lv_iconst (v := (1 : Int32)) hx hb dX3_countLike_24 (by decide) ?_
          refine lv_goto (tgt := 29) hx hb dX3_countLike_25 (by decide) ?_
          refine lv_istore (lv' := [(5, .int (1 : Int32)), (0, .ref (B 0)), (1, .int p0), (2, .int p1), (3, .int (cLike (F 6) p0 p1 k)), (4, .int (nI (k + 1)))]) hx hb dX3_countLike_29 hl (by decide) rfl (fun ls hl => ?_)
          refine lv_iload hx hb dX3_countLike_31 (lv_at hl 0 rfl) ?_
          refine lv_if_eq (tgt := 50) hx hb dX3_countLike_33 (by decide) (fun c_4 => ?_) (fun c_4 => ?_)
          · exact absurd c_4 (by decide)
          · refine lv_aload_n hx hb dX3_countLike_36 rfl (lv_at hl 1 rfl) ?_
            refine va_get (D := D) (ci := 3) (v := .ref (B 6)) (C := RX3) (T := TX3) (N := 8) hx hb hts inlX3 hown hK hP 0 rfl rfl 7 (by decide) (hts _ kw_27) (fun _ h9 => h9) rfl dX3_countLike_37 ?_
            refine lv_iload hx hb dX3_countLike_40 (lv_at hl 5 rfl) ?_
            refine va_iald (D := D) hx hb hK hP 6 0 rfl rfl (vp_in_nI (by omega) (by omega)) dX3_countLike_42 ?_
            refine topE (z := ((F 6) (k + 1))) (congrArg _ (nI_clamp (n := (k + 1)) (by omega))) ?_
            refine lv_iload_n hx hb dX3_countLike_43 rfl (lv_at hl 2 rfl) ?_
            refine lv_icmp_ne (tgt := 50) hx hb dX3_countLike_44 (by decide) (fun c_5 => ?_) (fun c_5 => ?_)
            · refine lv_iinc (v := (nI ((k + 1) + 1))) (lv' := [(4, .int (nI ((k + 1) + 1))), (5, .int (1 : Int32)), (0, .ref (B 0)), (1, .int p0), (2, .int p1), (3, .int (cLike (F 6) p0 p1 k))]) hx hb dX3_countLike_50 hl (k := 5) rfl (nI_add (k + 1) 1) (by decide) rfl (fun ls hl => ?_)
              refine lv_goto (tgt := 5) hx hb dX3_countLike_53 (by decide) ?_
              exact ih_5 (k + 1) (cLike (F 6) p0 p1 k) (nI ((k + 1) + 1)) (by grind [cLike]) rfl (by omega) (by omega) ls (lv_sub hl [2, 3, 4, 5, 0] rfl)
            · refine lv_iinc (v := (cLike (F 6) p0 p1 k + (1 : Int32))) (lv' := [(3, .int (cLike (F 6) p0 p1 k + (1 : Int32))), (5, .int (1 : Int32)), (0, .ref (B 0)), (1, .int p0), (2, .int p1), (4, .int (nI (k + 1)))]) hx hb dX3_countLike_47 hl (k := 4) rfl rfl (by decide) rfl (fun ls hl => ?_)
              refine lv_iinc (v := (nI ((k + 1) + 1))) (lv' := [(4, .int (nI ((k + 1) + 1))), (3, .int (cLike (F 6) p0 p1 k + (1 : Int32))), (5, .int (1 : Int32)), (0, .ref (B 0)), (1, .int p0), (2, .int p1)]) hx hb dX3_countLike_50 hl (k := 5) rfl (nI_add (k + 1) 1) (by decide) rfl (fun ls hl => ?_)
              refine lv_goto (tgt := 5) hx hb dX3_countLike_53 (by decide) ?_
              exact ih_5 (k + 1) (cLike (F 6) p0 p1 k + (1 : Int32)) (nI ((k + 1) + 1)) (by grind [cLike]) rfl (by omega) (by omega) ls (lv_sub hl [3, 4, 5, 1, 0] rfl)
  exact loop_5 ((9 - 0) + 1) 0 (0 : Int32) (1 : Int32) rfl rfl (by omega) (by omega) ls (lv_sub hl [2, 3, 4, 1, 0] rfl)
set_option maxHeartbeats 4000000 in
set_option maxRecDepth 100000 in
theorem c_X3_leftAtWorst (l : Launch) (D : va_G) (cI cB cS : ClassId) {B : Nat → Nat} {I : Nat → Int32} {F : Nat → Nat → Int32} {n : Nat} (hn : n ≤ 6) (h3 : I 3 = nI n) (p0 p1 p2 p3 : Int32) : Met l yX3_leftAtWorst (Wm yX3_leftAtWorst cX3_leftAtWorst 7 (some .int)) ({ frames := 3, cells := 0, slots := 0, locals := 74 }) (va_Pc [.ref (B 0), .int p0, .int p1, .int p2, .int p3] (PW D (TYS cI cB cS) (wsB B cI cS I F))) (QcW D (some (.int (cWorst (cByP F (I 4) n p0 p1 p2) p3 9))) (wsB B cI cS I F) (wsB B cI cS I (va_up F 6 (rowF (cByP F (I 4) n p0 p1 p2) (F 6) 1 10)))) 0 0 (FPw (wsB B cI cS I F)) := by
  refine metW (by decide) [.ref (B 0), .int p0, .int p1, .int p2, .int p3] (Nat.le_of_ble_eq_true rfl) ?_
  intro p e s m args below meth c hx hb hml hr hlk hown hts hKK hP hD hS ls hl
  obtain ⟨hK, hN⟩ := id hKK
  have hl : lv_has ls 7 [(0, .ref (B 0)), (1, .int p0), (2, .int p1), (3, .int p2), (4, .int p3)] := hl
  refine lv_iconst (v := (1 : Int32)) hx hb dX3_leftAtWorst_0 (by decide) ?_
  refine lv_istore (lv' := [(5, .int (1 : Int32)), (0, .ref (B 0)), (1, .int p0), (2, .int p1), (3, .int p2), (4, .int p3)]) hx hb dX3_leftAtWorst_1 hl (by decide) rfl (fun ls hl => ?_)
  have loop_3 : ∀ (z : Nat) (k : Nat) (x5 : Int32), x5 = nI (k + 1) → (k ≤ 9) → 9 - k < z → ∀ (H : Heap) (locs : List Loc), va_P D vwCl (wsB B cI cS I (va_up F 6 (rowF (cByP F (I 4) n p0 p1 p2) (F 6) 1 (k + 1)))) H → va_S (FPw (wsB B cI cS I F)) s.heap H locs → ∀ (ls : Array Slot), lv_has ls 7 [(0, .ref (B 0)), (1, .int p0), (2, .int p1), (3, .int p2), (4, .int p3), (5, .int x5)] → W p l e ({ frames := 3, cells := 0, slots := 0, locals := 74 } : Room) s m args below meth c H locs 0 0 (MQ below (QcW D (some (.int (cWorst (cByP F (I 4) n p0 p1 p2) p3 9))) (wsB B cI cS I F) (wsB B cI cS I (va_up F 6 (rowF (cByP F (I 4) n p0 p1 p2) (F 6) 1 10)))) args s 0 0 (FPw (wsB B cI cS I F))) (F0 m 3 ls []) := by
    intro z
    induction z with
    | zero =>
      intro k x5 ex5 hk hz
      exact absurd hz (Nat.not_lt_zero _)
    | succ z ih_3 =>
      intro k x5 ex5 hk hz H locs hP hS ls hl
      subst ex5
      have hD := va_D_addr (ws := (wsB B cI cS I F)) (ws' := (wsB B cI cS I (va_up F 6 (rowF (cByP F (I 4) n p0 p1 p2) (F 6) 1 (k + 1))))) rfl hD
      refine lv_iload hx hb dX3_leftAtWorst_3 (lv_at hl 5 rfl) ?_
      refine lv_bipush (v := (9 : Int32)) hx hb dX3_leftAtWorst_5 (by decide) ?_
      refine lv_icmp_gt (tgt := 32) hx hb dX3_leftAtWorst_7 (by decide) (fun c_1 => ?_) (fun c_1 => ?_)
      · have nc_1 : 9 < (k + 1) := (nI_ltI (a := 9) (b := (k + 1)) (by omega) (by omega)).mp c_1
        refine lv_iconst (v := (0 : Int32)) hx hb dX3_leftAtWorst_32 (by decide) ?_
        refine lv_istore (lv' := [(5, .int (0 : Int32)), (0, .ref (B 0)), (1, .int p0), (2, .int p1), (3, .int p2), (4, .int p3)]) hx hb dX3_leftAtWorst_33 hl (by decide) rfl (fun ls hl => ?_)
        refine lv_iconst (v := (1 : Int32)) hx hb dX3_leftAtWorst_35 (by decide) ?_
        refine lv_istore (lv' := [(6, .int (1 : Int32)), (5, .int (0 : Int32)), (0, .ref (B 0)), (1, .int p0), (2, .int p1), (3, .int p2), (4, .int p3)]) hx hb dX3_leftAtWorst_36 hl (by decide) rfl (fun ls hl => ?_)
        have loop_38 : ∀ (z : Nat) (j : Nat) (y5 : Int32) (y6 : Int32), y5 = cWorst (cByP F (I 4) n p0 p1 p2) p3 j → y6 = nI (j + 1) → (j ≤ 9) → 9 - j < z → ∀ (H : Heap) (locs : List Loc), va_P D vwCl (wsB B cI cS I (va_up F 6 (rowF (cByP F (I 4) n p0 p1 p2) (F 6) 1 10))) H → va_S (FPw (wsB B cI cS I F)) s.heap H locs → ∀ (ls : Array Slot), lv_has ls 7 [(0, .ref (B 0)), (1, .int p0), (2, .int p1), (3, .int p2), (4, .int p3), (5, .int y5), (6, .int y6)] → W p l e ({ frames := 3, cells := 0, slots := 0, locals := 74 } : Room) s m args below meth c H locs 0 0 (MQ below (QcW D (some (.int (cWorst (cByP F (I 4) n p0 p1 p2) p3 9))) (wsB B cI cS I F) (wsB B cI cS I (va_up F 6 (rowF (cByP F (I 4) n p0 p1 p2) (F 6) 1 10)))) args s 0 0 (FPw (wsB B cI cS I F))) (F0 m 38 ls []) := by
          intro z
          induction z with
          | zero =>
            intro j y5 y6 ey5 ey6 hj hz
            exact absurd hz (Nat.not_lt_zero _)
          | succ z ih_38 =>
            intro j y5 y6 ey5 ey6 hj hz H locs hP hS ls hl
            subst ey5
            subst ey6
            have hD := va_D_addr (ws := (wsB B cI cS I (va_up F 6 (rowF (cByP F (I 4) n p0 p1 p2) (F 6) 1 (k + 1))))) (ws' := (wsB B cI cS I (va_up F 6 (rowF (cByP F (I 4) n p0 p1 p2) (F 6) 1 10)))) rfl hD
            refine lv_iload hx hb dX3_leftAtWorst_38 (lv_at hl 6 rfl) ?_
            refine lv_bipush (v := (9 : Int32)) hx hb dX3_leftAtWorst_40 (by decide) ?_
            refine lv_icmp_gt (tgt := 71) hx hb dX3_leftAtWorst_42 (by decide) (fun c_2 => ?_) (fun c_2 => ?_)
            · have nc_2 : 9 < (j + 1) := (nI_ltI (a := 9) (b := (j + 1)) (by omega) (by omega)).mp c_2
              refine lv_iload hx hb dX3_leftAtWorst_71 (lv_at hl 5 rfl) ?_
              exact retWi hx hb hr hlk hP hS dX3_leftAtWorst_73 (by have hjn : j = 9 := (by omega); subst hjn; rfl) rfl
            · have nc_2 : ¬ 9 < (j + 1) := fun h => c_2 ((nI_ltI (a := 9) (b := (j + 1)) (by omega) (by omega)).mpr h)
              refine lv_iload hx hb dX3_leftAtWorst_45 (lv_at hl 5 rfl) ?_
              refine lv_aload_n hx hb dX3_leftAtWorst_47 rfl (lv_at hl 0 rfl) ?_
              refine lv_aload_n hx hb dX3_leftAtWorst_48 rfl (lv_at hl 0 rfl) ?_
              refine va_get (D := D) (ci := 3) (v := .ref (B 6)) (C := RX3) (T := TX3) (N := 8) hx hb hts inlX3 hown hK hP 0 rfl rfl 7 (by decide) (hts _ kw_27) (fun _ h9 => h9) rfl dX3_leftAtWorst_49 ?_
              refine lv_iload hx hb dX3_leftAtWorst_52 (lv_at hl 6 rfl) ?_
              refine va_iald (D := D) hx hb hK hP 6 0 rfl rfl (vp_in_nI (by omega) (by omega)) dX3_leftAtWorst_54 ?_
              refine topE (z := ((rowF (cByP F (I 4) n p0 p1 p2) (F 6) 1 10) (j + 1))) (congrArg _ (nI_clamp (n := (j + 1)) (by omega))) ?_
              refine lv_iload hx hb dX3_leftAtWorst_55 (lv_at hl 4 rfl) ?_
              refine rcVi (As := [.int ((rowF (cByP F (I 4) n p0 p1 p2) (F 6) 1 10) (j + 1)), .int p3]) (rest := [.int (cWorst (cByP F (I 4) n p0 p1 p2) p3 j)]) hx hb hml hown hts hKK hP (c_X3_countLike l D cI cB cS hn h3 ((rowF (cByP F (I 4) n p0 p1 p2) (F 6) 1 10) (j + 1)) p3) (cwV2 2 hts kw_519 kw_3 kw_516 kw_517 kw_518 rfl rfl (by decide +kernel) ⟨Nat.le_of_ble_eq_true rfl, Nat.le_of_ble_eq_true rfl⟩) 0 rfl rfl rfl rfl hl.1 rfl (Nat.le_of_ble_eq_true rfl) ⟨Nat.zero_le _, Nat.zero_le _⟩ dX3_leftAtWorst_57 ?_
              refine topE (z := (cLike (rowF (cByP F (I 4) n p0 p1 p2) (F 6) 1 10) ((rowF (cByP F (I 4) n p0 p1 p2) (F 6) 1 10) (j + 1)) p3 9)) rfl ?_
              refine topE (z := (cLike (cByP F (I 4) n p0 p1 p2) ((cByP F (I 4) n p0 p1 p2) (j + 1)) p3 9)) (by rw [rowF_in (by omega) (by omega)]; exact cLike_congr 9 (fun c h1 h2 => rowF_in h1 (by omega))) ?_
              refine va_mmax hx hb (hml.trans hl.1.symm) hown (hts _ kw_515) (hts _ kw_152) (hts _ kw_153) (hts _ kw_154) (Nat.le_of_ble_eq_true rfl) (Nat.le_of_ble_eq_true rfl) (Nat.zero_le _) (Nat.zero_le _) dX3_leftAtWorst_60 ?_
              refine lv_istore (lv' := [(5, .int (if cWorst (cByP F (I 4) n p0 p1 p2) p3 j < (cLike (cByP F (I 4) n p0 p1 p2) ((cByP F (I 4) n p0 p1 p2) (j + 1)) p3 9) then (cLike (cByP F (I 4) n p0 p1 p2) ((cByP F (I 4) n p0 p1 p2) (j + 1)) p3 9) else cWorst (cByP F (I 4) n p0 p1 p2) p3 j)), (0, .ref (B 0)), (1, .int p0), (2, .int p1), (3, .int p2), (4, .int p3), (6, .int (nI (j + 1)))]) hx hb dX3_leftAtWorst_63 hl (by decide) rfl (fun ls hl => ?_)
              refine lv_iinc (v := (nI ((j + 1) + 1))) (lv' := [(6, .int (nI ((j + 1) + 1))), (5, .int (if cWorst (cByP F (I 4) n p0 p1 p2) p3 j < (cLike (cByP F (I 4) n p0 p1 p2) ((cByP F (I 4) n p0 p1 p2) (j + 1)) p3 9) then (cLike (cByP F (I 4) n p0 p1 p2) ((cByP F (I 4) n p0 p1 p2) (j + 1)) p3 9) else cWorst (cByP F (I 4) n p0 p1 p2) p3 j)), (0, .ref (B 0)), (1, .int p0), (2, .int p1), (3, .int p2), (4, .int p3)]) hx hb dX3_leftAtWorst_65 hl (k := 6) rfl (nI_add (j + 1) 1) (by decide) rfl (fun ls hl => ?_)
              refine lv_goto (tgt := 38) hx hb dX3_leftAtWorst_68 (by decide) ?_
              have hP9 : va_P D vwCl (wsB B cI cS I (va_up F 6 (rowF (cByP F (I 4) n p0 p1 p2) (F 6) 1 10))) H := by exact hP
              exact ih_38 (j + 1) (if cWorst (cByP F (I 4) n p0 p1 p2) p3 j < (cLike (cByP F (I 4) n p0 p1 p2) ((cByP F (I 4) n p0 p1 p2) (j + 1)) p3 9) then (cLike (cByP F (I 4) n p0 p1 p2) ((cByP F (I 4) n p0 p1 p2) (j + 1)) p3 9) else cWorst (cByP F (I 4) n p0 p1 p2) p3 j) (nI ((j + 1) + 1)) (by rw [cWorst]) rfl (by omega) (by omega) H locs hP9 hS ls (lv_sub hl [2, 3, 4, 5, 6, 1, 0] rfl)
        have hP9 : va_P D vwCl (wsB B cI cS I (va_up F 6 (rowF (cByP F (I 4) n p0 p1 p2) (F 6) 1 10))) H := by have hkn : k = 9 := (by omega); subst hkn; exact hP
        exact loop_38 ((9 - 0) + 1) 0 (0 : Int32) (1 : Int32) rfl rfl (by omega) (by omega) H locs hP9 hS ls (lv_sub hl [2, 3, 4, 5, 6, 1, 0] rfl)
      · have nc_1 : ¬ 9 < (k + 1) := fun h => c_1 ((nI_ltI (a := 9) (b := (k + 1)) (by omega) (by omega)).mpr h)
        refine lv_aload_n hx hb dX3_leftAtWorst_10 rfl (lv_at hl 0 rfl) ?_
        refine va_get (D := D) (ci := 3) (v := .ref (B 6)) (C := RX3) (T := TX3) (N := 8) hx hb hts inlX3 hown hK hP 0 rfl rfl 7 (by decide) (hts _ kw_27) (fun _ h9 => h9) rfl dX3_leftAtWorst_11 ?_
        refine lv_iload hx hb dX3_leftAtWorst_14 (lv_at hl 5 rfl) ?_
        refine lv_aload_n hx hb dX3_leftAtWorst_16 rfl (lv_at hl 0 rfl) ?_
        refine lv_iload_n hx hb dX3_leftAtWorst_17 rfl (lv_at hl 1 rfl) ?_
        refine lv_iload_n hx hb dX3_leftAtWorst_18 rfl (lv_at hl 2 rfl) ?_
        refine lv_iload_n hx hb dX3_leftAtWorst_19 rfl (lv_at hl 3 rfl) ?_
        refine lv_iload hx hb dX3_leftAtWorst_20 (lv_at hl 5 rfl) ?_
        refine rcVi (As := [.int p0, .int p1, .int p2, .int (nI (k + 1))]) (rest := [.int (nI (k + 1)), .ref (B 6)]) hx hb hml hown hts hKK hP (c_X3_comesIf l D cI cB cS hn h3 p0 p1 p2 (nI (k + 1))) (cwV2 4 hts kw_282 kw_3 kw_279 kw_280 kw_281 rfl rfl (by decide +kernel) ⟨Nat.le_of_ble_eq_true rfl, Nat.le_of_ble_eq_true rfl⟩) 0 rfl rfl rfl rfl hl.1 rfl (Nat.le_of_ble_eq_true rfl) ⟨Nat.zero_le _, Nat.zero_le _⟩ dX3_leftAtWorst_22 ?_
        refine topE (z := (cComes F (I 4) n p0 p1 p2 (nI (k + 1)))) rfl ?_
        refine va_iast (D := D) hx hb hK hP hD hS 6 0 rfl rfl (vp_in_nI (by omega) (by omega)) dX3_leftAtWorst_25 (fun H locs hP hD hS => ?_)
        rw [nI_clamp (n := (k + 1)) (by omega)] at hP hD
        have hP : va_P D vwCl (wsB B cI cS I (va_up F 6 (upd (rowF (cByP F (I 4) n p0 p1 p2) (F 6) 1 (k + 1)) (k + 1) (cComes F (I 4) n p0 p1 p2 (nI (k + 1)))))) H := hP
        have hD : va_D (FPw (wsB B cI cS I F)) (wsB B cI cS I (va_up F 6 (upd (rowF (cByP F (I 4) n p0 p1 p2) (F 6) 1 (k + 1)) (k + 1) (cComes F (I 4) n p0 p1 p2 (nI (k + 1)))))) := hD
        refine lv_iinc (v := (nI ((k + 1) + 1))) (lv' := [(5, .int (nI ((k + 1) + 1))), (0, .ref (B 0)), (1, .int p0), (2, .int p1), (3, .int p2), (4, .int p3)]) hx hb dX3_leftAtWorst_26 hl (k := 5) rfl (nI_add (k + 1) 1) (by decide) rfl (fun ls hl => ?_)
        refine lv_goto (tgt := 3) hx hb dX3_leftAtWorst_29 (by decide) ?_
        have hP9 : va_P D vwCl (wsB B cI cS I (va_up F 6 (rowF (cByP F (I 4) n p0 p1 p2) (F 6) 1 ((k + 1) + 1)))) H := by rw [← rowF_upd (by omega)]; exact hP
        exact ih_3 (k + 1) (nI ((k + 1) + 1)) rfl (by omega) (by omega) H locs hP9 hS ls (lv_sub hl [1, 2, 3, 4, 5, 0] rfl)
  have hP9 : va_P D vwCl (wsB B cI cS I (va_up F 6 (rowF (cByP F (I 4) n p0 p1 p2) (F 6) 1 (0 + 1)))) s.heap := by rw [show (0 + 1 : Nat) = 1 from rfl, rowF_0]; exact hP
  exact loop_3 ((9 - 0) + 1) 0 (1 : Int32) rfl (by omega) (by omega) s.heap [] hP9 hS ls (lv_sub hl [1, 2, 3, 4, 5, 0] rfl)
set_option maxHeartbeats 4000000 in
set_option maxRecDepth 100000 in
theorem c_X3_wet (l : Launch) (D : va_G) (cI cB cS : ClassId) {B : Nat → Nat} {I : Nat → Int32} {F : Nat → Nat → Int32} {n : Nat} (hn : n ≤ 6) (h3 : I 3 = nI n) (p0 p1 : Int32) : Met l yX3_wet (Wm yX3_wet cX3_wet 3 (some .int)) ({ frames := 2, cells := 0, slots := 0, locals := 44 }) (va_Pc [.ref (B 0), .int p0, .int p1] (PR D (TYS cI cB cS) (wsB B cI cS I F))) (QcV (some (.int (cWetS F (I 4) n p0 p1)))) 0 0 (fun _ => False) := by
  refine metR (by decide) [.ref (B 0), .int p0, .int p1] (Nat.le_of_ble_eq_true rfl) ?_
  intro p e s m args below meth c hx hb hml hr hlk hown hts hKK hP ls hl
  obtain ⟨hK, hN⟩ := id hKK
  have hl : lv_has ls 3 [(0, .ref (B 0)), (1, .int p0), (2, .int p1)] := hl
  refine lv_aload_n hx hb dX3_wet_0 rfl (lv_at hl 0 rfl) ?_
  refine lv_iload_n hx hb dX3_wet_1 rfl (lv_at hl 1 rfl) ?_
  refine rcVi (As := [.int p0]) (rest := []) hx hb hml hown hts hKK hP (c_X3_isStroke l D cI cB cS hn h3 p0) (cwV2 1 hts kw_266 kw_3 kw_263 kw_264 kw_265 rfl rfl (by decide +kernel) ⟨Nat.le_of_ble_eq_true rfl, Nat.le_of_ble_eq_true rfl⟩) 0 rfl rfl rfl rfl hl.1 rfl (Nat.le_of_ble_eq_true rfl) ⟨Nat.zero_le _, Nat.zero_le _⟩ dX3_wet_2 ?_
  refine lv_if_ne (tgt := 11) hx hb dX3_wet_5 (by decide) (fun c_1 => ?_) (fun c_1 => ?_)
  · have c_1 := b2_nz c_1
    obtain ⟨k, hk, rfl⟩ := okS_nat hn c_1
    have hkc : (nI k).toNatClampNeg = k := nI_clamp (by omega)
    refine lv_iload_n hx hb dX3_wet_11 rfl (lv_at hl 2 rfl) ?_
    refine rcSi (As := [.int p1]) (rest := []) hx hb hml hown hts hKK hP (c_X3_isMinute l D cI cB cS p1) (cwS2 1 hts kw_376 kw_3 kw_374 kw_375 rfl rfl (by decide +kernel) ⟨Nat.le_of_ble_eq_true rfl, Nat.le_of_ble_eq_true rfl⟩) rfl hl.1 rfl (Nat.le_of_ble_eq_true rfl) ⟨Nat.zero_le _, Nat.zero_le _⟩ dX3_wet_12 ?_
    refine lv_if_ne (tgt := 21) hx hb dX3_wet_15 (by decide) (fun c_2 => ?_) (fun c_2 => ?_)
    · have c_2 := b2_nz c_2
      refine lv_aload_n hx hb dX3_wet_21 rfl (lv_at hl 0 rfl) ?_
      refine va_get (D := D) (ci := 3) (v := .ref (B 3)) (C := RX3) (T := TX3) (N := 8) hx hb hts inlX3 hown hK hP 0 rfl rfl 2 (by decide) (hts _ kw_21) (fun _ h9 => h9) rfl dX3_wet_22 ?_
      refine lv_iload_n hx hb dX3_wet_25 rfl (lv_at hl 1 rfl) ?_
      refine rcVi (As := [.int (nI k)]) (rest := []) hx hb hml hown hts hKK hP (c_X1_isSanded l D cI cB cS (q := 3) rfl (nI k)) (cwV2 1 hts kw_270 kw_20 kw_267 kw_268 kw_269 rfl rfl (by decide +kernel) ⟨Nat.le_of_ble_eq_true rfl, Nat.le_of_ble_eq_true rfl⟩) 3 rfl rfl rfl rfl hl.1 rfl (Nat.le_of_ble_eq_true rfl) ⟨Nat.zero_le _, Nat.zero_le _⟩ dX3_wet_26 ?_
      refine lv_if_eq (tgt := 36) hx hb dX3_wet_29 (by decide) (fun c_3 => ?_) (fun c_3 => ?_)
      · have c_3 := b2_z c_3
        refine lv_aload_n hx hb dX3_wet_36 rfl (lv_at hl 0 rfl) ?_
        refine va_get (D := D) (ci := 3) (v := .ref (B 2)) (C := RX3) (T := TX3) (N := 8) hx hb hts inlX3 hown hK hP 0 rfl rfl 1 (by decide) (hts _ kw_17) (fun _ h9 => h9) rfl dX3_wet_37 ?_
        refine lv_iload_n hx hb dX3_wet_40 rfl (lv_at hl 1 rfl) ?_
        refine va_aldq (D := D) hx hb hK hP 2 2 rfl rfl (vp_in_nI (by omega) (by omega)) dX3_wet_41 ?_
        refine topV (z := .ref (B (16 + k))) (congrArg (fun j => Value.ref (B (16 + j))) (nI_clamp (n := k) (by omega))) ?_
        refine lv_iload_n hx hb dX3_wet_42 rfl (lv_at hl 2 rfl) ?_
        refine lv_aload_n hx hb dX3_wet_43 rfl (lv_at hl 0 rfl) ?_
        refine va_get (D := D) (ci := 3) (v := .ref (B 2)) (C := RX3) (T := TX3) (N := 8) hx hb hts inlX3 hown hK hP 0 rfl rfl 1 (by decide) (hts _ kw_17) (fun _ h9 => h9) rfl dX3_wet_44 ?_
        refine lv_iload_n hx hb dX3_wet_47 rfl (lv_at hl 1 rfl) ?_
        refine va_aldq (D := D) hx hb hK hP 2 2 rfl rfl (vp_in_nI (by omega) (by omega)) dX3_wet_48 ?_
        refine topV (z := .ref (B (16 + k))) (congrArg (fun j => Value.ref (B (16 + j))) (nI_clamp (n := k) (by omega))) ?_
        refine va_getN (D := D) (ci := 2) (v := .int ((F 19) k)) (C := RX2) (T := TX2) (N := 5) hx hb hts inlX2 hown hK hP (16 + k) (wsB_st (by omega)) rfl 4 (by decide) (nfF_12 hN) (fun _ h9 => h9) rfl dX3_wet_49 ?_
        refine rcVi (As := [.int p1, .int ((F 19) k)]) (rest := []) hx hb hml hown hts hKK hP (c_X2_wetAt l D cI cB cS (wsB_st (by omega)) p1 ((F 19) k)) (cwV2 2 hts kw_286 kw_29 kw_283 kw_284 kw_285 rfl rfl (by decide +kernel) ⟨Nat.le_of_ble_eq_true rfl, Nat.le_of_ble_eq_true rfl⟩) (16 + k) (wsB_st (by omega)) rfl rfl rfl hl.1 rfl (Nat.le_of_ble_eq_true rfl) ⟨Nat.zero_le _, Nat.zero_le _⟩ dX3_wet_52 ?_
        exact retRi hx hb hr hlk dX3_wet_55 (by grind [cWetS])
      · have c_3 := b2_nz c_3
        refine lv_iconst (v := (0 : Int32)) hx hb dX3_wet_32 (by decide) ?_
        refine lv_goto (tgt := 55) hx hb dX3_wet_33 (by decide) ?_
        exact retRi hx hb hr hlk dX3_wet_55 (by grind [cWetS])
    · have c_2 := b2_z c_2
      refine lv_bipush (v := (-102 : Int32)) hx hb dX3_wet_18 (by decide) ?_
      exact retRi hx hb hr hlk dX3_wet_20 (by grind [cWetS])
  · have c_1 := b2_z c_1
    refine lv_bipush (v := (-101 : Int32)) hx hb dX3_wet_8 (by decide) ?_
    exact retRi hx hb hr hlk dX3_wet_10 (by grind [cWetS])
set_option maxHeartbeats 4000000 in
set_option maxRecDepth 100000 in
theorem c_X3_reachesAny (l : Launch) (D : va_G) (cI cB cS : ClassId) {B : Nat → Nat} {I : Nat → Int32} {F : Nat → Nat → Int32} {n : Nat} (hn : n ≤ 6) (h3 : I 3 = nI n) {k : Nat} (hk : k < n) (p1 p2 : Int32) : Met l yX3_reachesAny (Wm yX3_reachesAny cX3_reachesAny 7 (some .boolean)) ({ frames := 3, cells := 0, slots := 0, locals := 66 }) (va_Pc [.ref (B 0), .int (nI k), .int p1, .int p2] (PR D (TYS cI cB cS) (wsB B cI cS I F))) (QcV (some (.int (b2 (cReach F (I 4) n p1 p2 k))))) 0 0 (fun _ => False) := by
  refine metR (by decide) [.ref (B 0), .int (nI k), .int p1, .int p2] (Nat.le_of_ble_eq_true rfl) ?_
  intro p e s m args below meth c hx hb hml hr hlk hown hts hKK hP ls hl
  obtain ⟨hK, hN⟩ := id hKK
  have hl : lv_has ls 7 [(0, .ref (B 0)), (1, .int (nI k)), (2, .int p1), (3, .int p2)] := hl
  refine lv_aload_n hx hb dX3_reachesAny_0 rfl (lv_at hl 0 rfl) ?_
  refine lv_iload_n hx hb dX3_reachesAny_1 rfl (lv_at hl 1 rfl) ?_
  refine lv_iload_n hx hb dX3_reachesAny_2 rfl (lv_at hl 2 rfl) ?_
  refine rcVi (As := [.int (nI k), .int p1]) (rest := []) hx hb hml hown hts hKK hP (c_X3_wet l D cI cB cS hn h3 (nI k) p1) (cwV2 2 hts kw_373 kw_3 kw_464 kw_371 kw_372 rfl rfl (by decide +kernel) ⟨Nat.le_of_ble_eq_true rfl, Nat.le_of_ble_eq_true rfl⟩) 0 rfl rfl rfl rfl hl.1 rfl (Nat.le_of_ble_eq_true rfl) ⟨Nat.zero_le _, Nat.zero_le _⟩ dX3_reachesAny_3 ?_
  refine topE (z := (cWetS F (I 4) n (nI k) p1)) rfl ?_
  refine lv_istore (lv' := [(4, .int (cWetS F (I 4) n (nI k) p1)), (0, .ref (B 0)), (1, .int (nI k)), (2, .int p1), (3, .int p2)]) hx hb dX3_reachesAny_6 hl (by decide) rfl (fun ls hl => ?_)
  refine lv_iconst (v := (0 : Int32)) hx hb dX3_reachesAny_8 (by decide) ?_
  refine lv_istore (lv' := [(5, .int (0 : Int32)), (4, .int (cWetS F (I 4) n (nI k) p1)), (0, .ref (B 0)), (1, .int (nI k)), (2, .int p1), (3, .int p2)]) hx hb dX3_reachesAny_9 hl (by decide) rfl (fun ls hl => ?_)
  have loop_11 : ∀ (z : Nat) (j : Nat) (x5 : Int32), x5 = nI j → (j ≤ 10) → (∀ c, c < j → ¬ ((p2 >>> (nI c &&& 31)) &&& 1 = 1 ∧ 0 < cGives (F 17 k) (F 18 k) (F 16 k) (9 - nI c) (cWetS F (I 4) n (nI k) p1))) → 10 - j < z → ∀ (ls : Array Slot), lv_has ls 7 [(0, .ref (B 0)), (1, .int (nI k)), (2, .int p1), (3, .int p2), (4, .int (cWetS F (I 4) n (nI k) p1)), (5, .int x5)] → W p l e ({ frames := 3, cells := 0, slots := 0, locals := 66 } : Room) s m args below meth c s.heap [] 0 0 (MQ below (QcV (some (.int (b2 (cReach F (I 4) n p1 p2 k))))) args s 0 0 (fun _ => False)) (F0 m 11 ls []) := by
    intro z
    induction z with
    | zero =>
      intro j x5 ex5 hj hno hz
      exact absurd hz (Nat.not_lt_zero _)
    | succ z ih_11 =>
      intro j x5 ex5 hj hno hz ls hl
      subst ex5
      refine lv_iload hx hb dX3_reachesAny_11 (lv_at hl 5 rfl) ?_
      refine lv_bipush (v := (10 : Int32)) hx hb dX3_reachesAny_13 (by decide) ?_
      refine lv_icmp_ge (tgt := 75) hx hb dX3_reachesAny_15 (by decide) (fun c_1 => ?_) (fun c_1 => ?_)
      · have nc_1 : 10 ≤ j := (nI_leI (a := 10) (b := j) (by omega) (by omega)).mp c_1
        refine lv_iconst (v := (0 : Int32)) hx hb dX3_reachesAny_75 (by decide) ?_
        exact retRz hx hb hr hlk dX3_reachesAny_76 (by exact b2_f (fun h => h (fun c hc => hno c (by omega))))
      · have nc_1 : ¬ 10 ≤ j := fun h => c_1 ((nI_leI (a := 10) (b := j) (by omega) (by omega)).mpr h)
        refine lv_iload_n hx hb dX3_reachesAny_18 rfl (lv_at hl 3 rfl) ?_
        refine lv_iload hx hb dX3_reachesAny_19 (lv_at hl 5 rfl) ?_
        refine lv_ishr hx hb dX3_reachesAny_21 ?_
        refine lv_iconst (v := (1 : Int32)) hx hb dX3_reachesAny_22 (by decide) ?_
        refine lv_iand hx hb dX3_reachesAny_23 ?_
        refine lv_iconst (v := (1 : Int32)) hx hb dX3_reachesAny_24 (by decide) ?_
        refine lv_icmp_ne (tgt := 32) hx hb dX3_reachesAny_25 (by decide) (fun c_2 => ?_) (fun c_2 => ?_)
        · refine lv_iconst (v := (0 : Int32)) hx hb dX3_reachesAny_32 (by decide) ?_
          refine lv_istore (lv' := [(6, .int (0 : Int32)), (0, .ref (B 0)), (1, .int (nI k)), (2, .int p1), (3, .int p2), (4, .int (cWetS F (I 4) n (nI k) p1)), (5, .int (nI j))]) hx hb dX3_reachesAny_33 hl (by decide) rfl (fun ls hl => ?_)
          refine lv_iload hx hb dX3_reachesAny_35 (lv_at hl 0 rfl) ?_
          refine lv_if_eq (tgt := 69) hx hb dX3_reachesAny_37 (by decide) (fun c_3 => ?_) (fun c_3 => ?_)
          · refine lv_iinc (v := (nI (j + 1))) (lv' := [(5, .int (nI (j + 1))), (6, .int (0 : Int32)), (0, .ref (B 0)), (1, .int (nI k)), (2, .int p1), (3, .int p2), (4, .int (cWetS F (I 4) n (nI k) p1))]) hx hb dX3_reachesAny_69 hl (k := 6) rfl (nI_add j 1) (by decide) rfl (fun ls hl => ?_)
            refine lv_goto (tgt := 11) hx hb dX3_reachesAny_72 (by decide) ?_
            exact ih_11 (j + 1) (nI (j + 1)) rfl (by omega) (by intro i hi; by_cases hik : i = j; (subst hik; grind); exact hno i (by omega)) (by omega) ls (lv_sub hl [2, 3, 4, 5, 6, 0] rfl)
          · exact absurd c_3 (by decide)
        · refine lv_iconst (v := (1 : Int32)) hx hb dX3_reachesAny_28 (by decide) ?_
          refine lv_goto (tgt := 33) hx hb dX3_reachesAny_29 (by decide) ?_
          refine lv_istore (lv' := [(6, .int (1 : Int32)), (0, .ref (B 0)), (1, .int (nI k)), (2, .int p1), (3, .int p2), (4, .int (cWetS F (I 4) n (nI k) p1)), (5, .int (nI j))]) hx hb dX3_reachesAny_33 hl (by decide) rfl (fun ls hl => ?_)
          refine lv_iload hx hb dX3_reachesAny_35 (lv_at hl 0 rfl) ?_
          refine lv_if_eq (tgt := 69) hx hb dX3_reachesAny_37 (by decide) (fun c_4 => ?_) (fun c_4 => ?_)
          · exact absurd c_4 (by decide)
          · refine lv_aload_n hx hb dX3_reachesAny_40 rfl (lv_at hl 1 rfl) ?_
            refine lv_iload_n hx hb dX3_reachesAny_41 rfl (lv_at hl 2 rfl) ?_
            refine rcVi (As := [.int (nI k)]) (rest := []) hx hb hml hown hts hKK hP (c_X3_isStroke l D cI cB cS hn h3 (nI k)) (cwV2 1 hts kw_266 kw_3 kw_263 kw_264 kw_265 rfl rfl (by decide +kernel) ⟨Nat.le_of_ble_eq_true rfl, Nat.le_of_ble_eq_true rfl⟩) 0 rfl rfl rfl rfl hl.1 rfl (Nat.le_of_ble_eq_true rfl) ⟨Nat.zero_le _, Nat.zero_le _⟩ dX3_reachesAny_42 ?_
            refine lv_if_eq (tgt := 69) hx hb dX3_reachesAny_45 (by decide) (fun c_5 => ?_) (fun c_5 => ?_)
            · have c_5 := b2_z c_5
              exact absurd ⟨nI_pos (by omega), fun h9 => absurd ((nI_leI (a := n) (b := k) (by omega) (by omega)).mp h9) (by omega)⟩ c_5
            · have c_5 := b2_nz c_5
              refine lv_aload_n hx hb dX3_reachesAny_48 rfl (lv_at hl 1 rfl) ?_
              refine va_get (D := D) (ci := 3) (v := .ref (B 2)) (C := RX3) (T := TX3) (N := 8) hx hb hts inlX3 hown hK hP 0 rfl rfl 1 (by decide) (hts _ kw_17) (fun _ h9 => h9) rfl dX3_reachesAny_49 ?_
              refine lv_iload_n hx hb dX3_reachesAny_52 rfl (lv_at hl 2 rfl) ?_
              refine va_aldq (D := D) hx hb hK hP 2 2 rfl rfl (vp_in_nI (by omega) (by omega)) dX3_reachesAny_53 ?_
              refine topV (z := .ref (B (16 + k))) (congrArg (fun j => Value.ref (B (16 + j))) (nI_clamp (n := k) (by omega))) ?_
              refine lv_bipush (v := (9 : Int32)) hx hb dX3_reachesAny_54 (by decide) ?_
              refine lv_iload hx hb dX3_reachesAny_56 (lv_at hl 6 rfl) ?_
              refine lv_isub hx hb dX3_reachesAny_58 ?_
              refine lv_iload hx hb dX3_reachesAny_59 (lv_at hl 5 rfl) ?_
              refine rcVi (As := [.int ((9 : Int32) - nI j), .int (cWetS F (I 4) n (nI k) p1)]) (rest := []) hx hb hml hown hts hKK hP (c_X2_givesTo l D cI cB cS (wsB_st (by omega)) ((9 : Int32) - nI j) (cWetS F (I 4) n (nI k) p1)) (cwV2 2 hts kw_291 kw_29 kw_288 kw_289 kw_290 rfl rfl (by decide +kernel) ⟨Nat.le_of_ble_eq_true rfl, Nat.le_of_ble_eq_true rfl⟩) (16 + k) (wsB_st (by omega)) rfl rfl rfl hl.1 rfl (Nat.le_of_ble_eq_true rfl) ⟨Nat.zero_le _, Nat.zero_le _⟩ dX3_reachesAny_61 ?_
              refine lv_if_le (tgt := 69) hx hb dX3_reachesAny_64 (by decide) (fun c_6 => ?_) (fun c_6 => ?_)
              · refine lv_iinc (v := (nI (j + 1))) (lv' := [(5, .int (nI (j + 1))), (6, .int (1 : Int32)), (0, .ref (B 0)), (1, .int (nI k)), (2, .int p1), (3, .int p2), (4, .int (cWetS F (I 4) n (nI k) p1))]) hx hb dX3_reachesAny_69 hl (k := 6) rfl (nI_add j 1) (by decide) rfl (fun ls hl => ?_)
                refine lv_goto (tgt := 11) hx hb dX3_reachesAny_72 (by decide) ?_
                exact ih_11 (j + 1) (nI (j + 1)) rfl (by omega) (by intro i hi; by_cases hik : i = j; (subst hik; grind); exact hno i (by omega)) (by omega) ls (lv_sub hl [2, 3, 4, 5, 6, 0] rfl)
              · refine lv_iconst (v := (1 : Int32)) hx hb dX3_reachesAny_67 (by decide) ?_
                exact retRz hx hb hr hlk dX3_reachesAny_68 (by exact b2_t (fun h => h j (by omega) (by grind)))
  exact loop_11 ((10 - 0) + 1) 0 (0 : Int32) rfl (by omega) (by intro i hi; exact absurd hi (by omega)) (by omega) ls (lv_sub hl [2, 3, 4, 5, 1, 0] rfl)
set_option maxHeartbeats 4000000 in
set_option maxRecDepth 100000 in
theorem c_X3_about (l : Launch) (D : va_G) (cI cB cS : ClassId) {B : Nat → Nat} {I : Nat → Int32} {F : Nat → Nat → Int32} {n : Nat} (hn : n ≤ 6) (h3 : I 3 = nI n) {fd : Nat} (hfd : fd ≤ 6) (h6 : I 6 = nI fd) (p0 p1 : Int32) : Met l yX3_about (Wm yX3_about cX3_about 3 (some .int)) ({ frames := 5, cells := 0, slots := 0, locals := 120 }) (va_Pc [.ref (B 0), .int p0, .int p1] (PR D (TYS cI cB cS) (wsB B cI cS I F))) (QcV (some (.int (cAbout F (I 4) n fd p0 p1)))) 0 0 (fun _ => False) := by
  refine metR (by decide) [.ref (B 0), .int p0, .int p1] (Nat.le_of_ble_eq_true rfl) ?_
  intro p e s m args below meth c hx hb hml hr hlk hown hts hKK hP ls hl
  obtain ⟨hK, hN⟩ := id hKK
  have hl : lv_has ls 3 [(0, .ref (B 0)), (1, .int p0), (2, .int p1)] := hl
  refine lv_aload_n hx hb dX3_about_0 rfl (lv_at hl 0 rfl) ?_
  refine lv_iload_n hx hb dX3_about_1 rfl (lv_at hl 1 rfl) ?_
  refine rcVi (As := [.int p0]) (rest := []) hx hb hml hown hts hKK hP (c_X3_isStroke l D cI cB cS hn h3 p0) (cwV2 1 hts kw_266 kw_3 kw_263 kw_264 kw_265 rfl rfl (by decide +kernel) ⟨Nat.le_of_ble_eq_true rfl, Nat.le_of_ble_eq_true rfl⟩) 0 rfl rfl rfl rfl hl.1 rfl (Nat.le_of_ble_eq_true rfl) ⟨Nat.zero_le _, Nat.zero_le _⟩ dX3_about_2 ?_
  refine lv_if_ne (tgt := 11) hx hb dX3_about_5 (by decide) (fun c_1 => ?_) (fun c_1 => ?_)
  · have c_1 := b2_nz c_1
    obtain ⟨k, hk, rfl⟩ := okS_nat hn c_1
    have hkc : (nI k).toNatClampNeg = k := nI_clamp (by omega)
    refine lv_iload_n hx hb dX3_about_11 rfl (lv_at hl 2 rfl) ?_
    by_cases e_2 : p1 = (0 : Int32)
    · refine topE e_2 ?_
      refine lv_tableIn (off := 40) (tgt := 52) hx hb dX3_about_12 (by decide) (by decide) rfl (by decide) ?_
      refine lv_aload_n hx hb dX3_about_52 rfl (lv_at hl 0 rfl) ?_
      refine va_get (D := D) (ci := 3) (v := .ref (B 2)) (C := RX3) (T := TX3) (N := 8) hx hb hts inlX3 hown hK hP 0 rfl rfl 1 (by decide) (hts _ kw_17) (fun _ h9 => h9) rfl dX3_about_53 ?_
      refine lv_iload_n hx hb dX3_about_56 rfl (lv_at hl 1 rfl) ?_
      refine va_aldq (D := D) hx hb hK hP 2 2 rfl rfl (vp_in_nI (by omega) (by omega)) dX3_about_57 ?_
      refine topV (z := .ref (B (16 + k))) (congrArg (fun j => Value.ref (B (16 + j))) (nI_clamp (n := k) (by omega))) ?_
      refine va_getN (D := D) (ci := 2) (v := .int ((F 16) k)) (C := RX2) (T := TX2) (N := 5) hx hb hts inlX2 hown hK hP (16 + k) (wsB_st (by omega)) rfl 1 (by decide) (nfF_9 hN) (fun _ h9 => h9) rfl dX3_about_58 ?_
      exact retRi hx hb hr hlk dX3_about_61 (by grind [cAbout, b2])
    by_cases e_3 : p1 = (1 : Int32)
    · refine topE e_3 ?_
      refine lv_tableIn (off := 50) (tgt := 62) hx hb dX3_about_12 (by decide) (by decide) rfl (by decide) ?_
      refine lv_aload_n hx hb dX3_about_62 rfl (lv_at hl 0 rfl) ?_
      refine va_get (D := D) (ci := 3) (v := .ref (B 2)) (C := RX3) (T := TX3) (N := 8) hx hb hts inlX3 hown hK hP 0 rfl rfl 1 (by decide) (hts _ kw_17) (fun _ h9 => h9) rfl dX3_about_63 ?_
      refine lv_iload_n hx hb dX3_about_66 rfl (lv_at hl 1 rfl) ?_
      refine va_aldq (D := D) hx hb hK hP 2 2 rfl rfl (vp_in_nI (by omega) (by omega)) dX3_about_67 ?_
      refine topV (z := .ref (B (16 + k))) (congrArg (fun j => Value.ref (B (16 + j))) (nI_clamp (n := k) (by omega))) ?_
      refine va_getN (D := D) (ci := 2) (v := .int ((F 17) k)) (C := RX2) (T := TX2) (N := 5) hx hb hts inlX2 hown hK hP (16 + k) (wsB_st (by omega)) rfl 2 (by decide) (nfF_10 hN) (fun _ h9 => h9) rfl dX3_about_68 ?_
      exact retRi hx hb hr hlk dX3_about_71 (by grind [cAbout, b2])
    by_cases e_4 : p1 = (2 : Int32)
    · refine topE e_4 ?_
      refine lv_tableIn (off := 60) (tgt := 72) hx hb dX3_about_12 (by decide) (by decide) rfl (by decide) ?_
      refine lv_aload_n hx hb dX3_about_72 rfl (lv_at hl 0 rfl) ?_
      refine va_get (D := D) (ci := 3) (v := .ref (B 2)) (C := RX3) (T := TX3) (N := 8) hx hb hts inlX3 hown hK hP 0 rfl rfl 1 (by decide) (hts _ kw_17) (fun _ h9 => h9) rfl dX3_about_73 ?_
      refine lv_iload_n hx hb dX3_about_76 rfl (lv_at hl 1 rfl) ?_
      refine va_aldq (D := D) hx hb hK hP 2 2 rfl rfl (vp_in_nI (by omega) (by omega)) dX3_about_77 ?_
      refine topV (z := .ref (B (16 + k))) (congrArg (fun j => Value.ref (B (16 + j))) (nI_clamp (n := k) (by omega))) ?_
      refine va_getN (D := D) (ci := 2) (v := .int ((F 18) k)) (C := RX2) (T := TX2) (N := 5) hx hb hts inlX2 hown hK hP (16 + k) (wsB_st (by omega)) rfl 3 (by decide) (nfF_11 hN) (fun _ h9 => h9) rfl dX3_about_78 ?_
      exact retRi hx hb hr hlk dX3_about_81 (by grind [cAbout, b2])
    by_cases e_5 : p1 = (3 : Int32)
    · refine topE e_5 ?_
      refine lv_tableIn (off := 70) (tgt := 82) hx hb dX3_about_12 (by decide) (by decide) rfl (by decide) ?_
      refine lv_aload_n hx hb dX3_about_82 rfl (lv_at hl 0 rfl) ?_
      refine va_get (D := D) (ci := 3) (v := .ref (B 2)) (C := RX3) (T := TX3) (N := 8) hx hb hts inlX3 hown hK hP 0 rfl rfl 1 (by decide) (hts _ kw_17) (fun _ h9 => h9) rfl dX3_about_83 ?_
      refine lv_iload_n hx hb dX3_about_86 rfl (lv_at hl 1 rfl) ?_
      refine va_aldq (D := D) hx hb hK hP 2 2 rfl rfl (vp_in_nI (by omega) (by omega)) dX3_about_87 ?_
      refine topV (z := .ref (B (16 + k))) (congrArg (fun j => Value.ref (B (16 + j))) (nI_clamp (n := k) (by omega))) ?_
      refine va_getN (D := D) (ci := 2) (v := .int ((F 19) k)) (C := RX2) (T := TX2) (N := 5) hx hb hts inlX2 hown hK hP (16 + k) (wsB_st (by omega)) rfl 4 (by decide) (nfF_12 hN) (fun _ h9 => h9) rfl dX3_about_88 ?_
      exact retRi hx hb hr hlk dX3_about_91 (by grind [cAbout, b2])
    by_cases e_6 : p1 = (4 : Int32)
    · refine topE e_6 ?_
      refine lv_tableIn (off := 80) (tgt := 92) hx hb dX3_about_12 (by decide) (by decide) rfl (by decide) ?_
      refine lv_aload_n hx hb dX3_about_92 rfl (lv_at hl 0 rfl) ?_
      refine va_get (D := D) (ci := 3) (v := .ref (B 3)) (C := RX3) (T := TX3) (N := 8) hx hb hts inlX3 hown hK hP 0 rfl rfl 2 (by decide) (hts _ kw_21) (fun _ h9 => h9) rfl dX3_about_93 ?_
      refine lv_iload_n hx hb dX3_about_96 rfl (lv_at hl 1 rfl) ?_
      refine rcVi (As := [.int (nI k)]) (rest := []) hx hb hml hown hts hKK hP (c_X1_isSanded l D cI cB cS (q := 3) rfl (nI k)) (cwV2 1 hts kw_270 kw_20 kw_267 kw_268 kw_269 rfl rfl (by decide +kernel) ⟨Nat.le_of_ble_eq_true rfl, Nat.le_of_ble_eq_true rfl⟩) 3 rfl rfl rfl rfl hl.1 rfl (Nat.le_of_ble_eq_true rfl) ⟨Nat.zero_le _, Nat.zero_le _⟩ dX3_about_97 ?_
      refine lv_if_eq (tgt := 107) hx hb dX3_about_100 (by decide) (fun c_7 => ?_) (fun c_7 => ?_)
      · have c_7 := b2_z c_7
        refine lv_iconst (v := (0 : Int32)) hx hb dX3_about_107 (by decide) ?_
        exact retRi hx hb hr hlk dX3_about_108 (by grind [cAbout, b2])
      · have c_7 := b2_nz c_7
        refine lv_iconst (v := (1 : Int32)) hx hb dX3_about_103 (by decide) ?_
        refine lv_goto (tgt := 108) hx hb dX3_about_104 (by decide) ?_
        exact retRi hx hb hr hlk dX3_about_108 (by grind [cAbout, b2])
    by_cases e_8 : p1 = (5 : Int32)
    · refine topE e_8 ?_
      refine lv_tableIn (off := 97) (tgt := 109) hx hb dX3_about_12 (by decide) (by decide) rfl (by decide) ?_
      refine lv_aload_n hx hb dX3_about_109 rfl (lv_at hl 0 rfl) ?_
      refine lv_iload_n hx hb dX3_about_110 rfl (lv_at hl 1 rfl) ?_
      refine rcVi (As := [.int (nI k)]) (rest := []) hx hb hml hown hts hKK hP (c_X3_heavy l D cI cB cS hn h3 hfd h6 (nI k)) (cwV2 1 hts kw_274 kw_3 kw_271 kw_272 kw_273 rfl rfl (by decide +kernel) ⟨Nat.le_of_ble_eq_true rfl, Nat.le_of_ble_eq_true rfl⟩) 0 rfl rfl rfl rfl hl.1 rfl (Nat.le_of_ble_eq_true rfl) ⟨Nat.zero_le _, Nat.zero_le _⟩ dX3_about_111 ?_
      refine topE (z := (cHeavy F (I 4) n fd (nI k))) rfl ?_
      exact retRi hx hb hr hlk dX3_about_114 (by grind [cAbout, b2])
    have t_9 := lv_neT e_2 (a := 0) rfl
    have t_10 := lv_neT e_3 (a := 1) rfl
    have t_11 := lv_neT e_4 (a := 2) rfl
    have t_12 := lv_neT e_5 (a := 3) rfl
    have t_13 := lv_neT e_6 (a := 4) rfl
    have t_14 := lv_neT e_8 (a := 5) rfl
    refine lv_tableOut (tgt := 115) hx hb dX3_about_12 (by omega) (by decide) ?_
    refine lv_bipush (v := (-102 : Int32)) hx hb dX3_about_115 (by decide) ?_
    exact retRi hx hb hr hlk dX3_about_117 (by grind [cAbout, b2])
  · have c_1 := b2_z c_1
    refine lv_bipush (v := (-101 : Int32)) hx hb dX3_about_8 (by decide) ?_
    exact retRi hx hb hr hlk dX3_about_10 (by grind [cAbout, b2])
set_option maxHeartbeats 4000000 in
set_option maxRecDepth 100000 in
theorem c_X3_as (l : Launch) (D : va_G) (cI cB cS : ClassId) {B : Nat → Nat} {I : Nat → Int32} {F : Nat → Nat → Int32} {n : Nat} (hn : n ≤ 6) (h3 : I 3 = nI n) (p0 p1 : Int32) : Met l yX3_as (Wm yX3_as cX3_as 3 (some .int)) ({ frames := 1, cells := 0, slots := 0, locals := 21 }) (va_Pc [.ref (B 0), .int p0, .int p1] (PR D (TYS cI cB cS) (wsB B cI cS I F))) (QcV (some (.int (cAs F n p0 p1)))) 0 0 (fun _ => False) := by
  refine metR (by decide) [.ref (B 0), .int p0, .int p1] (Nat.le_of_ble_eq_true rfl) ?_
  intro p e s m args below meth c hx hb hml hr hlk hown hts hKK hP ls hl
  obtain ⟨hK, hN⟩ := id hKK
  have hl : lv_has ls 3 [(0, .ref (B 0)), (1, .int p0), (2, .int p1)] := hl
  refine lv_aload_n hx hb dX3_as_0 rfl (lv_at hl 0 rfl) ?_
  refine lv_iload_n hx hb dX3_as_1 rfl (lv_at hl 1 rfl) ?_
  refine rcVi (As := [.int p0]) (rest := []) hx hb hml hown hts hKK hP (c_X3_isStroke l D cI cB cS hn h3 p0) (cwV2 1 hts kw_266 kw_3 kw_263 kw_264 kw_265 rfl rfl (by decide +kernel) ⟨Nat.le_of_ble_eq_true rfl, Nat.le_of_ble_eq_true rfl⟩) 0 rfl rfl rfl rfl hl.1 rfl (Nat.le_of_ble_eq_true rfl) ⟨Nat.zero_le _, Nat.zero_le _⟩ dX3_as_2 ?_
  refine lv_if_ne (tgt := 11) hx hb dX3_as_5 (by decide) (fun c_1 => ?_) (fun c_1 => ?_)
  · have c_1 := b2_nz c_1
    obtain ⟨k, hk, rfl⟩ := okS_nat hn c_1
    have hkc : (nI k).toNatClampNeg = k := nI_clamp (by omega)
    refine lv_iload_n hx hb dX3_as_11 rfl (lv_at hl 2 rfl) ?_
    refine rcSi (As := [.int p1]) (rest := []) hx hb hml hown hts hKK hP (c_X3_isKind l D cI cB cS p1) (cwS2 1 hts kw_337 kw_3 kw_335 kw_336 rfl rfl (by decide +kernel) ⟨Nat.le_of_ble_eq_true rfl, Nat.le_of_ble_eq_true rfl⟩) rfl hl.1 rfl (Nat.le_of_ble_eq_true rfl) ⟨Nat.zero_le _, Nat.zero_le _⟩ dX3_as_12 ?_
    refine lv_if_ne (tgt := 21) hx hb dX3_as_15 (by decide) (fun c_2 => ?_) (fun c_2 => ?_)
    · have c_2 := b2_nz c_2
      refine lv_aload_n hx hb dX3_as_21 rfl (lv_at hl 0 rfl) ?_
      refine va_get (D := D) (ci := 3) (v := .ref (B 2)) (C := RX3) (T := TX3) (N := 8) hx hb hts inlX3 hown hK hP 0 rfl rfl 1 (by decide) (hts _ kw_17) (fun _ h9 => h9) rfl dX3_as_22 ?_
      refine lv_iload_n hx hb dX3_as_25 rfl (lv_at hl 1 rfl) ?_
      refine va_aldq (D := D) hx hb hK hP 2 2 rfl rfl (vp_in_nI (by omega) (by omega)) dX3_as_26 ?_
      refine topV (z := .ref (B (16 + k))) (congrArg (fun j => Value.ref (B (16 + j))) (nI_clamp (n := k) (by omega))) ?_
      refine lv_iload_n hx hb dX3_as_27 rfl (lv_at hl 2 rfl) ?_
      refine rcVi (As := [.int p1]) (rest := []) hx hb hml hown hts hKK hP (c_X2_isA l D cI cB cS (wsB_st (by omega)) p1) (cwV2 1 hts kw_295 kw_29 kw_338 kw_293 kw_294 rfl rfl (by decide +kernel) ⟨Nat.le_of_ble_eq_true rfl, Nat.le_of_ble_eq_true rfl⟩) (16 + k) (wsB_st (by omega)) rfl rfl rfl hl.1 rfl (Nat.le_of_ble_eq_true rfl) ⟨Nat.zero_le _, Nat.zero_le _⟩ dX3_as_28 ?_
      refine lv_if_eq (tgt := 38) hx hb dX3_as_31 (by decide) (fun c_3 => ?_) (fun c_3 => ?_)
      · have c_3 := b2_z c_3
        refine lv_iconst (v := (-1 : Int32)) hx hb dX3_as_38 (by decide) ?_
        exact retRi hx hb hr hlk dX3_as_39 (by grind [cAs])
      · have c_3 := b2_nz c_3
        refine lv_iload_n hx hb dX3_as_34 rfl (lv_at hl 1 rfl) ?_
        refine lv_goto (tgt := 39) hx hb dX3_as_35 (by decide) ?_
        exact retRi hx hb hr hlk dX3_as_39 (by grind [cAs])
    · have c_2 := b2_z c_2
      refine lv_bipush (v := (-102 : Int32)) hx hb dX3_as_18 (by decide) ?_
      exact retRi hx hb hr hlk dX3_as_20 (by grind [cAs])
  · have c_1 := b2_z c_1
    refine lv_bipush (v := (-101 : Int32)) hx hb dX3_as_8 (by decide) ?_
    exact retRi hx hb hr hlk dX3_as_10 (by grind [cAs])
set_option maxHeartbeats 4000000 in
set_option maxRecDepth 100000 in
theorem c_X3_write (l : Launch) (D : va_G) (cI cB cS : ClassId) {B : Nat → Nat} {I : Nat → Int32} {F : Nat → Nat → Int32} {n : Nat} (hn : n ≤ 6) (h3 : I 3 = nI n) (p0 p1 p2 p3 : Int32) : Met l yX3_write (Wm yX3_write cX3_write 6 (some .int)) ({ frames := 2, cells := 0, slots := 0, locals := 45 }) (va_Pc [.ref (B 0), .int p0, .int p1, .int p2, .int p3] (PW D (TYS cI cB cS) (wsB B cI cS I F))) (QcW D (some (.int (cWrite n p0 p1 p2 p3))) (wsB B cI cS I F) (if okW p0 p1 p2 p3 ∧ 0 < n ∧ n < 6 then wsB B cI cS (upd I 3 (nI (n + 1))) (va_up (va_up (va_up (va_up F 16 (upd (F 16) n p0)) 17 (upd (F 17) n p1)) 18 (upd (F 18) n (if 10 - p1 < p2 then 10 - p1 else p2))) 19 (upd (F 19) n p3)) else wsB B cI cS I F)) 0 0 (FPw (wsB B cI cS I F)) := by
  refine metW (by decide) [.ref (B 0), .int p0, .int p1, .int p2, .int p3] (Nat.le_of_ble_eq_true rfl) ?_
  intro p e s m args below meth c hx hb hml hr hlk hown hts hKK hP hD hS ls hl
  obtain ⟨hK, hN⟩ := id hKK
  have hl : lv_has ls 6 [(0, .ref (B 0)), (1, .int p0), (2, .int p1), (3, .int p2), (4, .int p3)] := hl
  refine lv_iload_n hx hb dX3_write_0 rfl (lv_at hl 1 rfl) ?_
  refine rcSi (As := [.int p0]) (rest := []) hx hb hml hown hts hKK hP (c_X3_isKind l D cI cB cS p0) (cwS2 1 hts kw_337 kw_3 kw_335 kw_336 rfl rfl (by decide +kernel) ⟨Nat.le_of_ble_eq_true rfl, Nat.le_of_ble_eq_true rfl⟩) rfl hl.1 rfl (Nat.le_of_ble_eq_true rfl) ⟨Nat.zero_le _, Nat.zero_le _⟩ dX3_write_1 ?_
  refine lv_if_eq (tgt := 37) hx hb dX3_write_4 (by decide) (fun c_1 => ?_) (fun c_1 => ?_)
  · have c_1 := b2_z c_1
    refine lv_bipush (v := (-102 : Int32)) hx hb dX3_write_37 (by decide) ?_
    exact retWi hx hb hr hlk hP hS dX3_write_39 (by grind [cWrite]) (by first | exact (if_pos (by grind)).symm | exact (if_neg (by grind)).symm)
  · have c_1 := b2_nz c_1
    refine lv_iload_n hx hb dX3_write_7 rfl (lv_at hl 2 rfl) ?_
    refine rcSi (As := [.int p1]) (rest := []) hx hb hml hown hts hKK hP (c_X3_isCell l D cI cB cS p1) (cwS2 1 hts kw_349 kw_3 kw_347 kw_348 rfl rfl (by decide +kernel) ⟨Nat.le_of_ble_eq_true rfl, Nat.le_of_ble_eq_true rfl⟩) rfl hl.1 rfl (Nat.le_of_ble_eq_true rfl) ⟨Nat.zero_le _, Nat.zero_le _⟩ dX3_write_8 ?_
    refine lv_if_eq (tgt := 37) hx hb dX3_write_11 (by decide) (fun c_2 => ?_) (fun c_2 => ?_)
    · have c_2 := b2_z c_2
      refine lv_bipush (v := (-102 : Int32)) hx hb dX3_write_37 (by decide) ?_
      exact retWi hx hb hr hlk hP hS dX3_write_39 (by grind [cWrite]) (by first | exact (if_pos (by grind)).symm | exact (if_neg (by grind)).symm)
    · have c_2 := b2_nz c_2
      refine lv_iload_n hx hb dX3_write_14 rfl (lv_at hl 3 rfl) ?_
      refine lv_iconst (v := (1 : Int32)) hx hb dX3_write_15 (by decide) ?_
      refine lv_icmp_lt (tgt := 37) hx hb dX3_write_16 (by decide) (fun c_3 => ?_) (fun c_3 => ?_)
      · refine lv_bipush (v := (-102 : Int32)) hx hb dX3_write_37 (by decide) ?_
        exact retWi hx hb hr hlk hP hS dX3_write_39 (by grind [cWrite]) (by first | exact (if_pos (by grind)).symm | exact (if_neg (by grind)).symm)
      · refine lv_iload_n hx hb dX3_write_19 rfl (lv_at hl 3 rfl) ?_
        refine lv_iconst (v := (5 : Int32)) hx hb dX3_write_20 (by decide) ?_
        refine lv_icmp_gt (tgt := 37) hx hb dX3_write_21 (by decide) (fun c_4 => ?_) (fun c_4 => ?_)
        · refine lv_bipush (v := (-102 : Int32)) hx hb dX3_write_37 (by decide) ?_
          exact retWi hx hb hr hlk hP hS dX3_write_39 (by grind [cWrite]) (by first | exact (if_pos (by grind)).symm | exact (if_neg (by grind)).symm)
        · refine lv_iload hx hb dX3_write_24 (lv_at hl 4 rfl) ?_
          refine lv_iconst (v := (1 : Int32)) hx hb dX3_write_26 (by decide) ?_
          refine lv_icmp_lt (tgt := 37) hx hb dX3_write_27 (by decide) (fun c_5 => ?_) (fun c_5 => ?_)
          · refine lv_bipush (v := (-102 : Int32)) hx hb dX3_write_37 (by decide) ?_
            exact retWi hx hb hr hlk hP hS dX3_write_39 (by grind [cWrite]) (by first | exact (if_pos (by grind)).symm | exact (if_neg (by grind)).symm)
          · refine lv_iload hx hb dX3_write_30 (lv_at hl 4 rfl) ?_
            refine lv_bipush (v := (9 : Int32)) hx hb dX3_write_32 (by decide) ?_
            refine lv_icmp_le (tgt := 40) hx hb dX3_write_34 (by decide) (fun c_6 => ?_) (fun c_6 => ?_)
            · refine lv_aload_n hx hb dX3_write_40 rfl (lv_at hl 0 rfl) ?_
              refine rcVi (As := []) (rest := []) hx hb hml hown hts hKK hP (c_X3_hasLeaf l D cI cB cS hn h3 ) (cwV2 0 hts kw_353 kw_3 kw_350 kw_351 kw_352 rfl rfl (by decide +kernel) ⟨Nat.le_of_ble_eq_true rfl, Nat.le_of_ble_eq_true rfl⟩) 0 rfl rfl rfl rfl hl.1 rfl (Nat.le_of_ble_eq_true rfl) ⟨Nat.zero_le _, Nat.zero_le _⟩ dX3_write_41 ?_
              refine lv_if_ne (tgt := 50) hx hb dX3_write_44 (by decide) (fun c_7 => ?_) (fun c_7 => ?_)
              · have c_7 := b2_nz c_7
                refine lv_aload_n hx hb dX3_write_50 rfl (lv_at hl 0 rfl) ?_
                refine va_get (D := D) (ci := 3) (v := .ref (B 3)) (C := RX3) (T := TX3) (N := 8) hx hb hts inlX3 hown hK hP 0 rfl rfl 2 (by decide) (hts _ kw_21) (fun _ h9 => h9) rfl dX3_write_51 ?_
                refine va_getN (D := D) (ci := 1) (v := .int (I 3)) (C := RX1) (T := TX1) (N := 8) hx hb hts inlX1 hown hK hP 3 rfl rfl 0 (by decide) (nfF_1 hN) (fun _ h9 => h9) rfl dX3_write_54 ?_
                refine topE (z := (nI n)) h3 ?_
                refine lv_istore (lv' := [(5, .int (nI n)), (0, .ref (B 0)), (1, .int p0), (2, .int p1), (3, .int p2), (4, .int p3)]) hx hb dX3_write_57 hl (by decide) rfl (fun ls hl => ?_)
                refine lv_iload hx hb dX3_write_59 (lv_at hl 0 rfl) ?_
                refine lv_if_lt (tgt := 74) hx hb dX3_write_61 (by decide) (fun c_8 => ?_) (fun c_8 => ?_)
                · have nc_8 : n < 0 := (nI_ltI (a := n) (b := 0) (by omega) (by omega)).mp c_8
                  exfalso; omega
                · have nc_8 : ¬ n < 0 := fun h => c_8 ((nI_ltI (a := n) (b := 0) (by omega) (by omega)).mpr h)
                  refine lv_iload hx hb dX3_write_64 (lv_at hl 0 rfl) ?_
                  refine lv_aload_n hx hb dX3_write_66 rfl (lv_at hl 1 rfl) ?_
                  refine va_get (D := D) (ci := 3) (v := .ref (B 2)) (C := RX3) (T := TX3) (N := 8) hx hb hts inlX3 hown hK hP 0 rfl rfl 1 (by decide) (hts _ kw_17) (fun _ h9 => h9) rfl dX3_write_67 ?_
                  refine va_alen (D := D) hx hb hK hP 2 2 rfl rfl (v := (6 : Int32)) rfl dX3_write_70 ?_
                  refine lv_icmp_lt (tgt := 77) hx hb dX3_write_71 (by decide) (fun c_9 => ?_) (fun c_9 => ?_)
                  · have nc_9 : n < 6 := (nI_ltI (a := n) (b := 6) (by omega) (by omega)).mp c_9
                    refine lv_aload_n hx hb dX3_write_77 rfl (lv_at hl 1 rfl) ?_
                    refine va_get (D := D) (ci := 3) (v := .ref (B 2)) (C := RX3) (T := TX3) (N := 8) hx hb hts inlX3 hown hK hP 0 rfl rfl 1 (by decide) (hts _ kw_17) (fun _ h9 => h9) rfl dX3_write_78 ?_
                    refine lv_iload hx hb dX3_write_81 (lv_at hl 0 rfl) ?_
                    refine va_aldq (D := D) hx hb hK hP 2 2 rfl rfl (vp_in_nI (by omega) (by omega)) dX3_write_83 ?_
                    refine topV (z := .ref (B (16 + n))) (congrArg (fun j => Value.ref (B (16 + j))) (nI_clamp (n := n) (by omega))) ?_
                    refine lv_iload_n hx hb dX3_write_84 rfl (lv_at hl 2 rfl) ?_
                    refine lv_iload_n hx hb dX3_write_85 rfl (lv_at hl 3 rfl) ?_
                    refine lv_iload_n hx hb dX3_write_86 rfl (lv_at hl 4 rfl) ?_
                    refine lv_iload hx hb dX3_write_87 (lv_at hl 5 rfl) ?_
                    refine wcVv (As := [.int p0, .int p1, .int p2, .int p3]) (rest := []) hx hb hml hown hts hKK hP hD hS (c_X2_become l D cI cB cS (k := n) (by omega) p0 p1 p2 p3) (cwV2 4 hts kw_241 kw_29 kw_238 kw_239 kw_240 rfl rfl (by decide +kernel) ⟨Nat.le_of_ble_eq_true rfl, Nat.le_of_ble_eq_true rfl⟩) (16 + n) (wsB_st (by omega)) rfl rfl rfl hl.1 rfl (Nat.le_of_ble_eq_true rfl) ⟨Nat.zero_le _, Nat.zero_le _⟩ dX3_write_89 (fun H locs hP hS => ?_)
                    have hP : va_P D vwCl (wsB B cI cS I (va_up (va_up (va_up (va_up F 16 (upd (F 16) n p0)) 17 (upd (F 17) n p1)) 18 (upd (F 18) n (if (10 : Int32) - p1 < p2 then (10 : Int32) - p1 else p2))) 19 (upd (F 19) n p3))) H := hP
                    have hD : va_D (FPw (wsB B cI cS I F)) (wsB B cI cS I (va_up (va_up (va_up (va_up F 16 (upd (F 16) n p0)) 17 (upd (F 17) n p1)) 18 (upd (F 18) n (if (10 : Int32) - p1 < p2 then (10 : Int32) - p1 else p2))) 19 (upd (F 19) n p3))) := va_D_addr (ws := (wsB B cI cS I F)) rfl hD
                    refine lv_aload_n hx hb dX3_write_92 rfl (lv_at hl 1 rfl) ?_
                    refine va_get (D := D) (ci := 3) (v := .ref (B 3)) (C := RX3) (T := TX3) (N := 8) hx hb hts inlX3 hown hK hP 0 rfl rfl 2 (by decide) (hts _ kw_21) (fun _ h9 => h9) rfl dX3_write_93 ?_
                    refine lv_iload hx hb dX3_write_96 (lv_at hl 0 rfl) ?_
                    refine lv_iconst (v := (1 : Int32)) hx hb dX3_write_98 (by decide) ?_
                    refine lv_iadd hx hb dX3_write_99 ?_
                    refine topE (z := (nI (n + 1))) (nI_add n 1) ?_
                    refine va_putN (D := D) (ci := 1) (v := .int (nI (n + 1))) (ty := tyX1 0) (C := RX1) (T := TX1) (N := 8) hx hb hts inlX1 tyX1 tyX1_ok nmX1 hown hK hP hD hS 3 rfl rfl 0 (by decide) (nfF_1 hN) (fun _ h9 => h9) rfl (tyX1_ok 0 (by decide)) rfl rfl (Nat.le_of_ble_eq_true rfl) dX3_write_100 (fun H locs hP hD hS => ?_)
                    have hP : va_P D vwCl (wsB B cI cS (upd I 3 (nI (n + 1))) (va_up (va_up (va_up (va_up F 16 (upd (F 16) n p0)) 17 (upd (F 17) n p1)) 18 (upd (F 18) n (if (10 : Int32) - p1 < p2 then (10 : Int32) - p1 else p2))) 19 (upd (F 19) n p3))) H := hP
                    have hD : va_D (FPw (wsB B cI cS I F)) (wsB B cI cS (upd I 3 (nI (n + 1))) (va_up (va_up (va_up (va_up F 16 (upd (F 16) n p0)) 17 (upd (F 17) n p1)) 18 (upd (F 18) n (if (10 : Int32) - p1 < p2 then (10 : Int32) - p1 else p2))) 19 (upd (F 19) n p3))) := hD
                    refine lv_iload hx hb dX3_write_103 (lv_at hl 0 rfl) ?_
                    exact retWi hx hb hr hlk hP hS dX3_write_105 (by grind [cWrite]) (by first | exact (if_pos (by grind)).symm | exact (if_neg (by grind)).symm)
                  · have nc_9 : ¬ n < 6 := fun h => c_9 ((nI_ltI (a := n) (b := 6) (by omega) (by omega)).mpr h)
                    refine lv_bipush (v := (-104 : Int32)) hx hb dX3_write_74 (by decide) ?_
                    exact retWi hx hb hr hlk hP hS dX3_write_76 (by grind [cWrite]) (by first | exact (if_pos (by grind)).symm | exact (if_neg (by grind)).symm)
              · have c_7 := b2_z c_7
                refine lv_bipush (v := (-103 : Int32)) hx hb dX3_write_47 (by decide) ?_
                exact retWi hx hb hr hlk hP hS dX3_write_49 (by grind [cWrite]) (by first | exact (if_pos (by grind)).symm | exact (if_neg (by grind)).symm)
            · refine lv_bipush (v := (-102 : Int32)) hx hb dX3_write_37 (by decide) ?_
              exact retWi hx hb hr hlk hP hS dX3_write_39 (by grind [cWrite]) (by first | exact (if_pos (by grind)).symm | exact (if_neg (by grind)).symm)
set_option maxHeartbeats 4000000 in
set_option maxRecDepth 100000 in
theorem c_X3_sand (l : Launch) (D : va_G) (cI cB cS : ClassId) {B : Nat → Nat} {I : Nat → Int32} {F : Nat → Nat → Int32} {n : Nat} (hn : n ≤ 6) (h3 : I 3 = nI n) (p0 p1 : Int32) : Met l yX3_sand (Wm yX3_sand cX3_sand 4 (some .int)) ({ frames := 1, cells := 0, slots := 0, locals := 23 }) (va_Pc [.ref (B 0), .int p0, .int p1] (PW D (TYS cI cB cS) (wsB B cI cS I F))) (QcW D (some (.int (if okS n p0 then b2 (bitOn (I 4) p0) else -101))) (wsB B cI cS I F) (if okS n p0 then wsB B cI cS (upd I 4 (cPut (I 4) p0 p1)) F else wsB B cI cS I F)) 0 0 (FPw (wsB B cI cS I F)) := by
  refine metW (by decide) [.ref (B 0), .int p0, .int p1] (Nat.le_of_ble_eq_true rfl) ?_
  intro p e s m args below meth c hx hb hml hr hlk hown hts hKK hP hD hS ls hl
  obtain ⟨hK, hN⟩ := id hKK
  have hl : lv_has ls 4 [(0, .ref (B 0)), (1, .int p0), (2, .int p1)] := hl
  refine lv_aload_n hx hb dX3_sand_0 rfl (lv_at hl 0 rfl) ?_
  refine lv_iload_n hx hb dX3_sand_1 rfl (lv_at hl 1 rfl) ?_
  refine rcVi (As := [.int p0]) (rest := []) hx hb hml hown hts hKK hP (c_X3_isStroke l D cI cB cS hn h3 p0) (cwV2 1 hts kw_266 kw_3 kw_263 kw_264 kw_265 rfl rfl (by decide +kernel) ⟨Nat.le_of_ble_eq_true rfl, Nat.le_of_ble_eq_true rfl⟩) 0 rfl rfl rfl rfl hl.1 rfl (Nat.le_of_ble_eq_true rfl) ⟨Nat.zero_le _, Nat.zero_le _⟩ dX3_sand_2 ?_
  refine lv_if_ne (tgt := 11) hx hb dX3_sand_5 (by decide) (fun c_1 => ?_) (fun c_1 => ?_)
  · have c_1 := b2_nz c_1
    refine lv_aload_n hx hb dX3_sand_11 rfl (lv_at hl 0 rfl) ?_
    refine va_get (D := D) (ci := 3) (v := .ref (B 3)) (C := RX3) (T := TX3) (N := 8) hx hb hts inlX3 hown hK hP 0 rfl rfl 2 (by decide) (hts _ kw_21) (fun _ h9 => h9) rfl dX3_sand_12 ?_
    refine lv_iload_n hx hb dX3_sand_15 rfl (lv_at hl 1 rfl) ?_
    refine rcVi (As := [.int p0]) (rest := []) hx hb hml hown hts hKK hP (c_X1_isSanded l D cI cB cS (q := 3) rfl p0) (cwV2 1 hts kw_270 kw_20 kw_267 kw_268 kw_269 rfl rfl (by decide +kernel) ⟨Nat.le_of_ble_eq_true rfl, Nat.le_of_ble_eq_true rfl⟩) 3 rfl rfl rfl rfl hl.1 rfl (Nat.le_of_ble_eq_true rfl) ⟨Nat.zero_le _, Nat.zero_le _⟩ dX3_sand_16 ?_
    refine lv_if_eq (tgt := 26) hx hb dX3_sand_19 (by decide) (fun c_2 => ?_) (fun c_2 => ?_)
    · have c_2 := b2_z c_2
      refine lv_iconst (v := (0 : Int32)) hx hb dX3_sand_26 (by decide) ?_
      refine lv_istore_n (lv' := [(3, .int (0 : Int32)), (0, .ref (B 0)), (1, .int p0), (2, .int p1)]) hx hb dX3_sand_27 rfl hl (by decide) rfl (fun ls hl => ?_)
      refine lv_aload_n hx hb dX3_sand_28 rfl (lv_at hl 1 rfl) ?_
      refine va_get (D := D) (ci := 3) (v := .ref (B 3)) (C := RX3) (T := TX3) (N := 8) hx hb hts inlX3 hown hK hP 0 rfl rfl 2 (by decide) (hts _ kw_21) (fun _ h9 => h9) rfl dX3_sand_29 ?_
      refine lv_iload_n hx hb dX3_sand_32 rfl (lv_at hl 2 rfl) ?_
      refine lv_iload_n hx hb dX3_sand_33 rfl (lv_at hl 3 rfl) ?_
      refine wcVv (As := [.int p0, .int p1]) (rest := []) hx hb hml hown hts hKK hP hD hS (c_X1_putSanded l D cI cB cS hn h3 p0 p1) (cwV2 2 hts kw_365 kw_20 kw_362 kw_363 kw_364 rfl rfl (by decide +kernel) ⟨Nat.le_of_ble_eq_true rfl, Nat.le_of_ble_eq_true rfl⟩) 3 rfl rfl rfl rfl hl.1 rfl (Nat.le_of_ble_eq_true rfl) ⟨Nat.zero_le _, Nat.zero_le _⟩ dX3_sand_34 (fun H locs hP hS => ?_)
      have hP : va_P D vwCl (wsB B cI cS (upd I 4 (cPut (I 4) p0 p1)) F) H := hP
      have hD : va_D (FPw (wsB B cI cS I F)) (wsB B cI cS (upd I 4 (cPut (I 4) p0 p1)) F) := va_D_addr (ws := (wsB B cI cS I F)) rfl hD
      refine lv_iload_n hx hb dX3_sand_37 rfl (lv_at hl 0 rfl) ?_
      exact retWi hx hb hr hlk hP hS dX3_sand_38 (by grind [b2]) (by first | exact (if_pos (by grind)).symm | exact (if_neg (by grind)).symm)
    · have c_2 := b2_nz c_2
      refine lv_iconst (v := (1 : Int32)) hx hb dX3_sand_22 (by decide) ?_
      refine lv_goto (tgt := 27) hx hb dX3_sand_23 (by decide) ?_
      refine lv_istore_n (lv' := [(3, .int (1 : Int32)), (0, .ref (B 0)), (1, .int p0), (2, .int p1)]) hx hb dX3_sand_27 rfl hl (by decide) rfl (fun ls hl => ?_)
      refine lv_aload_n hx hb dX3_sand_28 rfl (lv_at hl 1 rfl) ?_
      refine va_get (D := D) (ci := 3) (v := .ref (B 3)) (C := RX3) (T := TX3) (N := 8) hx hb hts inlX3 hown hK hP 0 rfl rfl 2 (by decide) (hts _ kw_21) (fun _ h9 => h9) rfl dX3_sand_29 ?_
      refine lv_iload_n hx hb dX3_sand_32 rfl (lv_at hl 2 rfl) ?_
      refine lv_iload_n hx hb dX3_sand_33 rfl (lv_at hl 3 rfl) ?_
      refine wcVv (As := [.int p0, .int p1]) (rest := []) hx hb hml hown hts hKK hP hD hS (c_X1_putSanded l D cI cB cS hn h3 p0 p1) (cwV2 2 hts kw_365 kw_20 kw_362 kw_363 kw_364 rfl rfl (by decide +kernel) ⟨Nat.le_of_ble_eq_true rfl, Nat.le_of_ble_eq_true rfl⟩) 3 rfl rfl rfl rfl hl.1 rfl (Nat.le_of_ble_eq_true rfl) ⟨Nat.zero_le _, Nat.zero_le _⟩ dX3_sand_34 (fun H locs hP hS => ?_)
      have hP : va_P D vwCl (wsB B cI cS (upd I 4 (cPut (I 4) p0 p1)) F) H := hP
      have hD : va_D (FPw (wsB B cI cS I F)) (wsB B cI cS (upd I 4 (cPut (I 4) p0 p1)) F) := va_D_addr (ws := (wsB B cI cS I F)) rfl hD
      refine lv_iload_n hx hb dX3_sand_37 rfl (lv_at hl 0 rfl) ?_
      exact retWi hx hb hr hlk hP hS dX3_sand_38 (by grind [b2]) (by first | exact (if_pos (by grind)).symm | exact (if_neg (by grind)).symm)
  · have c_1 := b2_z c_1
    refine lv_bipush (v := (-101 : Int32)) hx hb dX3_sand_8 (by decide) ?_
    exact retWi hx hb hr hlk hP hS dX3_sand_10 (by grind [b2]) (by first | exact (if_pos (by grind)).symm | exact (if_neg (by grind)).symm)
set_option maxHeartbeats 4000000 in
set_option maxRecDepth 100000 in
theorem c_X3_ink (l : Launch) (D : va_G) (cI cB cS : ClassId) {B : Nat → Nat} {I : Nat → Int32} {F : Nat → Nat → Int32} {n : Nat} (hn : n ≤ 6) (h3 : I 3 = nI n) (p0 : Int32) : Met l yX3_ink (Wm yX3_ink cX3_ink 2 (some .int)) ({ frames := 2, cells := 0, slots := 0, locals := 41 }) (va_Pc [.ref (B 0), .int p0] (PR D (TYS cI cB cS) (wsB B cI cS I F))) (QcV (some (.int (cInk (F 8) n p0)))) 0 0 (fun _ => False) := by
  refine metR (by decide) [.ref (B 0), .int p0] (Nat.le_of_ble_eq_true rfl) ?_
  intro p e s m args below meth c hx hb hml hr hlk hown hts hKK hP ls hl
  obtain ⟨hK, hN⟩ := id hKK
  have hl : lv_has ls 2 [(0, .ref (B 0)), (1, .int p0)] := hl
  refine lv_aload_n hx hb dX3_ink_0 rfl (lv_at hl 0 rfl) ?_
  refine lv_iload_n hx hb dX3_ink_1 rfl (lv_at hl 1 rfl) ?_
  refine rcVi (As := [.int p0]) (rest := []) hx hb hml hown hts hKK hP (c_X3_isLand l D cI cB cS hn h3 p0) (cwV2 1 hts kw_391 kw_3 kw_388 kw_389 kw_390 rfl rfl (by decide +kernel) ⟨Nat.le_of_ble_eq_true rfl, Nat.le_of_ble_eq_true rfl⟩) 0 rfl rfl rfl rfl hl.1 rfl (Nat.le_of_ble_eq_true rfl) ⟨Nat.zero_le _, Nat.zero_le _⟩ dX3_ink_2 ?_
  refine lv_if_eq (tgt := 20) hx hb dX3_ink_5 (by decide) (fun c_1 => ?_) (fun c_1 => ?_)
  · have c_1 := b2_z c_1
    refine lv_bipush (v := (-101 : Int32)) hx hb dX3_ink_20 (by decide) ?_
    exact retRi hx hb hr hlk dX3_ink_22 (by grind [cInk])
  · have c_1 := b2_nz c_1
    obtain ⟨k, hk, rfl⟩ := okCell_nat c_1.2
    have hkc : (nI k).toNatClampNeg = k := nI_clamp (by omega)
    refine lv_aload_n hx hb dX3_ink_8 rfl (lv_at hl 0 rfl) ?_
    refine va_get (D := D) (ci := 3) (v := .ref (B 3)) (C := RX3) (T := TX3) (N := 8) hx hb hts inlX3 hown hK hP 0 rfl rfl 2 (by decide) (hts _ kw_21) (fun _ h9 => h9) rfl dX3_ink_9 ?_
    refine va_getN (D := D) (ci := 1) (v := .ref (B 8)) (C := RX1) (T := TX1) (N := 8) hx hb hts inlX1 hown hK hP 3 rfl rfl 4 (by decide) (nfF_5 hN) (fun _ h9 => h9) rfl dX3_ink_12 ?_
    refine lv_iload_n hx hb dX3_ink_15 rfl (lv_at hl 1 rfl) ?_
    refine va_iald (D := D) hx hb hK hP 8 0 rfl rfl (vp_in_nI (by omega) (by omega)) dX3_ink_16 ?_
    refine topE (z := ((F 8) k)) (congrArg _ (nI_clamp (n := k) (by omega))) ?_
    refine lv_goto (tgt := 22) hx hb dX3_ink_17 (by decide) ?_
    exact retRi hx hb hr hlk dX3_ink_22 (by grind [cInk])
set_option maxHeartbeats 4000000 in
set_option maxRecDepth 100000 in
theorem c_X3_comes (l : Launch) (D : va_G) (cI cB cS : ClassId) {B : Nat → Nat} {I : Nat → Int32} {F : Nat → Nat → Int32} {n : Nat} (hn : n ≤ 6) (h3 : I 3 = nI n) (p0 p1 : Int32) : Met l yX3_comes (Wm yX3_comes cX3_comes 3 (some .int)) ({ frames := 4, cells := 0, slots := 0, locals := 96 }) (va_Pc [.ref (B 0), .int p0, .int p1] (PR D (TYS cI cB cS) (wsB B cI cS I F))) (QcV (some (.int (cComesS F (I 4) n p0 p1)))) 0 0 (fun _ => False) := by
  refine metR (by decide) [.ref (B 0), .int p0, .int p1] (Nat.le_of_ble_eq_true rfl) ?_
  intro p e s m args below meth c hx hb hml hr hlk hown hts hKK hP ls hl
  obtain ⟨hK, hN⟩ := id hKK
  have hl : lv_has ls 3 [(0, .ref (B 0)), (1, .int p0), (2, .int p1)] := hl
  refine lv_aload_n hx hb dX3_comes_0 rfl (lv_at hl 0 rfl) ?_
  refine lv_iload_n hx hb dX3_comes_1 rfl (lv_at hl 1 rfl) ?_
  refine rcVi (As := [.int p0]) (rest := []) hx hb hml hown hts hKK hP (c_X3_isLand l D cI cB cS hn h3 p0) (cwV2 1 hts kw_391 kw_3 kw_388 kw_389 kw_390 rfl rfl (by decide +kernel) ⟨Nat.le_of_ble_eq_true rfl, Nat.le_of_ble_eq_true rfl⟩) 0 rfl rfl rfl rfl hl.1 rfl (Nat.le_of_ble_eq_true rfl) ⟨Nat.zero_le _, Nat.zero_le _⟩ dX3_comes_2 ?_
  refine lv_if_ne (tgt := 11) hx hb dX3_comes_5 (by decide) (fun c_1 => ?_) (fun c_1 => ?_)
  · have c_1 := b2_nz c_1
    refine lv_iload_n hx hb dX3_comes_11 rfl (lv_at hl 2 rfl) ?_
    refine rcSi (As := [.int p1]) (rest := []) hx hb hml hown hts hKK hP (c_X3_isMinute l D cI cB cS p1) (cwS2 1 hts kw_376 kw_3 kw_374 kw_375 rfl rfl (by decide +kernel) ⟨Nat.le_of_ble_eq_true rfl, Nat.le_of_ble_eq_true rfl⟩) rfl hl.1 rfl (Nat.le_of_ble_eq_true rfl) ⟨Nat.zero_le _, Nat.zero_le _⟩ dX3_comes_12 ?_
    refine lv_if_eq (tgt := 27) hx hb dX3_comes_15 (by decide) (fun c_2 => ?_) (fun c_2 => ?_)
    · have c_2 := b2_z c_2
      refine lv_bipush (v := (-102 : Int32)) hx hb dX3_comes_27 (by decide) ?_
      exact retRi hx hb hr hlk dX3_comes_29 (by grind [cComesS])
    · have c_2 := b2_nz c_2
      refine lv_aload_n hx hb dX3_comes_18 rfl (lv_at hl 0 rfl) ?_
      refine lv_iload_n hx hb dX3_comes_19 rfl (lv_at hl 1 rfl) ?_
      refine lv_iload_n hx hb dX3_comes_20 rfl (lv_at hl 2 rfl) ?_
      refine rcVi (As := [.int p0, .int p1]) (rest := []) hx hb hml hown hts hKK hP (c_X3_comesNow l D cI cB cS hn h3 p0 p1) (cwV2 2 hts kw_407 kw_3 kw_404 kw_405 kw_406 rfl rfl (by decide +kernel) ⟨Nat.le_of_ble_eq_true rfl, Nat.le_of_ble_eq_true rfl⟩) 0 rfl rfl rfl rfl hl.1 rfl (Nat.le_of_ble_eq_true rfl) ⟨Nat.zero_le _, Nat.zero_le _⟩ dX3_comes_21 ?_
      refine topE (z := (cNow F (I 4) n p0 p1)) rfl ?_
      refine lv_goto (tgt := 29) hx hb dX3_comes_24 (by decide) ?_
      exact retRi hx hb hr hlk dX3_comes_29 (by grind [cComesS])
  · have c_1 := b2_z c_1
    refine lv_bipush (v := (-101 : Int32)) hx hb dX3_comes_8 (by decide) ?_
    exact retRi hx hb hr hlk dX3_comes_10 (by grind [cComesS])
set_option maxHeartbeats 4000000 in
set_option maxRecDepth 100000 in
theorem c_X3_evening (l : Launch) (D : va_G) (cI cB cS : ClassId) {B : Nat → Nat} {I : Nat → Int32} {F : Nat → Nat → Int32} {n : Nat} (hn : n ≤ 6) (h3 : I 3 = nI n) (p0 : Int32) : Met l yX3_evening (Wm yX3_evening cX3_evening 2 (some .int)) ({ frames := 5, cells := 0, slots := 0, locals := 121 }) (va_Pc [.ref (B 0), .int p0] (PW D (TYS cI cB cS) (wsB B cI cS I F))) (QcW D (some (.int (if okMin p0 then (if 0 < n then sumN (fun c => cNow F (I 4) n (nI c) p0) 10 else -103) else -102))) (wsB B cI cS I F) (if okMin p0 ∧ 0 < n then wsB B cI cS (upd I 5 (I 5 + 1)) (va_up F 8 (rowN (cPress F (I 4) n p0 (F 8)) (F 8) 10)) else wsB B cI cS I F)) 0 0 (FPw (wsB B cI cS I F)) := by
  refine metW (by decide) [.ref (B 0), .int p0] (Nat.le_of_ble_eq_true rfl) ?_
  intro p e s m args below meth c hx hb hml hr hlk hown hts hKK hP hD hS ls hl
  obtain ⟨hK, hN⟩ := id hKK
  have hl : lv_has ls 2 [(0, .ref (B 0)), (1, .int p0)] := hl
  refine lv_iload_n hx hb dX3_evening_0 rfl (lv_at hl 1 rfl) ?_
  refine rcSi (As := [.int p0]) (rest := []) hx hb hml hown hts hKK hP (c_X3_isMinute l D cI cB cS p0) (cwS2 1 hts kw_376 kw_3 kw_374 kw_375 rfl rfl (by decide +kernel) ⟨Nat.le_of_ble_eq_true rfl, Nat.le_of_ble_eq_true rfl⟩) rfl hl.1 rfl (Nat.le_of_ble_eq_true rfl) ⟨Nat.zero_le _, Nat.zero_le _⟩ dX3_evening_1 ?_
  refine lv_if_ne (tgt := 10) hx hb dX3_evening_4 (by decide) (fun c_1 => ?_) (fun c_1 => ?_)
  · have c_1 := b2_nz c_1
    refine lv_aload_n hx hb dX3_evening_10 rfl (lv_at hl 0 rfl) ?_
    refine rcVi (As := []) (rest := []) hx hb hml hown hts hKK hP (c_X3_hasLeaf l D cI cB cS hn h3 ) (cwV2 0 hts kw_353 kw_3 kw_350 kw_351 kw_352 rfl rfl (by decide +kernel) ⟨Nat.le_of_ble_eq_true rfl, Nat.le_of_ble_eq_true rfl⟩) 0 rfl rfl rfl rfl hl.1 rfl (Nat.le_of_ble_eq_true rfl) ⟨Nat.zero_le _, Nat.zero_le _⟩ dX3_evening_11 ?_
    refine lv_if_ne (tgt := 20) hx hb dX3_evening_14 (by decide) (fun c_2 => ?_) (fun c_2 => ?_)
    · have c_2 := b2_nz c_2
      refine lv_aload_n hx hb dX3_evening_20 rfl (lv_at hl 0 rfl) ?_
      refine va_get (D := D) (ci := 3) (v := .ref (B 3)) (C := RX3) (T := TX3) (N := 8) hx hb hts inlX3 hown hK hP 0 rfl rfl 2 (by decide) (hts _ kw_21) (fun _ h9 => h9) rfl dX3_evening_21 ?_
      refine lv_dup hx hb dX3_evening_24 rfl ?_
      refine va_getN (D := D) (ci := 1) (v := .int (I 5)) (C := RX1) (T := TX1) (N := 8) hx hb hts inlX1 hown hK hP 3 rfl rfl 2 (by decide) (nfF_3 hN) (fun _ h9 => h9) rfl dX3_evening_25 ?_
      refine lv_iconst (v := (1 : Int32)) hx hb dX3_evening_28 (by decide) ?_
      refine lv_iadd hx hb dX3_evening_29 ?_
      refine va_putN (D := D) (ci := 1) (v := .int ((I 5) + (1 : Int32))) (ty := tyX1 2) (C := RX1) (T := TX1) (N := 8) hx hb hts inlX1 tyX1 tyX1_ok nmX1 hown hK hP hD hS 3 rfl rfl 2 (by decide) (nfF_3 hN) (fun _ h9 => h9) rfl (tyX1_ok 2 (by decide)) rfl rfl (Nat.le_of_ble_eq_true rfl) dX3_evening_30 (fun H locs hP hD hS => ?_)
      have hP : va_P D vwCl (wsB B cI cS (upd I 5 ((I 5) + (1 : Int32))) F) H := hP
      have hD : va_D (FPw (wsB B cI cS I F)) (wsB B cI cS (upd I 5 ((I 5) + (1 : Int32))) F) := hD
      refine lv_aload_n hx hb dX3_evening_33 rfl (lv_at hl 0 rfl) ?_
      refine lv_aload_n hx hb dX3_evening_34 rfl (lv_at hl 0 rfl) ?_
      refine va_get (D := D) (ci := 3) (v := .ref (B 3)) (C := RX3) (T := TX3) (N := 8) hx hb hts inlX3 hown hK hP 0 rfl rfl 2 (by decide) (hts _ kw_21) (fun _ h9 => h9) rfl dX3_evening_35 ?_
      refine va_getN (D := D) (ci := 1) (v := .ref (B 8)) (C := RX1) (T := TX1) (N := 8) hx hb hts inlX1 hown hK hP 3 rfl rfl 4 (by decide) (nfF_5 hN) (fun _ h9 => h9) rfl dX3_evening_38 ?_
      refine lv_iload_n hx hb dX3_evening_41 rfl (lv_at hl 1 rfl) ?_
      refine wcVi (As := [.ref (B 8), .int p0]) (rest := []) hx hb hml hown hts hKK hP hD hS (c_X3_pressOff_8 l D cI cB cS hn (show (upd I 5 ((I 5) + (1 : Int32))) 3 = nI n from h3) p0) (cwV2 2 hts kw_419 kw_3 kw_416 kw_417 kw_418 rfl rfl (by decide +kernel) ⟨Nat.le_of_ble_eq_true rfl, Nat.le_of_ble_eq_true rfl⟩) 0 rfl rfl rfl rfl hl.1 rfl (Nat.le_of_ble_eq_true rfl) ⟨Nat.zero_le _, Nat.zero_le _⟩ dX3_evening_42 (fun H locs hP hS => ?_)
      have hP : va_P D vwCl (wsB B cI cS (upd I 5 ((I 5) + (1 : Int32))) (va_up F 8 (rowN (cPress F (I 4) n p0 (F 8)) (F 8) 10))) H := hP
      have hD : va_D (FPw (wsB B cI cS I F)) (wsB B cI cS (upd I 5 ((I 5) + (1 : Int32))) (va_up F 8 (rowN (cPress F (I 4) n p0 (F 8)) (F 8) 10))) := va_D_addr (ws := (wsB B cI cS (upd I 5 ((I 5) + (1 : Int32))) F)) rfl hD
      refine topE (z := (sumN (fun c => cNow F (I 4) n (nI c) p0) 10)) rfl ?_
      exact retWi hx hb hr hlk hP hS dX3_evening_45 (by grind) (by first | exact (if_pos (by grind)).symm | exact (if_neg (by grind)).symm)
    · have c_2 := b2_z c_2
      refine lv_bipush (v := (-103 : Int32)) hx hb dX3_evening_17 (by decide) ?_
      exact retWi hx hb hr hlk hP hS dX3_evening_19 (by grind) (by first | exact (if_pos (by grind)).symm | exact (if_neg (by grind)).symm)
  · have c_1 := b2_z c_1
    refine lv_bipush (v := (-102 : Int32)) hx hb dX3_evening_7 (by decide) ?_
    exact retWi hx hb hr hlk hP hS dX3_evening_9 (by grind) (by first | exact (if_pos (by grind)).symm | exact (if_neg (by grind)).symm)
set_option maxHeartbeats 4000000 in
set_option maxRecDepth 100000 in
theorem c_X3_hills (l : Launch) (D : va_G) (cI cB cS : ClassId) {B : Nat → Nat} {I : Nat → Int32} {F : Nat → Nat → Int32} {n : Nat} (hn : n ≤ 6) (h3 : I 3 = nI n) (p0 : Int32) : Met l yX3_hills (Wm yX3_hills cX3_hills 6 (some .int)) ({ frames := 1, cells := 0, slots := 0, locals := 20 }) (va_Pc [.ref (B 0), .int p0] (PR D (TYS cI cB cS) (wsB B cI cS I F))) (QcV (some (.int (cHills (F 8) n p0)))) 0 0 (fun _ => False) := by
  refine metR (by decide) [.ref (B 0), .int p0] (Nat.le_of_ble_eq_true rfl) ?_
  intro p e s m args below meth c hx hb hml hr hlk hown hts hKK hP ls hl
  obtain ⟨hK, hN⟩ := id hKK
  have hl : lv_has ls 6 [(0, .ref (B 0)), (1, .int p0)] := hl
  refine lv_iload_n hx hb dX3_hills_0 rfl (lv_at hl 1 rfl) ?_
  refine lv_iconst (v := (1 : Int32)) hx hb dX3_hills_1 (by decide) ?_
  refine lv_icmp_lt (tgt := 11) hx hb dX3_hills_2 (by decide) (fun c_1 => ?_) (fun c_1 => ?_)
  · refine lv_bipush (v := (-102 : Int32)) hx hb dX3_hills_11 (by decide) ?_
    exact retRi hx hb hr hlk dX3_hills_13 (by grind [cHills])
  · refine lv_iload_n hx hb dX3_hills_5 rfl (lv_at hl 1 rfl) ?_
    refine lv_bipush (v := (99 : Int32)) hx hb dX3_hills_6 (by decide) ?_
    refine lv_icmp_le (tgt := 14) hx hb dX3_hills_8 (by decide) (fun c_2 => ?_) (fun c_2 => ?_)
    · refine lv_aload_n hx hb dX3_hills_14 rfl (lv_at hl 0 rfl) ?_
      refine rcVi (As := []) (rest := []) hx hb hml hown hts hKK hP (c_X3_hasLeaf l D cI cB cS hn h3 ) (cwV2 0 hts kw_353 kw_3 kw_350 kw_351 kw_352 rfl rfl (by decide +kernel) ⟨Nat.le_of_ble_eq_true rfl, Nat.le_of_ble_eq_true rfl⟩) 0 rfl rfl rfl rfl hl.1 rfl (Nat.le_of_ble_eq_true rfl) ⟨Nat.zero_le _, Nat.zero_le _⟩ dX3_hills_15 ?_
      refine lv_if_ne (tgt := 24) hx hb dX3_hills_18 (by decide) (fun c_3 => ?_) (fun c_3 => ?_)
      · have c_3 := b2_nz c_3
        refine lv_iconst (v := (0 : Int32)) hx hb dX3_hills_24 (by decide) ?_
        refine lv_istore_n (lv' := [(2, .int (0 : Int32)), (0, .ref (B 0)), (1, .int p0)]) hx hb dX3_hills_25 rfl hl (by decide) rfl (fun ls hl => ?_)
        refine lv_iconst (v := (0 : Int32)) hx hb dX3_hills_26 (by decide) ?_
        refine lv_istore_n (lv' := [(3, .int (0 : Int32)), (2, .int (0 : Int32)), (0, .ref (B 0)), (1, .int p0)]) hx hb dX3_hills_27 rfl hl (by decide) rfl (fun ls hl => ?_)
        refine lv_iconst (v := (0 : Int32)) hx hb dX3_hills_28 (by decide) ?_
        refine lv_istore (lv' := [(4, .int (0 : Int32)), (3, .int (0 : Int32)), (2, .int (0 : Int32)), (0, .ref (B 0)), (1, .int p0)]) hx hb dX3_hills_29 hl (by decide) rfl (fun ls hl => ?_)
        have loop_31 : ∀ (z : Nat) (k : Nat) (x2 : Int32) (x3 : Int32) (x4 : Int32), x2 = cHillN (F 8) p0 k → x3 = cIn (F 8) p0 k → x4 = nI k → (k ≤ 10) → 10 - k < z → ∀ (ls : Array Slot), lv_has ls 6 [(0, .ref (B 0)), (1, .int p0), (2, .int x2), (3, .int x3), (4, .int x4)] → W p l e ({ frames := 1, cells := 0, slots := 0, locals := 20 } : Room) s m args below meth c s.heap [] 0 0 (MQ below (QcV (some (.int (cHills (F 8) n p0)))) args s 0 0 (fun _ => False)) (F0 m 31 ls []) := by
          intro z
          induction z with
          | zero =>
            intro k x2 x3 x4 ex2 ex3 ex4 hk hz
            exact absurd hz (Nat.not_lt_zero _)
          | succ z ih_31 =>
            intro k x2 x3 x4 ex2 ex3 ex4 hk hz ls hl
            subst ex2
            subst ex3
            subst ex4
            refine lv_iload hx hb dX3_hills_31 (lv_at hl 4 rfl) ?_
            refine lv_bipush (v := (10 : Int32)) hx hb dX3_hills_33 (by decide) ?_
            refine lv_icmp_ge (tgt := 80) hx hb dX3_hills_35 (by decide) (fun c_4 => ?_) (fun c_4 => ?_)
            · have nc_4 : 10 ≤ k := (nI_leI (a := 10) (b := k) (by omega) (by omega)).mp c_4
              refine lv_iload_n hx hb dX3_hills_80 rfl (lv_at hl 2 rfl) ?_
              exact retRi hx hb hr hlk dX3_hills_81 (by have hkn : k = 10 := (by omega); subst hkn; grind [cHills])
            · have nc_4 : ¬ 10 ≤ k := fun h => c_4 ((nI_leI (a := 10) (b := k) (by omega) (by omega)).mpr h)
              refine lv_aload_n hx hb dX3_hills_38 rfl (lv_at hl 0 rfl) ?_
              refine va_get (D := D) (ci := 3) (v := .ref (B 3)) (C := RX3) (T := TX3) (N := 8) hx hb hts inlX3 hown hK hP 0 rfl rfl 2 (by decide) (hts _ kw_21) (fun _ h9 => h9) rfl dX3_hills_39 ?_
              refine va_getN (D := D) (ci := 1) (v := .ref (B 8)) (C := RX1) (T := TX1) (N := 8) hx hb hts inlX1 hown hK hP 3 rfl rfl 4 (by decide) (nfF_5 hN) (fun _ h9 => h9) rfl dX3_hills_42 ?_
              refine lv_iload hx hb dX3_hills_45 (lv_at hl 4 rfl) ?_
              refine va_iald (D := D) hx hb hK hP 8 0 rfl rfl (vp_in_nI (by omega) (by omega)) dX3_hills_47 ?_
              refine topE (z := ((F 8) k)) (congrArg _ (nI_clamp (n := k) (by omega))) ?_
              refine lv_iload_n hx hb dX3_hills_48 rfl (lv_at hl 1 rfl) ?_
              refine lv_icmp_lt (tgt := 56) hx hb dX3_hills_49 (by decide) (fun c_5 => ?_) (fun c_5 => ?_)
              · refine lv_iconst (v := (0 : Int32)) hx hb dX3_hills_56 (by decide) ?_
                refine lv_istore (lv' := [(5, .int (0 : Int32)), (0, .ref (B 0)), (1, .int p0), (2, .int (cHillN (F 8) p0 k)), (3, .int (cIn (F 8) p0 k)), (4, .int (nI k))]) hx hb dX3_hills_57 hl (by decide) rfl (fun ls hl => ?_)
                refine lv_iload hx hb dX3_hills_59 (lv_at hl 0 rfl) ?_
                refine lv_if_eq (tgt := 71) hx hb dX3_hills_61 (by decide) (fun c_6 => ?_) (fun c_6 => ?_)
                · refine lv_iload hx hb dX3_hills_71 (lv_at hl 0 rfl) ?_
                  refine lv_istore_n (lv' := [(3, .int (0 : Int32)), (5, .int (0 : Int32)), (0, .ref (B 0)), (1, .int p0), (2, .int (cHillN (F 8) p0 k)), (4, .int (nI k))]) hx hb dX3_hills_73 rfl hl (by decide) rfl (fun ls hl => ?_)
                  refine lv_iinc (v := (nI (k + 1))) (lv' := [(4, .int (nI (k + 1))), (3, .int (0 : Int32)), (5, .int (0 : Int32)), (0, .ref (B 0)), (1, .int p0), (2, .int (cHillN (F 8) p0 k))]) hx hb dX3_hills_74 hl (k := 5) rfl (nI_add k 1) (by decide) rfl (fun ls hl => ?_)
                  refine lv_goto (tgt := 31) hx hb dX3_hills_77 (by decide) ?_
                  exact ih_31 (k + 1) (cHillN (F 8) p0 k) (0 : Int32) (nI (k + 1)) (by grind [cHillN]) (by grind [cIn, b2]) rfl (by omega) (by omega) ls (lv_sub hl [3, 4, 5, 1, 0] rfl)
                · exact absurd c_6 (by decide)
              · refine lv_iconst (v := (1 : Int32)) hx hb dX3_hills_52 (by decide) ?_
                refine lv_goto (tgt := 57) hx hb dX3_hills_53 (by decide) ?_
                refine lv_istore (lv' := [(5, .int (1 : Int32)), (0, .ref (B 0)), (1, .int p0), (2, .int (cHillN (F 8) p0 k)), (3, .int (cIn (F 8) p0 k)), (4, .int (nI k))]) hx hb dX3_hills_57 hl (by decide) rfl (fun ls hl => ?_)
                refine lv_iload hx hb dX3_hills_59 (lv_at hl 0 rfl) ?_
                refine lv_if_eq (tgt := 71) hx hb dX3_hills_61 (by decide) (fun c_7 => ?_) (fun c_7 => ?_)
                · exact absurd c_7 (by decide)
                · refine lv_iload_n hx hb dX3_hills_64 rfl (lv_at hl 4 rfl) ?_
                  refine lv_if_ne (tgt := 71) hx hb dX3_hills_65 (by decide) (fun c_8 => ?_) (fun c_8 => ?_)
                  · refine lv_iload hx hb dX3_hills_71 (lv_at hl 0 rfl) ?_
                    refine lv_istore_n (lv' := [(3, .int (1 : Int32)), (5, .int (1 : Int32)), (0, .ref (B 0)), (1, .int p0), (2, .int (cHillN (F 8) p0 k)), (4, .int (nI k))]) hx hb dX3_hills_73 rfl hl (by decide) rfl (fun ls hl => ?_)
                    refine lv_iinc (v := (nI (k + 1))) (lv' := [(4, .int (nI (k + 1))), (3, .int (1 : Int32)), (5, .int (1 : Int32)), (0, .ref (B 0)), (1, .int p0), (2, .int (cHillN (F 8) p0 k))]) hx hb dX3_hills_74 hl (k := 5) rfl (nI_add k 1) (by decide) rfl (fun ls hl => ?_)
                    refine lv_goto (tgt := 31) hx hb dX3_hills_77 (by decide) ?_
                    exact ih_31 (k + 1) (cHillN (F 8) p0 k) (1 : Int32) (nI (k + 1)) (by grind [cHillN]) (by grind [cIn, b2]) rfl (by omega) (by omega) ls (lv_sub hl [3, 4, 5, 1, 0] rfl)
                  · refine lv_iinc (v := (cHillN (F 8) p0 k + (1 : Int32))) (lv' := [(2, .int (cHillN (F 8) p0 k + (1 : Int32))), (5, .int (1 : Int32)), (0, .ref (B 0)), (1, .int p0), (3, .int (cIn (F 8) p0 k)), (4, .int (nI k))]) hx hb dX3_hills_68 hl (k := 3) rfl rfl (by decide) rfl (fun ls hl => ?_)
                    refine lv_iload hx hb dX3_hills_71 (lv_at hl 1 rfl) ?_
                    refine lv_istore_n (lv' := [(3, .int (1 : Int32)), (2, .int (cHillN (F 8) p0 k + (1 : Int32))), (5, .int (1 : Int32)), (0, .ref (B 0)), (1, .int p0), (4, .int (nI k))]) hx hb dX3_hills_73 rfl hl (by decide) rfl (fun ls hl => ?_)
                    refine lv_iinc (v := (nI (k + 1))) (lv' := [(4, .int (nI (k + 1))), (3, .int (1 : Int32)), (2, .int (cHillN (F 8) p0 k + (1 : Int32))), (5, .int (1 : Int32)), (0, .ref (B 0)), (1, .int p0)]) hx hb dX3_hills_74 hl (k := 5) rfl (nI_add k 1) (by decide) rfl (fun ls hl => ?_)
                    refine lv_goto (tgt := 31) hx hb dX3_hills_77 (by decide) ?_
                    exact ih_31 (k + 1) (cHillN (F 8) p0 k + (1 : Int32)) (1 : Int32) (nI (k + 1)) (by grind [cHillN]) (by grind [cIn, b2]) rfl (by omega) (by omega) ls (lv_sub hl [4, 5, 2, 1, 0] rfl)
        exact loop_31 ((10 - 0) + 1) 0 (0 : Int32) (0 : Int32) (0 : Int32) rfl rfl rfl (by omega) (by omega) ls (lv_sub hl [3, 4, 2, 1, 0] rfl)
      · have c_3 := b2_z c_3
        refine lv_bipush (v := (-103 : Int32)) hx hb dX3_hills_21 (by decide) ?_
        exact retRi hx hb hr hlk dX3_hills_23 (by grind [cHills])
    · refine lv_bipush (v := (-102 : Int32)) hx hb dX3_hills_11 (by decide) ?_
      exact retRi hx hb hr hlk dX3_hills_13 (by grind [cHills])
set_option maxHeartbeats 4000000 in
set_option maxRecDepth 100000 in
theorem c_X3_close (l : Launch) (D : va_G) (cI cB cS : ClassId) {B : Nat → Nat} {I : Nat → Int32} {F : Nat → Nat → Int32} {n : Nat} (hn : n ≤ 6) (h3 : I 3 = nI n) (p0 p1 : Int32) : Met l yX3_close (Wm yX3_close cX3_close 4 (some .int)) ({ frames := 4, cells := 0, slots := 0, locals := 96 }) (va_Pc [.ref (B 0), .int p0, .int p1] (PR D (TYS cI cB cS) (wsB B cI cS I F))) (QcV (some (.int (cClose F (I 4) n p0 p1)))) 0 0 (fun _ => False) := by
  refine metR (by decide) [.ref (B 0), .int p0, .int p1] (Nat.le_of_ble_eq_true rfl) ?_
  intro p e s m args below meth c hx hb hml hr hlk hown hts hKK hP ls hl
  obtain ⟨hK, hN⟩ := id hKK
  have hl : lv_has ls 4 [(0, .ref (B 0)), (1, .int p0), (2, .int p1)] := hl
  refine lv_aload_n hx hb dX3_close_0 rfl (lv_at hl 0 rfl) ?_
  refine lv_iload_n hx hb dX3_close_1 rfl (lv_at hl 1 rfl) ?_
  refine rcVi (As := [.int p0]) (rest := []) hx hb hml hown hts hKK hP (c_X3_isLand l D cI cB cS hn h3 p0) (cwV2 1 hts kw_391 kw_3 kw_388 kw_389 kw_390 rfl rfl (by decide +kernel) ⟨Nat.le_of_ble_eq_true rfl, Nat.le_of_ble_eq_true rfl⟩) 0 rfl rfl rfl rfl hl.1 rfl (Nat.le_of_ble_eq_true rfl) ⟨Nat.zero_le _, Nat.zero_le _⟩ dX3_close_2 ?_
  refine lv_if_ne (tgt := 11) hx hb dX3_close_5 (by decide) (fun c_1 => ?_) (fun c_1 => ?_)
  · have c_1 := b2_nz c_1
    refine lv_iload_n hx hb dX3_close_11 rfl (lv_at hl 2 rfl) ?_
    refine rcSi (As := [.int p1]) (rest := []) hx hb hml hown hts hKK hP (c_X3_isMuch l D cI cB cS p1) (cwS2 1 hts kw_447 kw_3 kw_445 kw_446 rfl rfl (by decide +kernel) ⟨Nat.le_of_ble_eq_true rfl, Nat.le_of_ble_eq_true rfl⟩) rfl hl.1 rfl (Nat.le_of_ble_eq_true rfl) ⟨Nat.zero_le _, Nat.zero_le _⟩ dX3_close_12 ?_
    refine lv_if_ne (tgt := 21) hx hb dX3_close_15 (by decide) (fun c_2 => ?_) (fun c_2 => ?_)
    · have c_2 := b2_nz c_2
      refine lv_iconst (v := (0 : Int32)) hx hb dX3_close_21 (by decide) ?_
      refine lv_istore_n (lv' := [(3, .int (0 : Int32)), (0, .ref (B 0)), (1, .int p0), (2, .int p1)]) hx hb dX3_close_22 rfl hl (by decide) rfl (fun ls hl => ?_)
      have loop_23 : ∀ (z : Nat) (k : Nat) (x3 : Int32), x3 = nI k → (k ≤ 21) → (cFirst (fun k => cNow F (I 4) n p0 (nI k)) p1 (21 - k) k = cFirst (fun k => cNow F (I 4) n p0 (nI k)) p1 21 0) → 21 - k < z → ∀ (ls : Array Slot), lv_has ls 4 [(0, .ref (B 0)), (1, .int p0), (2, .int p1), (3, .int x3)] → W p l e ({ frames := 4, cells := 0, slots := 0, locals := 96 } : Room) s m args below meth c s.heap [] 0 0 (MQ below (QcV (some (.int (cClose F (I 4) n p0 p1)))) args s 0 0 (fun _ => False)) (F0 m 23 ls []) := by
        intro z
        induction z with
        | zero =>
          intro k x3 ex3 hk hF hz
          exact absurd hz (Nat.not_lt_zero _)
        | succ z ih_23 =>
          intro k x3 ex3 hk hF hz ls hl
          subst ex3
          refine lv_iload_n hx hb dX3_close_23 rfl (lv_at hl 3 rfl) ?_
          refine lv_bipush (v := (20 : Int32)) hx hb dX3_close_24 (by decide) ?_
          refine lv_icmp_gt (tgt := 47) hx hb dX3_close_26 (by decide) (fun c_3 => ?_) (fun c_3 => ?_)
          · have nc_3 : 20 < k := (nI_ltI (a := 20) (b := k) (by omega) (by omega)).mp c_3
            refine lv_iconst (v := (-1 : Int32)) hx hb dX3_close_47 (by decide) ?_
            exact retRi hx hb hr hlk dX3_close_48 (by have hkn : k = 21 := (by omega); subst hkn; have hq : (-1 : Int32) = _ := hF; rw [hq]; grind [cClose])
          · have nc_3 : ¬ 20 < k := fun h => c_3 ((nI_ltI (a := 20) (b := k) (by omega) (by omega)).mpr h)
            refine lv_aload_n hx hb dX3_close_29 rfl (lv_at hl 0 rfl) ?_
            refine lv_iload_n hx hb dX3_close_30 rfl (lv_at hl 1 rfl) ?_
            refine lv_iload_n hx hb dX3_close_31 rfl (lv_at hl 3 rfl) ?_
            refine rcVi (As := [.int p0, .int (nI k)]) (rest := []) hx hb hml hown hts hKK hP (c_X3_comesNow l D cI cB cS hn h3 p0 (nI k)) (cwV2 2 hts kw_407 kw_3 kw_404 kw_405 kw_406 rfl rfl (by decide +kernel) ⟨Nat.le_of_ble_eq_true rfl, Nat.le_of_ble_eq_true rfl⟩) 0 rfl rfl rfl rfl hl.1 rfl (Nat.le_of_ble_eq_true rfl) ⟨Nat.zero_le _, Nat.zero_le _⟩ dX3_close_32 ?_
            refine topE (z := (cNow F (I 4) n p0 (nI k))) rfl ?_
            refine lv_iload_n hx hb dX3_close_35 rfl (lv_at hl 2 rfl) ?_
            refine lv_icmp_ne (tgt := 41) hx hb dX3_close_36 (by decide) (fun c_4 => ?_) (fun c_4 => ?_)
            · refine lv_iinc (v := (nI (k + 1))) (lv' := [(3, .int (nI (k + 1))), (0, .ref (B 0)), (1, .int p0), (2, .int p1)]) hx hb dX3_close_41 hl (k := 3) rfl (nI_add k 1) (by decide) rfl (fun ls hl => ?_)
              refine lv_goto (tgt := 23) hx hb dX3_close_44 (by decide) ?_
              exact ih_23 (k + 1) (nI (k + 1)) rfl (by omega) (by exact (cFirst_step (by omega) hF).2 (by assumption)) (by omega) ls (lv_sub hl [1, 2, 3, 0] rfl)
            · refine lv_iload_n hx hb dX3_close_39 rfl (lv_at hl 3 rfl) ?_
              exact retRi hx hb hr hlk dX3_close_40 (by rw [(cFirst_step (by omega) hF).1 (by assumption)]; grind [cClose])
      exact loop_23 ((21 - 0) + 1) 0 (0 : Int32) rfl (by omega) (by rfl) (by omega) ls (lv_sub hl [1, 2, 3, 0] rfl)
    · have c_2 := b2_z c_2
      refine lv_bipush (v := (-102 : Int32)) hx hb dX3_close_18 (by decide) ?_
      exact retRi hx hb hr hlk dX3_close_20 (by grind [cClose])
  · have c_1 := b2_z c_1
    refine lv_bipush (v := (-101 : Int32)) hx hb dX3_close_8 (by decide) ?_
    exact retRi hx hb hr hlk dX3_close_10 (by grind [cClose])
end
section
/-! the class's public rows that write, and what they make of rows and seeds -/
def cSd (x : Int32) : Int32 := (((1103515245 : Int64) * x.toInt64 + (12345 : Int64)) - ((1103515245 : Int64) * x.toInt64 + (12345 : Int64)) / (2147483648 : Int64) * (2147483648 : Int64)).toInt32
def cSeeds (x : Int32) : Nat → Int32
  | 0 => x
  | k + 1 => cSd (cSeeds x k)
def cMin (x : Int32) : Int32 := x / (65536 : Int32) - x / (65536 : Int32) / (21 : Int32) * (21 : Int32)
def cYRow (F : Nat → Nat → Int32) (sd : Int32) (n : Nat) (r0 : Nat → Int32) (x : Int32) : Nat → Nat → Int32
  | 0 => r0
  | k + 1 => rowN (cPress F sd n (cMin (cSeeds x (k + 1))) (cYRow F sd n r0 x k)) (cYRow F sd n r0 x k) 10
abbrev okY (p0 p1 p2 : Int32) : Prop := ¬ p0 < 1 ∧ ¬ (60 : Int32) < p0 ∧ ¬ p1 < 0 ∧ ¬ p2 < 0 ∧ ¬ (2 : Int32) < p2
theorem yrs_nat {x : Int32} (h1 : ¬ x < 1) (h2 : ¬ (60 : Int32) < x) : ∃ m : Nat, m ≤ 60 ∧ x = nI m := by
  rcases pk_ix x (n := 61) (by decide) with h | h | ⟨j, hj, h⟩
  · exact absurd (Int32.lt_trans h (by decide)) h1
  · exact absurd (Int32.lt_of_lt_of_le (by decide : (60 : Int32) < 61) h) h2
  · exact ⟨j, by omega, h⟩
/-- what years answers, of a row and the seed at last -/
def cYears (n : Nat) (row : Nat → Int32) (sd1 p0 p1 p2 : Int32) : Int32 :=
  if okY p0 p1 p2 then (if 0 < n then (if p2 = 0 then sumN row 10 else if p2 = 1 then dryN row 10 else sd1) else -103) else -102
def cFew (w : Nat → Int32) : Nat → Int32
  | 0 => 10
  | j + 1 => if ¬ cFew w j ≤ w j then w j else cFew w j
def cBest (w : Nat → Int32) : Nat → Int32
  | 0 => -1
  | j + 1 => if ¬ cFew w j ≤ w j then nI j else cBest w j
abbrev cLkW (F : Nat → Nat → Int32) (sd : Int32) (n : Nat) (p0 p1 presses : Int32) : Nat → Int32 := fun j => cWorst (cByP F sd n (nI j) p1 p0) presses 9
def cScr (F : Nat → Nat → Int32) (sd : Int32) (n : Nat) (p0 p1 : Int32) (f6 : Nat → Int32) : Nat → Nat → Int32
  | 0 => f6
  | j + 1 => rowF (cByP F sd n (nI j) p1 p0) (cScr F sd n p0 p1 f6 j) 1 10
def cLook (F : Nat → Nat → Int32) (sd : Int32) (n fd : Nat) (p0 p1 : Int32) : Int32 :=
  if okS n p0 then (if okMin p1 then (if cHeavy F sd n fd p0 = 0 then -1 else cBest (cLkW F sd n p0 p1 (cHeavy F sd n fd p0)) 10) else -102) else -101
def cLookF (F : Nat → Nat → Int32) (sd : Int32) (n fd : Nat) (p0 p1 : Int32) (f6 : Nat → Int32) : Nat → Int32 :=
  if okS n p0 ∧ okMin p1 ∧ ¬ cHeavy F sd n fd p0 = 0 then cScr F sd n p0 p1 f6 10 else f6
theorem wsB_6 {B : Nat → Nat} {cI cS : ClassId} {I : Nat → Int32} {F : Nat → Nat → Int32} {f : Nat → Int32} (h : f = F 6) : wsB B cI cS I F = wsB B cI cS I (va_up F 6 f) := by
  subst h; rfl
def cFound (n fd : Nat) (p0 p1 p2 : Int32) : Int32 :=
  if 0 < n ∧ okCell p0 then (if okMin p1 ∧ okMuch p2 then (if fd < 6 then nI (fd + 1) else -104) else -102) else -101
def cCount (I : Nat → Int32) (f8 : Nat → Int32) (n : Nat) (p0 : Int32) : Int32 :=
  if p0 = 0 then nI n else if p0 = 1 then jbc (I 4) else if p0 = 2 then I 5 else if p0 = 3 then sumN f8 10 else if p0 = 4 then (if 0 < n then dryN f8 10 else 0)
  else if p0 = 5 then I 6 else if p0 = 6 then I 2 else if p0 = 7 then I 1 else -102
def mx (h : Int64) (v : Int32) : Int64 := (31 : Int64) * h + v.toInt64
def mixN (f : Nat → Int32) (h : Int64) : Nat → Int64
  | 0 => h
  | i + 1 => mx (mixN f h i) (f i)
def mix2 (f g : Nat → Int32) (h : Int64) : Nat → Int64
  | 0 => h
  | i + 1 => mx (mx (mix2 f g h i) (f i)) (g i)
def cLand (F : Nat → Nat → Int32) (sd : Int32) (n : Nat) (h : Int64) : Int64 :=
  mx (mx (mx (mix2 (fun c => cInk (F 8) n (nI c)) (fun c => cComesS F sd n (nI c) 4) h 10) (cHills (F 8) n 5)) (cToSand F sd n 4 1023 0)) (cToSand F sd n 4 1023 1)
def cDigS (F : Nat → Nat → Int32) (sd : Int32) (n fd : Nat) : Nat → Int64
  | 0 => 1049
  | k + 1 => mx (mx (mx (mixN (fun w => cAbout F sd n fd (nI k) (nI w)) (cDigS F sd n fd k) 6) (cWetS F sd n (nI k) 3)) (cWetS F sd n (nI k) 9)) (cLook F sd n fd (nI k) 6)
def cDScr (F : Nat → Nat → Int32) (sd : Int32) (n fd : Nat) : Nat → Nat → Int32
  | 0 => F 6
  | k + 1 => cLookF F sd n fd (nI k) 6 (cDScr F sd n fd k)
def cDigest (I : Nat → Int32) (F : Nat → Nat → Int32) (n fd sz : Nat) : Int64 :=
  mixN (fun w => cCount I (F 8) n (nI w)) (mixN (F 7) (if 0 < n then cLand F (I 4) n (cDigS F (I 4) n fd n) else cDigS F (I 4) n fd n) sz) 8
set_option maxHeartbeats 4000000 in
set_option maxRecDepth 100000 in
theorem c_J6_bitCount_0f7a4 (l : Launch) (D : va_G) (cI cB cS : ClassId) {ws : va_W} (p0 : Int32) : Met l yJ6_bitCount_0f7a4 (Wm yJ6_bitCount_0f7a4 cJ6_bitCount_0f7a4 1 (some .int)) ({ frames := 0, cells := 0, slots := 0, locals := 0 }) (va_Pc [.int p0] (PR D (TYS cI cB cS) ws)) (QcV (some (.int (jbc p0)))) 0 0 (fun _ => False) := by
  refine metR (by decide) [.int p0] (Nat.le_of_ble_eq_true rfl) ?_
  intro p e s m args below meth c hx hb hml hr hlk hown hts hKK hP ls hl
  obtain ⟨hK, hN⟩ := id hKK
  have hl : lv_has ls 1 [(0, .int p0)] := hl
  refine lv_iload_n hx hb dJ6_bitCount_0f7a4_0 rfl (lv_at hl 0 rfl) ?_
  refine lv_iload_n hx hb dJ6_bitCount_0f7a4_1 rfl (lv_at hl 0 rfl) ?_
  refine lv_iconst (v := (1 : Int32)) hx hb dJ6_bitCount_0f7a4_2 (by decide) ?_
  refine lv_iushr (v := ((p0).toUInt32 >>> ((1 : Int32).toUInt32 &&& Int32.toUInt32 31)).toInt32) hx hb dJ6_bitCount_0f7a4_3 rfl ?_
  refine lv_ldcw (v := (1431655765 : Int32)) hx hb hown (hts _ kw_469) dJ6_bitCount_0f7a4_4 ?_
  refine lv_iand hx hb dJ6_bitCount_0f7a4_7 ?_
  refine lv_isub hx hb dJ6_bitCount_0f7a4_8 ?_
  refine lv_istore_n (lv' := [(0, .int (p0 - (((p0).toUInt32 >>> ((1 : Int32).toUInt32 &&& Int32.toUInt32 31)).toInt32 &&& (1431655765 : Int32))))]) hx hb dJ6_bitCount_0f7a4_9 rfl hl (by decide) rfl (fun ls hl => ?_)
  refine lv_iload_n hx hb dJ6_bitCount_0f7a4_10 rfl (lv_at hl 0 rfl) ?_
  refine lv_ldcw (v := (858993459 : Int32)) hx hb hown (hts _ kw_470) dJ6_bitCount_0f7a4_11 ?_
  refine lv_iand hx hb dJ6_bitCount_0f7a4_14 ?_
  refine lv_iload_n hx hb dJ6_bitCount_0f7a4_15 rfl (lv_at hl 0 rfl) ?_
  refine lv_iconst (v := (2 : Int32)) hx hb dJ6_bitCount_0f7a4_16 (by decide) ?_
  refine lv_iushr (v := ((p0 - (((p0).toUInt32 >>> ((1 : Int32).toUInt32 &&& Int32.toUInt32 31)).toInt32 &&& (1431655765 : Int32))).toUInt32 >>> ((2 : Int32).toUInt32 &&& Int32.toUInt32 31)).toInt32) hx hb dJ6_bitCount_0f7a4_17 rfl ?_
  refine lv_ldcw (v := (858993459 : Int32)) hx hb hown (hts _ kw_470) dJ6_bitCount_0f7a4_18 ?_
  refine lv_iand hx hb dJ6_bitCount_0f7a4_21 ?_
  refine lv_iadd hx hb dJ6_bitCount_0f7a4_22 ?_
  refine lv_istore_n (lv' := [(0, .int (((p0 - (((p0).toUInt32 >>> ((1 : Int32).toUInt32 &&& Int32.toUInt32 31)).toInt32 &&& (1431655765 : Int32))) &&& (858993459 : Int32)) + (((p0 - (((p0).toUInt32 >>> ((1 : Int32).toUInt32 &&& Int32.toUInt32 31)).toInt32 &&& (1431655765 : Int32))).toUInt32 >>> ((2 : Int32).toUInt32 &&& Int32.toUInt32 31)).toInt32 &&& (858993459 : Int32))))]) hx hb dJ6_bitCount_0f7a4_23 rfl hl (by decide) rfl (fun ls hl => ?_)
  refine lv_iload_n hx hb dJ6_bitCount_0f7a4_24 rfl (lv_at hl 0 rfl) ?_
  refine lv_iload_n hx hb dJ6_bitCount_0f7a4_25 rfl (lv_at hl 0 rfl) ?_
  refine lv_iconst (v := (4 : Int32)) hx hb dJ6_bitCount_0f7a4_26 (by decide) ?_
  refine lv_iushr (v := ((((p0 - (((p0).toUInt32 >>> ((1 : Int32).toUInt32 &&& Int32.toUInt32 31)).toInt32 &&& (1431655765 : Int32))) &&& (858993459 : Int32)) + (((p0 - (((p0).toUInt32 >>> ((1 : Int32).toUInt32 &&& Int32.toUInt32 31)).toInt32 &&& (1431655765 : Int32))).toUInt32 >>> ((2 : Int32).toUInt32 &&& Int32.toUInt32 31)).toInt32 &&& (858993459 : Int32))).toUInt32 >>> ((4 : Int32).toUInt32 &&& Int32.toUInt32 31)).toInt32) hx hb dJ6_bitCount_0f7a4_27 rfl ?_
  refine lv_iadd hx hb dJ6_bitCount_0f7a4_28 ?_
  refine lv_ldcw (v := (252645135 : Int32)) hx hb hown (hts _ kw_471) dJ6_bitCount_0f7a4_29 ?_
  refine lv_iand hx hb dJ6_bitCount_0f7a4_32 ?_
  refine lv_istore_n (lv' := [(0, .int (((((p0 - (((p0).toUInt32 >>> ((1 : Int32).toUInt32 &&& Int32.toUInt32 31)).toInt32 &&& (1431655765 : Int32))) &&& (858993459 : Int32)) + (((p0 - (((p0).toUInt32 >>> ((1 : Int32).toUInt32 &&& Int32.toUInt32 31)).toInt32 &&& (1431655765 : Int32))).toUInt32 >>> ((2 : Int32).toUInt32 &&& Int32.toUInt32 31)).toInt32 &&& (858993459 : Int32))) + ((((p0 - (((p0).toUInt32 >>> ((1 : Int32).toUInt32 &&& Int32.toUInt32 31)).toInt32 &&& (1431655765 : Int32))) &&& (858993459 : Int32)) + (((p0 - (((p0).toUInt32 >>> ((1 : Int32).toUInt32 &&& Int32.toUInt32 31)).toInt32 &&& (1431655765 : Int32))).toUInt32 >>> ((2 : Int32).toUInt32 &&& Int32.toUInt32 31)).toInt32 &&& (858993459 : Int32))).toUInt32 >>> ((4 : Int32).toUInt32 &&& Int32.toUInt32 31)).toInt32) &&& (252645135 : Int32)))]) hx hb dJ6_bitCount_0f7a4_33 rfl hl (by decide) rfl (fun ls hl => ?_)
  refine lv_iload_n hx hb dJ6_bitCount_0f7a4_34 rfl (lv_at hl 0 rfl) ?_
  refine lv_iload_n hx hb dJ6_bitCount_0f7a4_35 rfl (lv_at hl 0 rfl) ?_
  refine lv_bipush (v := (8 : Int32)) hx hb dJ6_bitCount_0f7a4_36 (by decide) ?_
  refine lv_iushr (v := ((((((p0 - (((p0).toUInt32 >>> ((1 : Int32).toUInt32 &&& Int32.toUInt32 31)).toInt32 &&& (1431655765 : Int32))) &&& (858993459 : Int32)) + (((p0 - (((p0).toUInt32 >>> ((1 : Int32).toUInt32 &&& Int32.toUInt32 31)).toInt32 &&& (1431655765 : Int32))).toUInt32 >>> ((2 : Int32).toUInt32 &&& Int32.toUInt32 31)).toInt32 &&& (858993459 : Int32))) + ((((p0 - (((p0).toUInt32 >>> ((1 : Int32).toUInt32 &&& Int32.toUInt32 31)).toInt32 &&& (1431655765 : Int32))) &&& (858993459 : Int32)) + (((p0 - (((p0).toUInt32 >>> ((1 : Int32).toUInt32 &&& Int32.toUInt32 31)).toInt32 &&& (1431655765 : Int32))).toUInt32 >>> ((2 : Int32).toUInt32 &&& Int32.toUInt32 31)).toInt32 &&& (858993459 : Int32))).toUInt32 >>> ((4 : Int32).toUInt32 &&& Int32.toUInt32 31)).toInt32) &&& (252645135 : Int32)).toUInt32 >>> ((8 : Int32).toUInt32 &&& Int32.toUInt32 31)).toInt32) hx hb dJ6_bitCount_0f7a4_38 rfl ?_
  refine lv_iadd hx hb dJ6_bitCount_0f7a4_39 ?_
  refine lv_istore_n (lv' := [(0, .int ((((((p0 - (((p0).toUInt32 >>> ((1 : Int32).toUInt32 &&& Int32.toUInt32 31)).toInt32 &&& (1431655765 : Int32))) &&& (858993459 : Int32)) + (((p0 - (((p0).toUInt32 >>> ((1 : Int32).toUInt32 &&& Int32.toUInt32 31)).toInt32 &&& (1431655765 : Int32))).toUInt32 >>> ((2 : Int32).toUInt32 &&& Int32.toUInt32 31)).toInt32 &&& (858993459 : Int32))) + ((((p0 - (((p0).toUInt32 >>> ((1 : Int32).toUInt32 &&& Int32.toUInt32 31)).toInt32 &&& (1431655765 : Int32))) &&& (858993459 : Int32)) + (((p0 - (((p0).toUInt32 >>> ((1 : Int32).toUInt32 &&& Int32.toUInt32 31)).toInt32 &&& (1431655765 : Int32))).toUInt32 >>> ((2 : Int32).toUInt32 &&& Int32.toUInt32 31)).toInt32 &&& (858993459 : Int32))).toUInt32 >>> ((4 : Int32).toUInt32 &&& Int32.toUInt32 31)).toInt32) &&& (252645135 : Int32)) + ((((((p0 - (((p0).toUInt32 >>> ((1 : Int32).toUInt32 &&& Int32.toUInt32 31)).toInt32 &&& (1431655765 : Int32))) &&& (858993459 : Int32)) + (((p0 - (((p0).toUInt32 >>> ((1 : Int32).toUInt32 &&& Int32.toUInt32 31)).toInt32 &&& (1431655765 : Int32))).toUInt32 >>> ((2 : Int32).toUInt32 &&& Int32.toUInt32 31)).toInt32 &&& (858993459 : Int32))) + ((((p0 - (((p0).toUInt32 >>> ((1 : Int32).toUInt32 &&& Int32.toUInt32 31)).toInt32 &&& (1431655765 : Int32))) &&& (858993459 : Int32)) + (((p0 - (((p0).toUInt32 >>> ((1 : Int32).toUInt32 &&& Int32.toUInt32 31)).toInt32 &&& (1431655765 : Int32))).toUInt32 >>> ((2 : Int32).toUInt32 &&& Int32.toUInt32 31)).toInt32 &&& (858993459 : Int32))).toUInt32 >>> ((4 : Int32).toUInt32 &&& Int32.toUInt32 31)).toInt32) &&& (252645135 : Int32)).toUInt32 >>> ((8 : Int32).toUInt32 &&& Int32.toUInt32 31)).toInt32))]) hx hb dJ6_bitCount_0f7a4_40 rfl hl (by decide) rfl (fun ls hl => ?_)
  refine lv_iload_n hx hb dJ6_bitCount_0f7a4_41 rfl (lv_at hl 0 rfl) ?_
  refine lv_iload_n hx hb dJ6_bitCount_0f7a4_42 rfl (lv_at hl 0 rfl) ?_
  refine lv_bipush (v := (16 : Int32)) hx hb dJ6_bitCount_0f7a4_43 (by decide) ?_
  refine lv_iushr (v := (((((((p0 - (((p0).toUInt32 >>> ((1 : Int32).toUInt32 &&& Int32.toUInt32 31)).toInt32 &&& (1431655765 : Int32))) &&& (858993459 : Int32)) + (((p0 - (((p0).toUInt32 >>> ((1 : Int32).toUInt32 &&& Int32.toUInt32 31)).toInt32 &&& (1431655765 : Int32))).toUInt32 >>> ((2 : Int32).toUInt32 &&& Int32.toUInt32 31)).toInt32 &&& (858993459 : Int32))) + ((((p0 - (((p0).toUInt32 >>> ((1 : Int32).toUInt32 &&& Int32.toUInt32 31)).toInt32 &&& (1431655765 : Int32))) &&& (858993459 : Int32)) + (((p0 - (((p0).toUInt32 >>> ((1 : Int32).toUInt32 &&& Int32.toUInt32 31)).toInt32 &&& (1431655765 : Int32))).toUInt32 >>> ((2 : Int32).toUInt32 &&& Int32.toUInt32 31)).toInt32 &&& (858993459 : Int32))).toUInt32 >>> ((4 : Int32).toUInt32 &&& Int32.toUInt32 31)).toInt32) &&& (252645135 : Int32)) + ((((((p0 - (((p0).toUInt32 >>> ((1 : Int32).toUInt32 &&& Int32.toUInt32 31)).toInt32 &&& (1431655765 : Int32))) &&& (858993459 : Int32)) + (((p0 - (((p0).toUInt32 >>> ((1 : Int32).toUInt32 &&& Int32.toUInt32 31)).toInt32 &&& (1431655765 : Int32))).toUInt32 >>> ((2 : Int32).toUInt32 &&& Int32.toUInt32 31)).toInt32 &&& (858993459 : Int32))) + ((((p0 - (((p0).toUInt32 >>> ((1 : Int32).toUInt32 &&& Int32.toUInt32 31)).toInt32 &&& (1431655765 : Int32))) &&& (858993459 : Int32)) + (((p0 - (((p0).toUInt32 >>> ((1 : Int32).toUInt32 &&& Int32.toUInt32 31)).toInt32 &&& (1431655765 : Int32))).toUInt32 >>> ((2 : Int32).toUInt32 &&& Int32.toUInt32 31)).toInt32 &&& (858993459 : Int32))).toUInt32 >>> ((4 : Int32).toUInt32 &&& Int32.toUInt32 31)).toInt32) &&& (252645135 : Int32)).toUInt32 >>> ((8 : Int32).toUInt32 &&& Int32.toUInt32 31)).toInt32).toUInt32 >>> ((16 : Int32).toUInt32 &&& Int32.toUInt32 31)).toInt32) hx hb dJ6_bitCount_0f7a4_45 rfl ?_
  refine lv_iadd hx hb dJ6_bitCount_0f7a4_46 ?_
  refine lv_istore_n (lv' := [(0, .int (((((((p0 - (((p0).toUInt32 >>> ((1 : Int32).toUInt32 &&& Int32.toUInt32 31)).toInt32 &&& (1431655765 : Int32))) &&& (858993459 : Int32)) + (((p0 - (((p0).toUInt32 >>> ((1 : Int32).toUInt32 &&& Int32.toUInt32 31)).toInt32 &&& (1431655765 : Int32))).toUInt32 >>> ((2 : Int32).toUInt32 &&& Int32.toUInt32 31)).toInt32 &&& (858993459 : Int32))) + ((((p0 - (((p0).toUInt32 >>> ((1 : Int32).toUInt32 &&& Int32.toUInt32 31)).toInt32 &&& (1431655765 : Int32))) &&& (858993459 : Int32)) + (((p0 - (((p0).toUInt32 >>> ((1 : Int32).toUInt32 &&& Int32.toUInt32 31)).toInt32 &&& (1431655765 : Int32))).toUInt32 >>> ((2 : Int32).toUInt32 &&& Int32.toUInt32 31)).toInt32 &&& (858993459 : Int32))).toUInt32 >>> ((4 : Int32).toUInt32 &&& Int32.toUInt32 31)).toInt32) &&& (252645135 : Int32)) + ((((((p0 - (((p0).toUInt32 >>> ((1 : Int32).toUInt32 &&& Int32.toUInt32 31)).toInt32 &&& (1431655765 : Int32))) &&& (858993459 : Int32)) + (((p0 - (((p0).toUInt32 >>> ((1 : Int32).toUInt32 &&& Int32.toUInt32 31)).toInt32 &&& (1431655765 : Int32))).toUInt32 >>> ((2 : Int32).toUInt32 &&& Int32.toUInt32 31)).toInt32 &&& (858993459 : Int32))) + ((((p0 - (((p0).toUInt32 >>> ((1 : Int32).toUInt32 &&& Int32.toUInt32 31)).toInt32 &&& (1431655765 : Int32))) &&& (858993459 : Int32)) + (((p0 - (((p0).toUInt32 >>> ((1 : Int32).toUInt32 &&& Int32.toUInt32 31)).toInt32 &&& (1431655765 : Int32))).toUInt32 >>> ((2 : Int32).toUInt32 &&& Int32.toUInt32 31)).toInt32 &&& (858993459 : Int32))).toUInt32 >>> ((4 : Int32).toUInt32 &&& Int32.toUInt32 31)).toInt32) &&& (252645135 : Int32)).toUInt32 >>> ((8 : Int32).toUInt32 &&& Int32.toUInt32 31)).toInt32) + (((((((p0 - (((p0).toUInt32 >>> ((1 : Int32).toUInt32 &&& Int32.toUInt32 31)).toInt32 &&& (1431655765 : Int32))) &&& (858993459 : Int32)) + (((p0 - (((p0).toUInt32 >>> ((1 : Int32).toUInt32 &&& Int32.toUInt32 31)).toInt32 &&& (1431655765 : Int32))).toUInt32 >>> ((2 : Int32).toUInt32 &&& Int32.toUInt32 31)).toInt32 &&& (858993459 : Int32))) + ((((p0 - (((p0).toUInt32 >>> ((1 : Int32).toUInt32 &&& Int32.toUInt32 31)).toInt32 &&& (1431655765 : Int32))) &&& (858993459 : Int32)) + (((p0 - (((p0).toUInt32 >>> ((1 : Int32).toUInt32 &&& Int32.toUInt32 31)).toInt32 &&& (1431655765 : Int32))).toUInt32 >>> ((2 : Int32).toUInt32 &&& Int32.toUInt32 31)).toInt32 &&& (858993459 : Int32))).toUInt32 >>> ((4 : Int32).toUInt32 &&& Int32.toUInt32 31)).toInt32) &&& (252645135 : Int32)) + ((((((p0 - (((p0).toUInt32 >>> ((1 : Int32).toUInt32 &&& Int32.toUInt32 31)).toInt32 &&& (1431655765 : Int32))) &&& (858993459 : Int32)) + (((p0 - (((p0).toUInt32 >>> ((1 : Int32).toUInt32 &&& Int32.toUInt32 31)).toInt32 &&& (1431655765 : Int32))).toUInt32 >>> ((2 : Int32).toUInt32 &&& Int32.toUInt32 31)).toInt32 &&& (858993459 : Int32))) + ((((p0 - (((p0).toUInt32 >>> ((1 : Int32).toUInt32 &&& Int32.toUInt32 31)).toInt32 &&& (1431655765 : Int32))) &&& (858993459 : Int32)) + (((p0 - (((p0).toUInt32 >>> ((1 : Int32).toUInt32 &&& Int32.toUInt32 31)).toInt32 &&& (1431655765 : Int32))).toUInt32 >>> ((2 : Int32).toUInt32 &&& Int32.toUInt32 31)).toInt32 &&& (858993459 : Int32))).toUInt32 >>> ((4 : Int32).toUInt32 &&& Int32.toUInt32 31)).toInt32) &&& (252645135 : Int32)).toUInt32 >>> ((8 : Int32).toUInt32 &&& Int32.toUInt32 31)).toInt32).toUInt32 >>> ((16 : Int32).toUInt32 &&& Int32.toUInt32 31)).toInt32))]) hx hb dJ6_bitCount_0f7a4_47 rfl hl (by decide) rfl (fun ls hl => ?_)
  refine lv_iload_n hx hb dJ6_bitCount_0f7a4_48 rfl (lv_at hl 0 rfl) ?_
  refine lv_bipush (v := (63 : Int32)) hx hb dJ6_bitCount_0f7a4_49 (by decide) ?_
  refine lv_iand hx hb dJ6_bitCount_0f7a4_51 ?_
  exact retRi hx hb hr hlk dJ6_bitCount_0f7a4_52 rfl
set_option maxHeartbeats 4000000 in
set_option maxRecDepth 100000 in
theorem c_X3_toSand (l : Launch) (D : va_G) (cI cB cS : ClassId) {B : Nat → Nat} {I : Nat → Int32} {F : Nat → Nat → Int32} {n : Nat} (hn : n ≤ 6) (h3 : I 3 = nI n) (p0 p1 p2 : Int32) : Met l yX3_toSand (Wm yX3_toSand cX3_toSand 6 (some .int)) ({ frames := 4, cells := 0, slots := 0, locals := 92 }) (va_Pc [.ref (B 0), .int p0, .int p1, .int p2] (PR D (TYS cI cB cS) (wsB B cI cS I F))) (QcV (some (.int (cToSand F (I 4) n p0 p1 p2)))) 0 0 (fun _ => False) := by
  refine metR (by decide) [.ref (B 0), .int p0, .int p1, .int p2] (Nat.le_of_ble_eq_true rfl) ?_
  intro p e s m args below meth c hx hb hml hr hlk hown hts hKK hP ls hl
  obtain ⟨hK, hN⟩ := id hKK
  have hl : lv_has ls 6 [(0, .ref (B 0)), (1, .int p0), (2, .int p1), (3, .int p2)] := hl
  refine lv_iload_n hx hb dX3_toSand_0 rfl (lv_at hl 1 rfl) ?_
  refine rcSi (As := [.int p0]) (rest := []) hx hb hml hown hts hKK hP (c_X3_isMinute l D cI cB cS p0) (cwS2 1 hts kw_376 kw_3 kw_374 kw_375 rfl rfl (by decide +kernel) ⟨Nat.le_of_ble_eq_true rfl, Nat.le_of_ble_eq_true rfl⟩) rfl hl.1 rfl (Nat.le_of_ble_eq_true rfl) ⟨Nat.zero_le _, Nat.zero_le _⟩ dX3_toSand_1 ?_
  refine lv_if_eq (tgt := 27) hx hb dX3_toSand_4 (by decide) (fun c_1 => ?_) (fun c_1 => ?_)
  · have c_1 := b2_z c_1
    refine lv_bipush (v := (-102 : Int32)) hx hb dX3_toSand_27 (by decide) ?_
    exact retRi hx hb hr hlk dX3_toSand_29 (by grind [cToSand])
  · have c_1 := b2_nz c_1
    refine lv_iload_n hx hb dX3_toSand_7 rfl (lv_at hl 2 rfl) ?_
    refine lv_if_lt (tgt := 27) hx hb dX3_toSand_8 (by decide) (fun c_2 => ?_) (fun c_2 => ?_)
    · refine lv_bipush (v := (-102 : Int32)) hx hb dX3_toSand_27 (by decide) ?_
      exact retRi hx hb hr hlk dX3_toSand_29 (by grind [cToSand])
    · refine lv_iload_n hx hb dX3_toSand_11 rfl (lv_at hl 2 rfl) ?_
      refine lv_sipush (v := (1023 : Int32)) hx hb dX3_toSand_12 (by decide) ?_
      refine lv_icmp_gt (tgt := 27) hx hb dX3_toSand_15 (by decide) (fun c_3 => ?_) (fun c_3 => ?_)
      · refine lv_bipush (v := (-102 : Int32)) hx hb dX3_toSand_27 (by decide) ?_
        exact retRi hx hb hr hlk dX3_toSand_29 (by grind [cToSand])
      · refine lv_iload_n hx hb dX3_toSand_18 rfl (lv_at hl 3 rfl) ?_
        refine lv_if_lt (tgt := 27) hx hb dX3_toSand_19 (by decide) (fun c_4 => ?_) (fun c_4 => ?_)
        · refine lv_bipush (v := (-102 : Int32)) hx hb dX3_toSand_27 (by decide) ?_
          exact retRi hx hb hr hlk dX3_toSand_29 (by grind [cToSand])
        · refine lv_iload_n hx hb dX3_toSand_22 rfl (lv_at hl 3 rfl) ?_
          refine lv_iconst (v := (1 : Int32)) hx hb dX3_toSand_23 (by decide) ?_
          refine lv_icmp_le (tgt := 30) hx hb dX3_toSand_24 (by decide) (fun c_5 => ?_) (fun c_5 => ?_)
          · refine lv_aload_n hx hb dX3_toSand_30 rfl (lv_at hl 0 rfl) ?_
            refine rcVi (As := []) (rest := []) hx hb hml hown hts hKK hP (c_X3_hasLeaf l D cI cB cS hn h3 ) (cwV2 0 hts kw_353 kw_3 kw_350 kw_351 kw_352 rfl rfl (by decide +kernel) ⟨Nat.le_of_ble_eq_true rfl, Nat.le_of_ble_eq_true rfl⟩) 0 rfl rfl rfl rfl hl.1 rfl (Nat.le_of_ble_eq_true rfl) ⟨Nat.zero_le _, Nat.zero_le _⟩ dX3_toSand_31 ?_
            refine lv_if_ne (tgt := 40) hx hb dX3_toSand_34 (by decide) (fun c_6 => ?_) (fun c_6 => ?_)
            · have c_6 := b2_nz c_6
              refine lv_iconst (v := (0 : Int32)) hx hb dX3_toSand_40 (by decide) ?_
              refine lv_istore (lv' := [(4, .int (0 : Int32)), (0, .ref (B 0)), (1, .int p0), (2, .int p1), (3, .int p2)]) hx hb dX3_toSand_41 hl (by decide) rfl (fun ls hl => ?_)
              refine lv_iconst (v := (0 : Int32)) hx hb dX3_toSand_43 (by decide) ?_
              refine lv_istore (lv' := [(5, .int (0 : Int32)), (4, .int (0 : Int32)), (0, .ref (B 0)), (1, .int p0), (2, .int p1), (3, .int p2)]) hx hb dX3_toSand_44 hl (by decide) rfl (fun ls hl => ?_)
              have loop_46 : ∀ (z : Nat) (k : Nat) (x4 : Int32) (x5 : Int32), x4 = maskN (cReach F (I 4) n p0 p1) k → x5 = nI k → (k ≤ n) → n - k < z → ∀ (ls : Array Slot), lv_has ls 6 [(0, .ref (B 0)), (1, .int p0), (2, .int p1), (3, .int p2), (4, .int x4), (5, .int x5)] → W p l e ({ frames := 4, cells := 0, slots := 0, locals := 92 } : Room) s m args below meth c s.heap [] 0 0 (MQ below (QcV (some (.int (cToSand F (I 4) n p0 p1 p2)))) args s 0 0 (fun _ => False)) (F0 m 46 ls []) := by
                intro z
                induction z with
                | zero =>
                  intro k x4 x5 ex4 ex5 hk hz
                  exact absurd hz (Nat.not_lt_zero _)
                | succ z ih_46 =>
                  intro k x4 x5 ex4 ex5 hk hz ls hl
                  subst ex4
                  subst ex5
                  refine lv_iload hx hb dX3_toSand_46 (lv_at hl 5 rfl) ?_
                  refine lv_aload_n hx hb dX3_toSand_48 rfl (lv_at hl 0 rfl) ?_
                  refine va_get (D := D) (ci := 3) (v := .ref (B 3)) (C := RX3) (T := TX3) (N := 8) hx hb hts inlX3 hown hK hP 0 rfl rfl 2 (by decide) (hts _ kw_21) (fun _ h9 => h9) rfl dX3_toSand_49 ?_
                  refine va_getN (D := D) (ci := 1) (v := .int (I 3)) (C := RX1) (T := TX1) (N := 8) hx hb hts inlX1 hown hK hP 3 rfl rfl 0 (by decide) (nfF_1 hN) (fun _ h9 => h9) rfl dX3_toSand_52 ?_
                  refine topE (z := (nI n)) h3 ?_
                  refine lv_icmp_ge (tgt := 84) hx hb dX3_toSand_55 (by decide) (fun c_7 => ?_) (fun c_7 => ?_)
                  · have nc_7 : n ≤ k := (nI_leI (a := n) (b := k) (by omega) (by omega)).mp c_7
                    refine lv_iload_n hx hb dX3_toSand_84 rfl (lv_at hl 3 rfl) ?_
                    refine lv_if_ne (tgt := 96) hx hb dX3_toSand_85 (by decide) (fun c_8 => ?_) (fun c_8 => ?_)
                    · refine lv_iload hx hb dX3_toSand_96 (lv_at hl 4 rfl) ?_
                      exact retRi hx hb hr hlk dX3_toSand_98 (by have hkn : k = n := (by omega); subst hkn; grind [cToSand])
                    · refine lv_iload hx hb dX3_toSand_88 (lv_at hl 4 rfl) ?_
                      refine rcSi (As := [.int (maskN (cReach F (I 4) n p0 p1) k)]) (rest := []) hx hb hml hown hts hKK hP (c_J6_bitCount_0f7a4 l D cI cB cS (maskN (cReach F (I 4) n p0 p1) k)) (cwS2 1 hts kw_468 kw_467 kw_465 kw_466 rfl rfl (by decide +kernel) ⟨Nat.le_of_ble_eq_true rfl, Nat.le_of_ble_eq_true rfl⟩) rfl hl.1 rfl (Nat.le_of_ble_eq_true rfl) ⟨Nat.zero_le _, Nat.zero_le _⟩ dX3_toSand_90 ?_
                      refine lv_goto (tgt := 98) hx hb dX3_toSand_93 (by decide) ?_
                      exact retRi hx hb hr hlk dX3_toSand_98 (by have hkn : k = n := (by omega); subst hkn; grind [cToSand])
                  · have nc_7 : ¬ n ≤ k := fun h => c_7 ((nI_leI (a := n) (b := k) (by omega) (by omega)).mpr h)
                    refine lv_aload_n hx hb dX3_toSand_58 rfl (lv_at hl 0 rfl) ?_
                    refine lv_iload hx hb dX3_toSand_59 (lv_at hl 5 rfl) ?_
                    refine lv_iload_n hx hb dX3_toSand_61 rfl (lv_at hl 1 rfl) ?_
                    refine lv_iload_n hx hb dX3_toSand_62 rfl (lv_at hl 2 rfl) ?_
                    refine rcVi (As := [.int (nI k), .int p0, .int p1]) (rest := []) hx hb hml hown hts hKK hP (c_X3_reachesAny l D cI cB cS hn h3 (k := k) (by omega) p0 p1) (cwV2 3 hts kw_463 kw_3 kw_460 kw_461 kw_462 rfl rfl (by decide +kernel) ⟨Nat.le_of_ble_eq_true rfl, Nat.le_of_ble_eq_true rfl⟩) 0 rfl rfl rfl rfl hl.1 rfl (Nat.le_of_ble_eq_true rfl) ⟨Nat.zero_le _, Nat.zero_le _⟩ dX3_toSand_63 ?_
                    refine topE (z := (b2 (cReach F (I 4) n p0 p1 k))) rfl ?_
                    refine lv_if_eq (tgt := 78) hx hb dX3_toSand_66 (by decide) (fun c_9 => ?_) (fun c_9 => ?_)
                    · have c_9 := b2_z c_9
                      refine lv_iinc (v := (nI (k + 1))) (lv' := [(5, .int (nI (k + 1))), (0, .ref (B 0)), (1, .int p0), (2, .int p1), (3, .int p2), (4, .int (maskN (cReach F (I 4) n p0 p1) k))]) hx hb dX3_toSand_78 hl (k := 5) rfl (nI_add k 1) (by decide) rfl (fun ls hl => ?_)
                      refine lv_goto (tgt := 46) hx hb dX3_toSand_81 (by decide) ?_
                      exact ih_46 (k + 1) (maskN (cReach F (I 4) n p0 p1) k) (nI (k + 1)) (by rw [maskN, if_neg c_9]) rfl (by omega) (by omega) ls (lv_sub hl [1, 2, 3, 4, 5, 0] rfl)
                    · have c_9 := b2_nz c_9
                      refine lv_iload hx hb dX3_toSand_69 (lv_at hl 4 rfl) ?_
                      refine lv_iconst (v := (1 : Int32)) hx hb dX3_toSand_71 (by decide) ?_
                      refine lv_iload hx hb dX3_toSand_72 (lv_at hl 5 rfl) ?_
                      refine lv_ishl hx hb dX3_toSand_74 ?_
                      refine lv_ior hx hb dX3_toSand_75 ?_
                      refine lv_istore (lv' := [(4, .int (maskN (cReach F (I 4) n p0 p1) k ||| ((1 : Int32) <<< (nI k &&& 31)))), (0, .ref (B 0)), (1, .int p0), (2, .int p1), (3, .int p2), (5, .int (nI k))]) hx hb dX3_toSand_76 hl (by decide) rfl (fun ls hl => ?_)
                      refine lv_iinc (v := (nI (k + 1))) (lv' := [(5, .int (nI (k + 1))), (4, .int (maskN (cReach F (I 4) n p0 p1) k ||| ((1 : Int32) <<< (nI k &&& 31)))), (0, .ref (B 0)), (1, .int p0), (2, .int p1), (3, .int p2)]) hx hb dX3_toSand_78 hl (k := 5) rfl (nI_add k 1) (by decide) rfl (fun ls hl => ?_)
                      refine lv_goto (tgt := 46) hx hb dX3_toSand_81 (by decide) ?_
                      exact ih_46 (k + 1) (maskN (cReach F (I 4) n p0 p1) k ||| ((1 : Int32) <<< (nI k &&& 31))) (nI (k + 1)) (by rw [maskN, if_pos c_9]) rfl (by omega) (by omega) ls (lv_sub hl [2, 3, 4, 5, 1, 0] rfl)
              exact loop_46 ((n - 0) + 1) 0 (0 : Int32) (0 : Int32) rfl rfl (by omega) (by omega) ls (lv_sub hl [2, 3, 4, 5, 1, 0] rfl)
            · have c_6 := b2_z c_6
              refine lv_bipush (v := (-103 : Int32)) hx hb dX3_toSand_37 (by decide) ?_
              exact retRi hx hb hr hlk dX3_toSand_39 (by grind [cToSand])
          · refine lv_bipush (v := (-102 : Int32)) hx hb dX3_toSand_27 (by decide) ?_
            exact retRi hx hb hr hlk dX3_toSand_29 (by grind [cToSand])
set_option maxHeartbeats 4000000 in
set_option maxRecDepth 100000 in
theorem c_X3_inkIn_8 (l : Launch) (D : va_G) (cI cB cS : ClassId) {B : Nat → Nat} {I : Nat → Int32} {F : Nat → Nat → Int32} : Met l yX3_inkIn (Wm yX3_inkIn cX3_inkIn 3 (some .int)) ({ frames := 0, cells := 0, slots := 0, locals := 0 }) (va_Pc [.ref (B 8)] (PR D (TYS cI cB cS) (wsB B cI cS I F))) (QcV (some (.int (sumN (F 8) 10)))) 0 0 (fun _ => False) := by
  refine metR (by decide) [.ref (B 8)] (Nat.le_of_ble_eq_true rfl) ?_
  intro p e s m args below meth c hx hb hml hr hlk hown hts hKK hP ls hl
  obtain ⟨hK, hN⟩ := id hKK
  have hl : lv_has ls 3 [(0, .ref (B 8))] := hl
  refine lv_iconst (v := (0 : Int32)) hx hb dX3_inkIn_0 (by decide) ?_
  refine lv_istore_n (lv' := [(1, .int (0 : Int32)), (0, .ref (B 8))]) hx hb dX3_inkIn_1 rfl hl (by decide) rfl (fun ls hl => ?_)
  refine lv_iconst (v := (0 : Int32)) hx hb dX3_inkIn_2 (by decide) ?_
  refine lv_istore_n (lv' := [(2, .int (0 : Int32)), (1, .int (0 : Int32)), (0, .ref (B 8))]) hx hb dX3_inkIn_3 rfl hl (by decide) rfl (fun ls hl => ?_)
  have loop_4 : ∀ (z : Nat) (k : Nat) (x1 : Int32) (x2 : Int32), x1 = sumN (F 8) k → x2 = nI k → (k ≤ 10) → 10 - k < z → ∀ (ls : Array Slot), lv_has ls 3 [(0, .ref (B 8)), (1, .int x1), (2, .int x2)] → W p l e ({ frames := 0, cells := 0, slots := 0, locals := 0 } : Room) s m args below meth c s.heap [] 0 0 (MQ below (QcV (some (.int (sumN (F 8) 10)))) args s 0 0 (fun _ => False)) (F0 m 4 ls []) := by
    intro z
    induction z with
    | zero =>
      intro k x1 x2 ex1 ex2 hk hz
      exact absurd hz (Nat.not_lt_zero _)
    | succ z ih_4 =>
      intro k x1 x2 ex1 ex2 hk hz ls hl
      subst ex1
      subst ex2
      refine lv_iload_n hx hb dX3_inkIn_4 rfl (lv_at hl 2 rfl) ?_
      refine lv_aload_n hx hb dX3_inkIn_5 rfl (lv_at hl 0 rfl) ?_
      refine va_alen (D := D) hx hb hK hP 8 0 rfl rfl (v := (10 : Int32)) rfl dX3_inkIn_6 ?_
      refine lv_icmp_ge (tgt := 22) hx hb dX3_inkIn_7 (by decide) (fun c_1 => ?_) (fun c_1 => ?_)
      · have nc_1 : 10 ≤ k := (nI_leI (a := 10) (b := k) (by omega) (by omega)).mp c_1
        refine lv_iload_n hx hb dX3_inkIn_22 rfl (lv_at hl 1 rfl) ?_
        exact retRi hx hb hr hlk dX3_inkIn_23 (by have hkn : k = 10 := (by omega); subst hkn; rfl)
      · have nc_1 : ¬ 10 ≤ k := fun h => c_1 ((nI_leI (a := 10) (b := k) (by omega) (by omega)).mpr h)
        refine lv_iload_n hx hb dX3_inkIn_10 rfl (lv_at hl 1 rfl) ?_
        refine lv_aload_n hx hb dX3_inkIn_11 rfl (lv_at hl 0 rfl) ?_
        refine lv_iload_n hx hb dX3_inkIn_12 rfl (lv_at hl 2 rfl) ?_
        refine va_iald (D := D) hx hb hK hP 8 0 rfl rfl (vp_in_nI (by omega) (by omega)) dX3_inkIn_13 ?_
        refine topE (z := ((F 8) k)) (congrArg _ (nI_clamp (n := k) (by omega))) ?_
        refine lv_iadd hx hb dX3_inkIn_14 ?_
        refine lv_istore_n (lv' := [(1, .int (sumN (F 8) k + ((F 8) k))), (0, .ref (B 8)), (2, .int (nI k))]) hx hb dX3_inkIn_15 rfl hl (by decide) rfl (fun ls hl => ?_)
        refine lv_iinc (v := (nI (k + 1))) (lv' := [(2, .int (nI (k + 1))), (1, .int (sumN (F 8) k + ((F 8) k))), (0, .ref (B 8))]) hx hb dX3_inkIn_16 hl (k := 2) rfl (nI_add k 1) (by decide) rfl (fun ls hl => ?_)
        refine lv_goto (tgt := 4) hx hb dX3_inkIn_19 (by decide) ?_
        exact ih_4 (k + 1) (sumN (F 8) k + ((F 8) k)) (nI (k + 1)) (by grind [sumN]) rfl (by omega) (by omega) ls (lv_sub hl [2, 1, 0] rfl)
  exact loop_4 ((10 - 0) + 1) 0 (0 : Int32) (0 : Int32) rfl rfl (by omega) (by omega) ls (lv_sub hl [2, 1, 0] rfl)
set_option maxHeartbeats 4000000 in
set_option maxRecDepth 100000 in
theorem c_X3_inkIn_5 (l : Launch) (D : va_G) (cI cB cS : ClassId) {B : Nat → Nat} {I : Nat → Int32} {F : Nat → Nat → Int32} : Met l yX3_inkIn (Wm yX3_inkIn cX3_inkIn 3 (some .int)) ({ frames := 0, cells := 0, slots := 0, locals := 0 }) (va_Pc [.ref (B 5)] (PR D (TYS cI cB cS) (wsB B cI cS I F))) (QcV (some (.int (sumN (F 5) 10)))) 0 0 (fun _ => False) := by
  refine metR (by decide) [.ref (B 5)] (Nat.le_of_ble_eq_true rfl) ?_
  intro p e s m args below meth c hx hb hml hr hlk hown hts hKK hP ls hl
  obtain ⟨hK, hN⟩ := id hKK
  have hl : lv_has ls 3 [(0, .ref (B 5))] := hl
  refine lv_iconst (v := (0 : Int32)) hx hb dX3_inkIn_0 (by decide) ?_
  refine lv_istore_n (lv' := [(1, .int (0 : Int32)), (0, .ref (B 5))]) hx hb dX3_inkIn_1 rfl hl (by decide) rfl (fun ls hl => ?_)
  refine lv_iconst (v := (0 : Int32)) hx hb dX3_inkIn_2 (by decide) ?_
  refine lv_istore_n (lv' := [(2, .int (0 : Int32)), (1, .int (0 : Int32)), (0, .ref (B 5))]) hx hb dX3_inkIn_3 rfl hl (by decide) rfl (fun ls hl => ?_)
  have loop_4 : ∀ (z : Nat) (k : Nat) (x1 : Int32) (x2 : Int32), x1 = sumN (F 5) k → x2 = nI k → (k ≤ 10) → 10 - k < z → ∀ (ls : Array Slot), lv_has ls 3 [(0, .ref (B 5)), (1, .int x1), (2, .int x2)] → W p l e ({ frames := 0, cells := 0, slots := 0, locals := 0 } : Room) s m args below meth c s.heap [] 0 0 (MQ below (QcV (some (.int (sumN (F 5) 10)))) args s 0 0 (fun _ => False)) (F0 m 4 ls []) := by
    intro z
    induction z with
    | zero =>
      intro k x1 x2 ex1 ex2 hk hz
      exact absurd hz (Nat.not_lt_zero _)
    | succ z ih_4 =>
      intro k x1 x2 ex1 ex2 hk hz ls hl
      subst ex1
      subst ex2
      refine lv_iload_n hx hb dX3_inkIn_4 rfl (lv_at hl 2 rfl) ?_
      refine lv_aload_n hx hb dX3_inkIn_5 rfl (lv_at hl 0 rfl) ?_
      refine va_alen (D := D) hx hb hK hP 5 0 rfl rfl (v := (10 : Int32)) rfl dX3_inkIn_6 ?_
      refine lv_icmp_ge (tgt := 22) hx hb dX3_inkIn_7 (by decide) (fun c_1 => ?_) (fun c_1 => ?_)
      · have nc_1 : 10 ≤ k := (nI_leI (a := 10) (b := k) (by omega) (by omega)).mp c_1
        refine lv_iload_n hx hb dX3_inkIn_22 rfl (lv_at hl 1 rfl) ?_
        exact retRi hx hb hr hlk dX3_inkIn_23 (by have hkn : k = 10 := (by omega); subst hkn; rfl)
      · have nc_1 : ¬ 10 ≤ k := fun h => c_1 ((nI_leI (a := 10) (b := k) (by omega) (by omega)).mpr h)
        refine lv_iload_n hx hb dX3_inkIn_10 rfl (lv_at hl 1 rfl) ?_
        refine lv_aload_n hx hb dX3_inkIn_11 rfl (lv_at hl 0 rfl) ?_
        refine lv_iload_n hx hb dX3_inkIn_12 rfl (lv_at hl 2 rfl) ?_
        refine va_iald (D := D) hx hb hK hP 5 0 rfl rfl (vp_in_nI (by omega) (by omega)) dX3_inkIn_13 ?_
        refine topE (z := ((F 5) k)) (congrArg _ (nI_clamp (n := k) (by omega))) ?_
        refine lv_iadd hx hb dX3_inkIn_14 ?_
        refine lv_istore_n (lv' := [(1, .int (sumN (F 5) k + ((F 5) k))), (0, .ref (B 5)), (2, .int (nI k))]) hx hb dX3_inkIn_15 rfl hl (by decide) rfl (fun ls hl => ?_)
        refine lv_iinc (v := (nI (k + 1))) (lv' := [(2, .int (nI (k + 1))), (1, .int (sumN (F 5) k + ((F 5) k))), (0, .ref (B 5))]) hx hb dX3_inkIn_16 hl (k := 2) rfl (nI_add k 1) (by decide) rfl (fun ls hl => ?_)
        refine lv_goto (tgt := 4) hx hb dX3_inkIn_19 (by decide) ?_
        exact ih_4 (k + 1) (sumN (F 5) k + ((F 5) k)) (nI (k + 1)) (by grind [sumN]) rfl (by omega) (by omega) ls (lv_sub hl [2, 1, 0] rfl)
  exact loop_4 ((10 - 0) + 1) 0 (0 : Int32) (0 : Int32) rfl rfl (by omega) (by omega) ls (lv_sub hl [2, 1, 0] rfl)
set_option maxHeartbeats 4000000 in
set_option maxRecDepth 100000 in
theorem c_X3_dryIn_8 (l : Launch) (D : va_G) (cI cB cS : ClassId) {B : Nat → Nat} {I : Nat → Int32} {F : Nat → Nat → Int32} : Met l yX3_dryIn (Wm yX3_dryIn cX3_dryIn 3 (some .int)) ({ frames := 0, cells := 0, slots := 0, locals := 0 }) (va_Pc [.ref (B 8)] (PR D (TYS cI cB cS) (wsB B cI cS I F))) (QcV (some (.int (dryN (F 8) 10)))) 0 0 (fun _ => False) := by
  refine metR (by decide) [.ref (B 8)] (Nat.le_of_ble_eq_true rfl) ?_
  intro p e s m args below meth c hx hb hml hr hlk hown hts hKK hP ls hl
  obtain ⟨hK, hN⟩ := id hKK
  have hl : lv_has ls 3 [(0, .ref (B 8))] := hl
  refine lv_iconst (v := (0 : Int32)) hx hb dX3_dryIn_0 (by decide) ?_
  refine lv_istore_n (lv' := [(1, .int (0 : Int32)), (0, .ref (B 8))]) hx hb dX3_dryIn_1 rfl hl (by decide) rfl (fun ls hl => ?_)
  refine lv_iconst (v := (0 : Int32)) hx hb dX3_dryIn_2 (by decide) ?_
  refine lv_istore_n (lv' := [(2, .int (0 : Int32)), (1, .int (0 : Int32)), (0, .ref (B 8))]) hx hb dX3_dryIn_3 rfl hl (by decide) rfl (fun ls hl => ?_)
  have loop_4 : ∀ (z : Nat) (k : Nat) (x1 : Int32) (x2 : Int32), x1 = dryN (F 8) k → x2 = nI k → (k ≤ 10) → 10 - k < z → ∀ (ls : Array Slot), lv_has ls 3 [(0, .ref (B 8)), (1, .int x1), (2, .int x2)] → W p l e ({ frames := 0, cells := 0, slots := 0, locals := 0 } : Room) s m args below meth c s.heap [] 0 0 (MQ below (QcV (some (.int (dryN (F 8) 10)))) args s 0 0 (fun _ => False)) (F0 m 4 ls []) := by
    intro z
    induction z with
    | zero =>
      intro k x1 x2 ex1 ex2 hk hz
      exact absurd hz (Nat.not_lt_zero _)
    | succ z ih_4 =>
      intro k x1 x2 ex1 ex2 hk hz ls hl
      subst ex1
      subst ex2
      refine lv_iload_n hx hb dX3_dryIn_4 rfl (lv_at hl 2 rfl) ?_
      refine lv_aload_n hx hb dX3_dryIn_5 rfl (lv_at hl 0 rfl) ?_
      refine va_alen (D := D) hx hb hK hP 8 0 rfl rfl (v := (10 : Int32)) rfl dX3_dryIn_6 ?_
      refine lv_icmp_ge (tgt := 25) hx hb dX3_dryIn_7 (by decide) (fun c_1 => ?_) (fun c_1 => ?_)
      · have nc_1 : 10 ≤ k := (nI_leI (a := 10) (b := k) (by omega) (by omega)).mp c_1
        refine lv_iload_n hx hb dX3_dryIn_25 rfl (lv_at hl 1 rfl) ?_
        exact retRi hx hb hr hlk dX3_dryIn_26 (by have hkn : k = 10 := (by omega); subst hkn; rfl)
      · have nc_1 : ¬ 10 ≤ k := fun h => c_1 ((nI_leI (a := 10) (b := k) (by omega) (by omega)).mpr h)
        refine lv_aload_n hx hb dX3_dryIn_10 rfl (lv_at hl 0 rfl) ?_
        refine lv_iload_n hx hb dX3_dryIn_11 rfl (lv_at hl 2 rfl) ?_
        refine va_iald (D := D) hx hb hK hP 8 0 rfl rfl (vp_in_nI (by omega) (by omega)) dX3_dryIn_12 ?_
        refine topE (z := ((F 8) k)) (congrArg _ (nI_clamp (n := k) (by omega))) ?_
        refine lv_if_ne (tgt := 19) hx hb dX3_dryIn_13 (by decide) (fun c_2 => ?_) (fun c_2 => ?_)
        · refine lv_iinc (v := (nI (k + 1))) (lv' := [(2, .int (nI (k + 1))), (0, .ref (B 8)), (1, .int (dryN (F 8) k))]) hx hb dX3_dryIn_19 hl (k := 2) rfl (nI_add k 1) (by decide) rfl (fun ls hl => ?_)
          refine lv_goto (tgt := 4) hx hb dX3_dryIn_22 (by decide) ?_
          exact ih_4 (k + 1) (dryN (F 8) k) (nI (k + 1)) (by grind [dryN]) rfl (by omega) (by omega) ls (lv_sub hl [1, 2, 0] rfl)
        · refine lv_iinc (v := (dryN (F 8) k + (1 : Int32))) (lv' := [(1, .int (dryN (F 8) k + (1 : Int32))), (0, .ref (B 8)), (2, .int (nI k))]) hx hb dX3_dryIn_16 hl (k := 1) rfl rfl (by decide) rfl (fun ls hl => ?_)
          refine lv_iinc (v := (nI (k + 1))) (lv' := [(2, .int (nI (k + 1))), (1, .int (dryN (F 8) k + (1 : Int32))), (0, .ref (B 8))]) hx hb dX3_dryIn_19 hl (k := 2) rfl (nI_add k 1) (by decide) rfl (fun ls hl => ?_)
          refine lv_goto (tgt := 4) hx hb dX3_dryIn_22 (by decide) ?_
          exact ih_4 (k + 1) (dryN (F 8) k + (1 : Int32)) (nI (k + 1)) (by grind [dryN]) rfl (by omega) (by omega) ls (lv_sub hl [2, 1, 0] rfl)
  exact loop_4 ((10 - 0) + 1) 0 (0 : Int32) (0 : Int32) rfl rfl (by omega) (by omega) ls (lv_sub hl [2, 1, 0] rfl)
set_option maxHeartbeats 4000000 in
set_option maxRecDepth 100000 in
theorem c_X3_dryIn_5 (l : Launch) (D : va_G) (cI cB cS : ClassId) {B : Nat → Nat} {I : Nat → Int32} {F : Nat → Nat → Int32} : Met l yX3_dryIn (Wm yX3_dryIn cX3_dryIn 3 (some .int)) ({ frames := 0, cells := 0, slots := 0, locals := 0 }) (va_Pc [.ref (B 5)] (PR D (TYS cI cB cS) (wsB B cI cS I F))) (QcV (some (.int (dryN (F 5) 10)))) 0 0 (fun _ => False) := by
  refine metR (by decide) [.ref (B 5)] (Nat.le_of_ble_eq_true rfl) ?_
  intro p e s m args below meth c hx hb hml hr hlk hown hts hKK hP ls hl
  obtain ⟨hK, hN⟩ := id hKK
  have hl : lv_has ls 3 [(0, .ref (B 5))] := hl
  refine lv_iconst (v := (0 : Int32)) hx hb dX3_dryIn_0 (by decide) ?_
  refine lv_istore_n (lv' := [(1, .int (0 : Int32)), (0, .ref (B 5))]) hx hb dX3_dryIn_1 rfl hl (by decide) rfl (fun ls hl => ?_)
  refine lv_iconst (v := (0 : Int32)) hx hb dX3_dryIn_2 (by decide) ?_
  refine lv_istore_n (lv' := [(2, .int (0 : Int32)), (1, .int (0 : Int32)), (0, .ref (B 5))]) hx hb dX3_dryIn_3 rfl hl (by decide) rfl (fun ls hl => ?_)
  have loop_4 : ∀ (z : Nat) (k : Nat) (x1 : Int32) (x2 : Int32), x1 = dryN (F 5) k → x2 = nI k → (k ≤ 10) → 10 - k < z → ∀ (ls : Array Slot), lv_has ls 3 [(0, .ref (B 5)), (1, .int x1), (2, .int x2)] → W p l e ({ frames := 0, cells := 0, slots := 0, locals := 0 } : Room) s m args below meth c s.heap [] 0 0 (MQ below (QcV (some (.int (dryN (F 5) 10)))) args s 0 0 (fun _ => False)) (F0 m 4 ls []) := by
    intro z
    induction z with
    | zero =>
      intro k x1 x2 ex1 ex2 hk hz
      exact absurd hz (Nat.not_lt_zero _)
    | succ z ih_4 =>
      intro k x1 x2 ex1 ex2 hk hz ls hl
      subst ex1
      subst ex2
      refine lv_iload_n hx hb dX3_dryIn_4 rfl (lv_at hl 2 rfl) ?_
      refine lv_aload_n hx hb dX3_dryIn_5 rfl (lv_at hl 0 rfl) ?_
      refine va_alen (D := D) hx hb hK hP 5 0 rfl rfl (v := (10 : Int32)) rfl dX3_dryIn_6 ?_
      refine lv_icmp_ge (tgt := 25) hx hb dX3_dryIn_7 (by decide) (fun c_1 => ?_) (fun c_1 => ?_)
      · have nc_1 : 10 ≤ k := (nI_leI (a := 10) (b := k) (by omega) (by omega)).mp c_1
        refine lv_iload_n hx hb dX3_dryIn_25 rfl (lv_at hl 1 rfl) ?_
        exact retRi hx hb hr hlk dX3_dryIn_26 (by have hkn : k = 10 := (by omega); subst hkn; rfl)
      · have nc_1 : ¬ 10 ≤ k := fun h => c_1 ((nI_leI (a := 10) (b := k) (by omega) (by omega)).mpr h)
        refine lv_aload_n hx hb dX3_dryIn_10 rfl (lv_at hl 0 rfl) ?_
        refine lv_iload_n hx hb dX3_dryIn_11 rfl (lv_at hl 2 rfl) ?_
        refine va_iald (D := D) hx hb hK hP 5 0 rfl rfl (vp_in_nI (by omega) (by omega)) dX3_dryIn_12 ?_
        refine topE (z := ((F 5) k)) (congrArg _ (nI_clamp (n := k) (by omega))) ?_
        refine lv_if_ne (tgt := 19) hx hb dX3_dryIn_13 (by decide) (fun c_2 => ?_) (fun c_2 => ?_)
        · refine lv_iinc (v := (nI (k + 1))) (lv' := [(2, .int (nI (k + 1))), (0, .ref (B 5)), (1, .int (dryN (F 5) k))]) hx hb dX3_dryIn_19 hl (k := 2) rfl (nI_add k 1) (by decide) rfl (fun ls hl => ?_)
          refine lv_goto (tgt := 4) hx hb dX3_dryIn_22 (by decide) ?_
          exact ih_4 (k + 1) (dryN (F 5) k) (nI (k + 1)) (by grind [dryN]) rfl (by omega) (by omega) ls (lv_sub hl [1, 2, 0] rfl)
        · refine lv_iinc (v := (dryN (F 5) k + (1 : Int32))) (lv' := [(1, .int (dryN (F 5) k + (1 : Int32))), (0, .ref (B 5)), (2, .int (nI k))]) hx hb dX3_dryIn_16 hl (k := 1) rfl rfl (by decide) rfl (fun ls hl => ?_)
          refine lv_iinc (v := (nI (k + 1))) (lv' := [(2, .int (nI (k + 1))), (1, .int (dryN (F 5) k + (1 : Int32))), (0, .ref (B 5))]) hx hb dX3_dryIn_19 hl (k := 2) rfl (nI_add k 1) (by decide) rfl (fun ls hl => ?_)
          refine lv_goto (tgt := 4) hx hb dX3_dryIn_22 (by decide) ?_
          exact ih_4 (k + 1) (dryN (F 5) k + (1 : Int32)) (nI (k + 1)) (by grind [dryN]) rfl (by omega) (by omega) ls (lv_sub hl [2, 1, 0] rfl)
  exact loop_4 ((10 - 0) + 1) 0 (0 : Int32) (0 : Int32) rfl rfl (by omega) (by omega) ls (lv_sub hl [2, 1, 0] rfl)
set_option maxHeartbeats 4000000 in
set_option maxRecDepth 100000 in
theorem c_X3_seedAfter (l : Launch) (D : va_G) (cI cB cS : ClassId) {ws : va_W} (p0 : Int32) : Met l yX3_seedAfter (Wm yX3_seedAfter cX3_seedAfter 1 (some .int)) ({ frames := 0, cells := 0, slots := 0, locals := 0 }) (va_Pc [.int p0] (PR D (TYS cI cB cS) ws)) (QcV (some (.int (cSd p0)))) 0 0 (fun _ => False) := by
  refine metR (by decide) [.int p0] (Nat.le_of_ble_eq_true rfl) ?_
  intro p e s m args below meth c hx hb hml hr hlk hown hts hKK hP ls hl
  obtain ⟨hK, hN⟩ := id hKK
  have hl : lv_has ls 1 [(0, .int p0)] := hl
  refine lv_ldc2 (v := (1103515245 : Int64)) hx hb hown (hts _ kw_548) dX3_seedAfter_0 ?_
  refine lv_iload_n hx hb dX3_seedAfter_3 rfl (lv_at hl 0 rfl) ?_
  refine lv_i2l (v := ((p0).toInt64)) hx hb dX3_seedAfter_4 rfl ?_
  refine lv_lmul hx hb dX3_seedAfter_5 ?_
  refine lv_ldc2 (v := (12345 : Int64)) hx hb hown (hts _ kw_549) dX3_seedAfter_6 ?_
  refine lv_ladd hx hb dX3_seedAfter_9 ?_
  refine lv_ldc2 (v := (2147483648 : Int64)) hx hb hown (hts _ kw_550) dX3_seedAfter_10 ?_
  refine lv_lrem hx hb dX3_seedAfter_13 (by decide) ?_
  refine lv_l2i (v := (((((1103515245 : Int64) * ((p0).toInt64)) + (12345 : Int64)) - (((1103515245 : Int64) * ((p0).toInt64)) + (12345 : Int64)) / (2147483648 : Int64) * (2147483648 : Int64)).toInt32)) hx hb dX3_seedAfter_14 rfl ?_
  exact retRi hx hb hr hlk dX3_seedAfter_15 rfl
set_option maxHeartbeats 4000000 in
set_option maxRecDepth 100000 in
theorem c_X3_years (l : Launch) (D : va_G) (cI cB cS : ClassId) {B : Nat → Nat} {I : Nat → Int32} {F : Nat → Nat → Int32} {n : Nat} (hn : n ≤ 6) (h3 : I 3 = nI n) (p0 p1 p2 : Int32) : Met l yX3_years (Wm yX3_years cX3_years 6 (some .int)) ({ frames := 5, cells := 0, slots := 0, locals := 121 }) (va_Pc [.ref (B 0), .int p0, .int p1, .int p2] (PW D (TYS cI cB cS) (wsB B cI cS I F))) (QcW D (some (.int (cYears n (cYRow F (I 4) n (rowN (F 8) (F 5) 10) p1 p0.toNatClampNeg) (cSeeds p1 p0.toNatClampNeg) p0 p1 p2))) (wsB B cI cS I F) (if okY p0 p1 p2 ∧ 0 < n then wsB B cI cS I (va_up F 5 (cYRow F (I 4) n (rowN (F 8) (F 5) 10) p1 p0.toNatClampNeg)) else wsB B cI cS I F)) 0 0 (FPw (wsB B cI cS I F)) := by
  refine metW (by decide) [.ref (B 0), .int p0, .int p1, .int p2] (Nat.le_of_ble_eq_true rfl) ?_
  intro p e s m args below meth c hx hb hml hr hlk hown hts hKK hP hD hS ls hl
  obtain ⟨hK, hN⟩ := id hKK
  have hl : lv_has ls 6 [(0, .ref (B 0)), (1, .int p0), (2, .int p1), (3, .int p2)] := hl
  refine lv_iload_n hx hb dX3_years_0 rfl (lv_at hl 1 rfl) ?_
  refine lv_iconst (v := (1 : Int32)) hx hb dX3_years_1 (by decide) ?_
  refine lv_icmp_lt (tgt := 24) hx hb dX3_years_2 (by decide) (fun c_1 => ?_) (fun c_1 => ?_)
  · refine lv_bipush (v := (-102 : Int32)) hx hb dX3_years_24 (by decide) ?_
    exact retWi hx hb hr hlk hP hS dX3_years_26 (by grind [cYears]) (by exact (if_neg (by grind)).symm)
  · refine lv_iload_n hx hb dX3_years_5 rfl (lv_at hl 1 rfl) ?_
    refine lv_bipush (v := (60 : Int32)) hx hb dX3_years_6 (by decide) ?_
    refine lv_icmp_gt (tgt := 24) hx hb dX3_years_8 (by decide) (fun c_2 => ?_) (fun c_2 => ?_)
    · refine lv_bipush (v := (-102 : Int32)) hx hb dX3_years_24 (by decide) ?_
      exact retWi hx hb hr hlk hP hS dX3_years_26 (by grind [cYears]) (by exact (if_neg (by grind)).symm)
    · refine lv_iload_n hx hb dX3_years_11 rfl (lv_at hl 2 rfl) ?_
      refine lv_if_lt (tgt := 24) hx hb dX3_years_12 (by decide) (fun c_3 => ?_) (fun c_3 => ?_)
      · refine lv_bipush (v := (-102 : Int32)) hx hb dX3_years_24 (by decide) ?_
        exact retWi hx hb hr hlk hP hS dX3_years_26 (by grind [cYears]) (by exact (if_neg (by grind)).symm)
      · refine lv_iload_n hx hb dX3_years_15 rfl (lv_at hl 3 rfl) ?_
        refine lv_if_lt (tgt := 24) hx hb dX3_years_16 (by decide) (fun c_4 => ?_) (fun c_4 => ?_)
        · refine lv_bipush (v := (-102 : Int32)) hx hb dX3_years_24 (by decide) ?_
          exact retWi hx hb hr hlk hP hS dX3_years_26 (by grind [cYears]) (by exact (if_neg (by grind)).symm)
        · refine lv_iload_n hx hb dX3_years_19 rfl (lv_at hl 3 rfl) ?_
          refine lv_iconst (v := (2 : Int32)) hx hb dX3_years_20 (by decide) ?_
          refine lv_icmp_le (tgt := 27) hx hb dX3_years_21 (by decide) (fun c_5 => ?_) (fun c_5 => ?_)
          · obtain ⟨ym, hym, hp0⟩ := yrs_nat c_1 c_2
            have hkc : p0.toNatClampNeg = ym := by rw [hp0]; exact nI_clamp (by omega)
            refine lv_aload_n hx hb dX3_years_27 rfl (lv_at hl 0 rfl) ?_
            refine rcVi (As := []) (rest := []) hx hb hml hown hts hKK hP (c_X3_hasLeaf l D cI cB cS hn h3 ) (cwV2 0 hts kw_353 kw_3 kw_350 kw_351 kw_352 rfl rfl (by decide +kernel) ⟨Nat.le_of_ble_eq_true rfl, Nat.le_of_ble_eq_true rfl⟩) 0 rfl rfl rfl rfl hl.1 rfl (Nat.le_of_ble_eq_true rfl) ⟨Nat.zero_le _, Nat.zero_le _⟩ dX3_years_28 ?_
            refine lv_if_ne (tgt := 37) hx hb dX3_years_31 (by decide) (fun c_6 => ?_) (fun c_6 => ?_)
            · have c_6 := b2_nz c_6
              refine lv_aload_n hx hb dX3_years_37 rfl (lv_at hl 0 rfl) ?_
              refine va_get (D := D) (ci := 3) (v := .ref (B 3)) (C := RX3) (T := TX3) (N := 8) hx hb hts inlX3 hown hK hP 0 rfl rfl 2 (by decide) (hts _ kw_21) (fun _ h9 => h9) rfl dX3_years_38 ?_
              refine va_getN (D := D) (ci := 1) (v := .ref (B 8)) (C := RX1) (T := TX1) (N := 8) hx hb hts inlX1 hown hK hP 3 rfl rfl 4 (by decide) (nfF_5 hN) (fun _ h9 => h9) rfl dX3_years_41 ?_
              refine lv_aload_n hx hb dX3_years_44 rfl (lv_at hl 0 rfl) ?_
              refine va_get (D := D) (ci := 3) (v := .ref (B 5)) (C := RX3) (T := TX3) (N := 8) hx hb hts inlX3 hown hK hP 0 rfl rfl 6 (by decide) (hts _ kw_26) (fun _ h9 => h9) rfl dX3_years_45 ?_
              refine wcSv (As := [.ref (B 8), .ref (B 5)]) (rest := []) hx hb hml hown hts hKK hP hD hS (c_X3_copyRow_8_5 l D cI cB cS ) (cwS2 2 hts kw_544 kw_3 kw_542 kw_543 rfl rfl (by decide +kernel) ⟨Nat.le_of_ble_eq_true rfl, Nat.le_of_ble_eq_true rfl⟩) rfl hl.1 rfl (Nat.le_of_ble_eq_true rfl) ⟨Nat.zero_le _, Nat.zero_le _⟩ dX3_years_48 (fun H locs hP hS => ?_)
              have hP : va_P D vwCl (wsB B cI cS I (va_up F 5 (rowN (F 8) (F 5) 10))) H := hP
              have hD : va_D (FPw (wsB B cI cS I F)) (wsB B cI cS I (va_up F 5 (rowN (F 8) (F 5) 10))) := va_D_addr (ws := (wsB B cI cS I F)) rfl hD
              refine lv_iload_n hx hb dX3_years_51 rfl (lv_at hl 2 rfl) ?_
              refine lv_istore (lv' := [(4, .int p1), (0, .ref (B 0)), (1, .int p0), (2, .int p1), (3, .int p2)]) hx hb dX3_years_52 hl (by decide) rfl (fun ls hl => ?_)
              refine lv_iconst (v := (0 : Int32)) hx hb dX3_years_54 (by decide) ?_
              refine lv_istore (lv' := [(5, .int (0 : Int32)), (4, .int p1), (0, .ref (B 0)), (1, .int p0), (2, .int p1), (3, .int p2)]) hx hb dX3_years_55 hl (by decide) rfl (fun ls hl => ?_)
              have loop_57 : ∀ (z : Nat) (k : Nat) (x4 : Int32) (x5 : Int32), x4 = cSeeds p1 k → x5 = nI k → (k ≤ ym) → ym - k < z → ∀ (H : Heap) (locs : List Loc), va_P D vwCl (wsB B cI cS I (va_up F 5 (cYRow F (I 4) n (rowN (F 8) (F 5) 10) p1 k))) H → va_S (FPw (wsB B cI cS I F)) s.heap H locs → ∀ (ls : Array Slot), lv_has ls 6 [(0, .ref (B 0)), (1, .int p0), (2, .int p1), (3, .int p2), (4, .int x4), (5, .int x5)] → W p l e ({ frames := 5, cells := 0, slots := 0, locals := 121 } : Room) s m args below meth c H locs 0 0 (MQ below (QcW D (some (.int (cYears n (cYRow F (I 4) n (rowN (F 8) (F 5) 10) p1 p0.toNatClampNeg) (cSeeds p1 p0.toNatClampNeg) p0 p1 p2))) (wsB B cI cS I F) (if okY p0 p1 p2 ∧ 0 < n then wsB B cI cS I (va_up F 5 (cYRow F (I 4) n (rowN (F 8) (F 5) 10) p1 p0.toNatClampNeg)) else wsB B cI cS I F)) args s 0 0 (FPw (wsB B cI cS I F))) (F0 m 57 ls []) := by
                intro z
                induction z with
                | zero =>
                  intro k x4 x5 ex4 ex5 hk hz
                  exact absurd hz (Nat.not_lt_zero _)
                | succ z ih_57 =>
                  intro k x4 x5 ex4 ex5 hk hz H locs hP hS ls hl
                  subst ex4
                  subst ex5
                  have hD := va_D_addr (ws := (wsB B cI cS I (va_up F 5 (rowN (F 8) (F 5) 10)))) (ws' := (wsB B cI cS I (va_up F 5 (cYRow F (I 4) n (rowN (F 8) (F 5) 10) p1 k)))) rfl hD
                  refine lv_iload hx hb dX3_years_57 (lv_at hl 5 rfl) ?_
                  refine lv_iload_n hx hb dX3_years_59 rfl (lv_at hl 1 rfl) ?_
                  refine topE (z := (nI ym)) (by exact hp0) ?_
                  refine lv_icmp_ge (tgt := 93) hx hb dX3_years_60 (by decide) (fun c_7 => ?_) (fun c_7 => ?_)
                  · have nc_7 : ym ≤ k := (nI_leI (a := ym) (b := k) (by omega) (by omega)).mp c_7
                    refine lv_iload_n hx hb dX3_years_93 rfl (lv_at hl 3 rfl) ?_
                    by_cases e_8 : p2 = (0 : Int32)
                    · refine topE e_8 ?_
                      refine lv_lookup (off := 26) (tgt := 120) hx hb dX3_years_94 (by decide +kernel) (by decide) (by decide) ?_
                      refine lv_aload_n hx hb dX3_years_120 rfl (lv_at hl 0 rfl) ?_
                      refine va_get (D := D) (ci := 3) (v := .ref (B 5)) (C := RX3) (T := TX3) (N := 8) hx hb hts inlX3 hown hK hP 0 rfl rfl 6 (by decide) (hts _ kw_26) (fun _ h9 => h9) rfl dX3_years_121 ?_
                      refine rcSi (As := [.ref (B 5)]) (rest := []) hx hb hml hown hts hKK hP (c_X3_inkIn_5 l D cI cB cS ) (cwS2 1 hts kw_553 kw_3 kw_551 kw_552 rfl rfl (by decide +kernel) ⟨Nat.le_of_ble_eq_true rfl, Nat.le_of_ble_eq_true rfl⟩) rfl hl.1 rfl (Nat.le_of_ble_eq_true rfl) ⟨Nat.zero_le _, Nat.zero_le _⟩ dX3_years_124 ?_
                      refine topE (z := (sumN (cYRow F (I 4) n (rowN (F 8) (F 5) 10) p1 k) 10)) rfl ?_
                      exact retWi hx hb hr hlk hP hS dX3_years_127 (by have hkn : k = ym := (by omega); subst hkn; rw [hkc]; grind [cYears]) (by have hkn : k = ym := (by omega); subst hkn; rw [hkc]; exact (if_pos (by grind)).symm)
                    by_cases e_9 : p2 = (1 : Int32)
                    · refine topE e_9 ?_
                      refine lv_lookup (off := 34) (tgt := 128) hx hb dX3_years_94 (by decide +kernel) (by decide) (by decide) ?_
                      refine lv_aload_n hx hb dX3_years_128 rfl (lv_at hl 0 rfl) ?_
                      refine va_get (D := D) (ci := 3) (v := .ref (B 5)) (C := RX3) (T := TX3) (N := 8) hx hb hts inlX3 hown hK hP 0 rfl rfl 6 (by decide) (hts _ kw_26) (fun _ h9 => h9) rfl dX3_years_129 ?_
                      refine rcSi (As := [.ref (B 5)]) (rest := []) hx hb hml hown hts hKK hP (c_X3_dryIn_5 l D cI cB cS ) (cwS2 1 hts kw_556 kw_3 kw_554 kw_555 rfl rfl (by decide +kernel) ⟨Nat.le_of_ble_eq_true rfl, Nat.le_of_ble_eq_true rfl⟩) rfl hl.1 rfl (Nat.le_of_ble_eq_true rfl) ⟨Nat.zero_le _, Nat.zero_le _⟩ dX3_years_132 ?_
                      refine topE (z := (dryN (cYRow F (I 4) n (rowN (F 8) (F 5) 10) p1 k) 10)) rfl ?_
                      exact retWi hx hb hr hlk hP hS dX3_years_135 (by have hkn : k = ym := (by omega); subst hkn; rw [hkc]; grind [cYears]) (by have hkn : k = ym := (by omega); subst hkn; rw [hkc]; exact (if_pos (by grind)).symm)
                    refine lv_lookup (off := 42) (tgt := 136) hx hb dX3_years_94 (by decide +kernel) (by show Op.lookupswitch.offset [(0, 26), (1, 34)] 42 p2.toInt = 42; rw [lv_osw (a := 0) e_8 rfl]; rw [lv_osw (a := 1) e_9 rfl]; rfl) (by decide) ?_
                    refine lv_iload hx hb dX3_years_136 (lv_at hl 4 rfl) ?_
                    exact retWi hx hb hr hlk hP hS dX3_years_138 (by have hkn : k = ym := (by omega); subst hkn; rw [hkc]; grind [cYears]) (by have hkn : k = ym := (by omega); subst hkn; rw [hkc]; exact (if_pos (by grind)).symm)
                  · have nc_7 : ¬ ym ≤ k := fun h => c_7 ((nI_leI (a := ym) (b := k) (by omega) (by omega)).mpr h)
                    refine lv_iload hx hb dX3_years_63 (lv_at hl 4 rfl) ?_
                    refine rcSi (As := [.int (cSeeds p1 k)]) (rest := []) hx hb hml hown hts hKK hP (c_X3_seedAfter l D cI cB cS (cSeeds p1 k)) (cwS2 1 hts kw_547 kw_3 kw_545 kw_546 rfl rfl (by decide +kernel) ⟨Nat.le_of_ble_eq_true rfl, Nat.le_of_ble_eq_true rfl⟩) rfl hl.1 rfl (Nat.le_of_ble_eq_true rfl) ⟨Nat.zero_le _, Nat.zero_le _⟩ dX3_years_65 ?_
                    refine lv_istore (lv' := [(4, .int (cSd (cSeeds p1 k))), (0, .ref (B 0)), (1, .int p0), (2, .int p1), (3, .int p2), (5, .int (nI k))]) hx hb dX3_years_68 hl (by decide) rfl (fun ls hl => ?_)
                    refine lv_aload_n hx hb dX3_years_70 rfl (lv_at hl 1 rfl) ?_
                    refine lv_aload_n hx hb dX3_years_71 rfl (lv_at hl 1 rfl) ?_
                    refine va_get (D := D) (ci := 3) (v := .ref (B 5)) (C := RX3) (T := TX3) (N := 8) hx hb hts inlX3 hown hK hP 0 rfl rfl 6 (by decide) (hts _ kw_26) (fun _ h9 => h9) rfl dX3_years_72 ?_
                    refine lv_iload hx hb dX3_years_75 (lv_at hl 0 rfl) ?_
                    refine lv_ldc (v := (65536 : Int32)) hx hb hown (hts _ kw_541) dX3_years_77 ?_
                    refine lv_idiv hx hb dX3_years_79 (by decide) ?_
                    refine lv_bipush (v := (21 : Int32)) hx hb dX3_years_80 (by decide) ?_
                    refine lv_irem hx hb dX3_years_82 (by decide) ?_
                    refine wcVi (As := [.ref (B 5), .int (((cSd (cSeeds p1 k)) / (65536 : Int32)) - ((cSd (cSeeds p1 k)) / (65536 : Int32)) / (21 : Int32) * (21 : Int32))]) (rest := []) hx hb hml hown hts hKK hP hD hS (c_X3_pressOff_5 l D cI cB cS hn h3 (((cSd (cSeeds p1 k)) / (65536 : Int32)) - ((cSd (cSeeds p1 k)) / (65536 : Int32)) / (21 : Int32) * (21 : Int32))) (cwV2 2 hts kw_419 kw_3 kw_416 kw_417 kw_418 rfl rfl (by decide +kernel) ⟨Nat.le_of_ble_eq_true rfl, Nat.le_of_ble_eq_true rfl⟩) 0 rfl rfl rfl rfl hl.1 rfl (Nat.le_of_ble_eq_true rfl) ⟨Nat.zero_le _, Nat.zero_le _⟩ dX3_years_83 (fun H locs hP hS => ?_)
                    have hP : va_P D vwCl (wsB B cI cS I (va_up F 5 (rowN (cPress F (I 4) n (((cSd (cSeeds p1 k)) / (65536 : Int32)) - ((cSd (cSeeds p1 k)) / (65536 : Int32)) / (21 : Int32) * (21 : Int32)) (cYRow F (I 4) n (rowN (F 8) (F 5) 10) p1 k)) (cYRow F (I 4) n (rowN (F 8) (F 5) 10) p1 k) 10))) H := hP
                    have hD : va_D (FPw (wsB B cI cS I F)) (wsB B cI cS I (va_up F 5 (rowN (cPress F (I 4) n (((cSd (cSeeds p1 k)) / (65536 : Int32)) - ((cSd (cSeeds p1 k)) / (65536 : Int32)) / (21 : Int32) * (21 : Int32)) (cYRow F (I 4) n (rowN (F 8) (F 5) 10) p1 k)) (cYRow F (I 4) n (rowN (F 8) (F 5) 10) p1 k) 10))) := va_D_addr (ws := (wsB B cI cS I (va_up F 5 (cYRow F (I 4) n (rowN (F 8) (F 5) 10) p1 k)))) rfl hD
                    refine topE (z := (sumN (fun c => cNow F (I 4) n (nI c) (((cSd (cSeeds p1 k)) / (65536 : Int32)) - ((cSd (cSeeds p1 k)) / (65536 : Int32)) / (21 : Int32) * (21 : Int32))) 10)) rfl ?_
                    refine lv_pop hx hb dX3_years_86 rfl ?_
                    refine lv_iinc (v := (nI (k + 1))) (lv' := [(5, .int (nI (k + 1))), (4, .int (cSd (cSeeds p1 k))), (0, .ref (B 0)), (1, .int p0), (2, .int p1), (3, .int p2)]) hx hb dX3_years_87 hl (k := 5) rfl (nI_add k 1) (by decide) rfl (fun ls hl => ?_)
                    refine lv_goto (tgt := 57) hx hb dX3_years_90 (by decide) ?_
                    have hP9 : va_P D vwCl (wsB B cI cS I (va_up F 5 (cYRow F (I 4) n (rowN (F 8) (F 5) 10) p1 (k + 1)))) H := by exact hP
                    exact ih_57 (k + 1) (cSd (cSeeds p1 k)) (nI (k + 1)) rfl rfl (by omega) (by omega) H locs hP9 hS ls (lv_sub hl [2, 3, 4, 5, 1, 0] rfl)
              have hP9 : va_P D vwCl (wsB B cI cS I (va_up F 5 (cYRow F (I 4) n (rowN (F 8) (F 5) 10) p1 0))) H := by exact hP
              exact loop_57 ((ym - 0) + 1) 0 p1 (0 : Int32) rfl rfl (by omega) (by omega) H locs hP9 hS ls (lv_sub hl [2, 3, 4, 5, 1, 0] rfl)
            · have c_6 := b2_z c_6
              refine lv_bipush (v := (-103 : Int32)) hx hb dX3_years_34 (by decide) ?_
              exact retWi hx hb hr hlk hP hS dX3_years_36 (by grind [cYears]) (by exact (if_neg (by grind)).symm)
          · refine lv_bipush (v := (-102 : Int32)) hx hb dX3_years_24 (by decide) ?_
            exact retWi hx hb hr hlk hP hS dX3_years_26 (by grind [cYears]) (by exact (if_neg (by grind)).symm)
set_option maxHeartbeats 4000000 in
set_option maxRecDepth 100000 in
theorem c_X3_look (l : Launch) (D : va_G) (cI cB cS : ClassId) {B : Nat → Nat} {I : Nat → Int32} {F : Nat → Nat → Int32} {n : Nat} (hn : n ≤ 6) (h3 : I 3 = nI n) {fd : Nat} (hfd : fd ≤ 6) (h6 : I 6 = nI fd) (p0 p1 : Int32) : Met l yX3_look (Wm yX3_look cX3_look 8 (some .int)) ({ frames := 5, cells := 0, slots := 0, locals := 120 }) (va_Pc [.ref (B 0), .int p0, .int p1] (PW D (TYS cI cB cS) (wsB B cI cS I F))) (QcW D (some (.int (cLook F (I 4) n fd p0 p1))) (wsB B cI cS I F) (wsB B cI cS I (va_up F 6 (cLookF F (I 4) n fd p0 p1 (F 6))))) 0 0 (FPw (wsB B cI cS I F)) := by
  refine metW (by decide) [.ref (B 0), .int p0, .int p1] (Nat.le_of_ble_eq_true rfl) ?_
  intro p e s m args below meth c hx hb hml hr hlk hown hts hKK hP hD hS ls hl
  obtain ⟨hK, hN⟩ := id hKK
  have hl : lv_has ls 8 [(0, .ref (B 0)), (1, .int p0), (2, .int p1)] := hl
  refine lv_aload_n hx hb dX3_look_0 rfl (lv_at hl 0 rfl) ?_
  refine lv_iload_n hx hb dX3_look_1 rfl (lv_at hl 1 rfl) ?_
  refine rcVi (As := [.int p0]) (rest := []) hx hb hml hown hts hKK hP (c_X3_isStroke l D cI cB cS hn h3 p0) (cwV2 1 hts kw_266 kw_3 kw_263 kw_264 kw_265 rfl rfl (by decide +kernel) ⟨Nat.le_of_ble_eq_true rfl, Nat.le_of_ble_eq_true rfl⟩) 0 rfl rfl rfl rfl hl.1 rfl (Nat.le_of_ble_eq_true rfl) ⟨Nat.zero_le _, Nat.zero_le _⟩ dX3_look_2 ?_
  refine lv_if_ne (tgt := 11) hx hb dX3_look_5 (by decide) (fun c_1 => ?_) (fun c_1 => ?_)
  · have c_1 := b2_nz c_1
    refine lv_iload_n hx hb dX3_look_11 rfl (lv_at hl 2 rfl) ?_
    refine rcSi (As := [.int p1]) (rest := []) hx hb hml hown hts hKK hP (c_X3_isMinute l D cI cB cS p1) (cwS2 1 hts kw_376 kw_3 kw_374 kw_375 rfl rfl (by decide +kernel) ⟨Nat.le_of_ble_eq_true rfl, Nat.le_of_ble_eq_true rfl⟩) rfl hl.1 rfl (Nat.le_of_ble_eq_true rfl) ⟨Nat.zero_le _, Nat.zero_le _⟩ dX3_look_12 ?_
    refine lv_if_ne (tgt := 21) hx hb dX3_look_15 (by decide) (fun c_2 => ?_) (fun c_2 => ?_)
    · have c_2 := b2_nz c_2
      refine lv_aload_n hx hb dX3_look_21 rfl (lv_at hl 0 rfl) ?_
      refine lv_iload_n hx hb dX3_look_22 rfl (lv_at hl 1 rfl) ?_
      refine rcVi (As := [.int p0]) (rest := []) hx hb hml hown hts hKK hP (c_X3_heavy l D cI cB cS hn h3 hfd h6 p0) (cwV2 1 hts kw_274 kw_3 kw_271 kw_272 kw_273 rfl rfl (by decide +kernel) ⟨Nat.le_of_ble_eq_true rfl, Nat.le_of_ble_eq_true rfl⟩) 0 rfl rfl rfl rfl hl.1 rfl (Nat.le_of_ble_eq_true rfl) ⟨Nat.zero_le _, Nat.zero_le _⟩ dX3_look_23 ?_
      refine topE (z := (cHeavy F (I 4) n fd p0)) rfl ?_
      refine lv_istore_n (lv' := [(3, .int (cHeavy F (I 4) n fd p0)), (0, .ref (B 0)), (1, .int p0), (2, .int p1)]) hx hb dX3_look_26 rfl hl (by decide) rfl (fun ls hl => ?_)
      refine lv_iload_n hx hb dX3_look_27 rfl (lv_at hl 0 rfl) ?_
      refine lv_if_ne (tgt := 33) hx hb dX3_look_28 (by decide) (fun c_3 => ?_) (fun c_3 => ?_)
      · refine lv_iconst (v := (-1 : Int32)) hx hb dX3_look_33 (by decide) ?_
        refine lv_istore (lv' := [(4, .int (-1 : Int32)), (3, .int (cHeavy F (I 4) n fd p0)), (0, .ref (B 0)), (1, .int p0), (2, .int p1)]) hx hb dX3_look_34 hl (by decide) rfl (fun ls hl => ?_)
        refine lv_bipush (v := (10 : Int32)) hx hb dX3_look_36 (by decide) ?_
        refine lv_istore (lv' := [(5, .int (10 : Int32)), (4, .int (-1 : Int32)), (3, .int (cHeavy F (I 4) n fd p0)), (0, .ref (B 0)), (1, .int p0), (2, .int p1)]) hx hb dX3_look_38 hl (by decide) rfl (fun ls hl => ?_)
        refine lv_iconst (v := (0 : Int32)) hx hb dX3_look_40 (by decide) ?_
        refine lv_istore (lv' := [(6, .int (0 : Int32)), (5, .int (10 : Int32)), (4, .int (-1 : Int32)), (3, .int (cHeavy F (I 4) n fd p0)), (0, .ref (B 0)), (1, .int p0), (2, .int p1)]) hx hb dX3_look_41 hl (by decide) rfl (fun ls hl => ?_)
        have loop_43 : ∀ (z : Nat) (j : Nat) (x4 : Int32) (x5 : Int32) (x6 : Int32), x4 = cBest (cLkW F (I 4) n p0 p1 (cHeavy F (I 4) n fd p0)) j → x5 = cFew (cLkW F (I 4) n p0 p1 (cHeavy F (I 4) n fd p0)) j → x6 = nI j → (j ≤ 10) → 10 - j < z → ∀ (H : Heap) (locs : List Loc), va_P D vwCl (wsB B cI cS I (va_up F 6 (cScr F (I 4) n p0 p1 (F 6) j))) H → va_S (FPw (wsB B cI cS I F)) s.heap H locs → ∀ (ls : Array Slot), lv_has ls 8 [(0, .ref (B 0)), (1, .int p0), (2, .int p1), (3, .int (cHeavy F (I 4) n fd p0)), (4, .int x4), (5, .int x5), (6, .int x6)] → W p l e ({ frames := 5, cells := 0, slots := 0, locals := 120 } : Room) s m args below meth c H locs 0 0 (MQ below (QcW D (some (.int (cLook F (I 4) n fd p0 p1))) (wsB B cI cS I F) (wsB B cI cS I (va_up F 6 (cLookF F (I 4) n fd p0 p1 (F 6))))) args s 0 0 (FPw (wsB B cI cS I F))) (F0 m 43 ls []) := by
          intro z
          induction z with
          | zero =>
            intro j x4 x5 x6 ex4 ex5 ex6 hj hz
            exact absurd hz (Nat.not_lt_zero _)
          | succ z ih_43 =>
            intro j x4 x5 x6 ex4 ex5 ex6 hj hz H locs hP hS ls hl
            subst ex4
            subst ex5
            subst ex6
            have hD := va_D_addr (ws := (wsB B cI cS I F)) (ws' := (wsB B cI cS I (va_up F 6 (cScr F (I 4) n p0 p1 (F 6) j)))) rfl hD
            refine lv_iload hx hb dX3_look_43 (lv_at hl 6 rfl) ?_
            refine lv_bipush (v := (10 : Int32)) hx hb dX3_look_45 (by decide) ?_
            refine lv_icmp_ge (tgt := 82) hx hb dX3_look_47 (by decide) (fun c_4 => ?_) (fun c_4 => ?_)
            · have nc_4 : 10 ≤ j := (nI_leI (a := 10) (b := j) (by omega) (by omega)).mp c_4
              refine lv_iload hx hb dX3_look_82 (lv_at hl 4 rfl) ?_
              exact retWi hx hb hr hlk hP hS dX3_look_84 (by have hjn : j = 10 := (by omega); subst hjn; grind [cLook]) (by have hjn : j = 10 := (by omega); subst hjn; rw [cLookF, if_pos (by grind)])
            · have nc_4 : ¬ 10 ≤ j := fun h => c_4 ((nI_leI (a := 10) (b := j) (by omega) (by omega)).mpr h)
              refine lv_aload_n hx hb dX3_look_50 rfl (lv_at hl 0 rfl) ?_
              refine lv_iload hx hb dX3_look_51 (lv_at hl 6 rfl) ?_
              refine lv_iload_n hx hb dX3_look_53 rfl (lv_at hl 2 rfl) ?_
              refine lv_iload_n hx hb dX3_look_54 rfl (lv_at hl 1 rfl) ?_
              refine lv_iload_n hx hb dX3_look_55 rfl (lv_at hl 3 rfl) ?_
              refine wcVi (As := [.int (nI j), .int p1, .int p0, .int (cHeavy F (I 4) n fd p0)]) (rest := []) hx hb hml hown hts hKK hP hD hS (c_X3_leftAtWorst l D cI cB cS hn h3 (nI j) p1 p0 (cHeavy F (I 4) n fd p0)) (cwV2 4 hts kw_514 kw_3 kw_511 kw_512 kw_513 rfl rfl (by decide +kernel) ⟨Nat.le_of_ble_eq_true rfl, Nat.le_of_ble_eq_true rfl⟩) 0 rfl rfl rfl rfl hl.1 rfl (Nat.le_of_ble_eq_true rfl) ⟨Nat.zero_le _, Nat.zero_le _⟩ dX3_look_56 (fun H locs hP hS => ?_)
              have hP : va_P D vwCl (wsB B cI cS I (va_up F 6 (rowF (cByP F (I 4) n (nI j) p1 p0) (cScr F (I 4) n p0 p1 (F 6) j) 1 10))) H := hP
              have hD : va_D (FPw (wsB B cI cS I F)) (wsB B cI cS I (va_up F 6 (rowF (cByP F (I 4) n (nI j) p1 p0) (cScr F (I 4) n p0 p1 (F 6) j) 1 10))) := va_D_addr (ws := (wsB B cI cS I (va_up F 6 (cScr F (I 4) n p0 p1 (F 6) j)))) rfl hD
              refine topE (z := (cWorst (cByP F (I 4) n (nI j) p1 p0) (cHeavy F (I 4) n fd p0) 9)) rfl ?_
              refine lv_istore (lv' := [(7, .int (cWorst (cByP F (I 4) n (nI j) p1 p0) (cHeavy F (I 4) n fd p0) 9)), (0, .ref (B 0)), (1, .int p0), (2, .int p1), (3, .int (cHeavy F (I 4) n fd p0)), (4, .int (cBest (cLkW F (I 4) n p0 p1 (cHeavy F (I 4) n fd p0)) j)), (5, .int (cFew (cLkW F (I 4) n p0 p1 (cHeavy F (I 4) n fd p0)) j)), (6, .int (nI j))]) hx hb dX3_look_59 hl (by decide) rfl (fun ls hl => ?_)
              refine lv_iload hx hb dX3_look_61 (lv_at hl 0 rfl) ?_
              refine lv_iload hx hb dX3_look_63 (lv_at hl 6 rfl) ?_
              refine lv_icmp_ge (tgt := 76) hx hb dX3_look_65 (by decide) (fun c_5 => ?_) (fun c_5 => ?_)
              · refine lv_iinc (v := (nI (j + 1))) (lv' := [(6, .int (nI (j + 1))), (7, .int (cWorst (cByP F (I 4) n (nI j) p1 p0) (cHeavy F (I 4) n fd p0) 9)), (0, .ref (B 0)), (1, .int p0), (2, .int p1), (3, .int (cHeavy F (I 4) n fd p0)), (4, .int (cBest (cLkW F (I 4) n p0 p1 (cHeavy F (I 4) n fd p0)) j)), (5, .int (cFew (cLkW F (I 4) n p0 p1 (cHeavy F (I 4) n fd p0)) j))]) hx hb dX3_look_76 hl (k := 7) rfl (nI_add j 1) (by decide) rfl (fun ls hl => ?_)
                refine lv_goto (tgt := 43) hx hb dX3_look_79 (by decide) ?_
                have hP9 : va_P D vwCl (wsB B cI cS I (va_up F 6 (cScr F (I 4) n p0 p1 (F 6) (j + 1)))) H := by exact hP
                exact ih_43 (j + 1) (cBest (cLkW F (I 4) n p0 p1 (cHeavy F (I 4) n fd p0)) j) (cFew (cLkW F (I 4) n p0 p1 (cHeavy F (I 4) n fd p0)) j) (nI (j + 1)) (by grind [cBest]) (by grind [cFew]) rfl (by omega) (by omega) H locs hP9 hS ls (lv_sub hl [2, 3, 4, 5, 6, 7, 0] rfl)
              · refine lv_iload hx hb dX3_look_68 (lv_at hl 0 rfl) ?_
                refine lv_istore (lv' := [(5, .int (cWorst (cByP F (I 4) n (nI j) p1 p0) (cHeavy F (I 4) n fd p0) 9)), (7, .int (cWorst (cByP F (I 4) n (nI j) p1 p0) (cHeavy F (I 4) n fd p0) 9)), (0, .ref (B 0)), (1, .int p0), (2, .int p1), (3, .int (cHeavy F (I 4) n fd p0)), (4, .int (cBest (cLkW F (I 4) n p0 p1 (cHeavy F (I 4) n fd p0)) j)), (6, .int (nI j))]) hx hb dX3_look_70 hl (by decide) rfl (fun ls hl => ?_)
                refine lv_iload hx hb dX3_look_72 (lv_at hl 7 rfl) ?_
                refine lv_istore (lv' := [(4, .int (nI j)), (5, .int (cWorst (cByP F (I 4) n (nI j) p1 p0) (cHeavy F (I 4) n fd p0) 9)), (7, .int (cWorst (cByP F (I 4) n (nI j) p1 p0) (cHeavy F (I 4) n fd p0) 9)), (0, .ref (B 0)), (1, .int p0), (2, .int p1), (3, .int (cHeavy F (I 4) n fd p0)), (6, .int (nI j))]) hx hb dX3_look_74 hl (by decide) rfl (fun ls hl => ?_)
                refine lv_iinc (v := (nI (j + 1))) (lv' := [(6, .int (nI (j + 1))), (4, .int (nI j)), (5, .int (cWorst (cByP F (I 4) n (nI j) p1 p0) (cHeavy F (I 4) n fd p0) 9)), (7, .int (cWorst (cByP F (I 4) n (nI j) p1 p0) (cHeavy F (I 4) n fd p0) 9)), (0, .ref (B 0)), (1, .int p0), (2, .int p1), (3, .int (cHeavy F (I 4) n fd p0))]) hx hb dX3_look_76 hl (k := 7) rfl (nI_add j 1) (by decide) rfl (fun ls hl => ?_)
                refine lv_goto (tgt := 43) hx hb dX3_look_79 (by decide) ?_
                have hP9 : va_P D vwCl (wsB B cI cS I (va_up F 6 (cScr F (I 4) n p0 p1 (F 6) (j + 1)))) H := by exact hP
                exact ih_43 (j + 1) (nI j) (cWorst (cByP F (I 4) n (nI j) p1 p0) (cHeavy F (I 4) n fd p0) 9) (nI (j + 1)) (by grind [cBest]) (by grind [cFew]) rfl (by omega) (by omega) H locs hP9 hS ls (lv_sub hl [4, 5, 6, 7, 1, 2, 0] rfl)
        have hP9 : va_P D vwCl (wsB B cI cS I (va_up F 6 (cScr F (I 4) n p0 p1 (F 6) 0))) s.heap := by exact hP
        exact loop_43 ((10 - 0) + 1) 0 (-1 : Int32) (10 : Int32) (0 : Int32) rfl rfl rfl (by omega) (by omega) s.heap [] hP9 hS ls (lv_sub hl [4, 5, 6, 3, 2, 1, 0] rfl)
      · refine lv_iconst (v := (-1 : Int32)) hx hb dX3_look_31 (by decide) ?_
        exact retWi hx hb hr hlk hP hS dX3_look_32 (by grind [cLook]) (by exact wsB_6 (if_neg (by grind)))
    · have c_2 := b2_z c_2
      refine lv_bipush (v := (-102 : Int32)) hx hb dX3_look_18 (by decide) ?_
      exact retWi hx hb hr hlk hP hS dX3_look_20 (by grind [cLook]) (by exact wsB_6 (if_neg (by grind)))
  · have c_1 := b2_z c_1
    refine lv_bipush (v := (-101 : Int32)) hx hb dX3_look_8 (by decide) ?_
    exact retWi hx hb hr hlk hP hS dX3_look_10 (by grind [cLook]) (by exact wsB_6 (if_neg (by grind)))
set_option maxHeartbeats 4000000 in
set_option maxRecDepth 100000 in
theorem c_X1_addFound_a (l : Launch) (D : va_G) (cI cB cS : ClassId) {B : Nat → Nat} {I : Nat → Int32} {F : Nat → Nat → Int32} {n : Nat} (hn : n ≤ 6) (h3 : I 3 = nI n) {fd : Nat} (hfd : fd ≤ 6) (h6 : I 6 = nI fd) (hv : fd < 6) (p0 p1 p2 : Int32) : Met l yX1_addFound (Wm yX1_addFound cX1_addFound 4 (some .boolean)) ({ frames := 0, cells := 0, slots := 0, locals := 0 }) (va_Pc [.ref (B 3), .int p0, .int p1, .int p2] (PW D (TYS cI cB cS) (wsB B cI cS I F))) (QcW D (some (.int (b2 (fd < 6)))) (wsB B cI cS I F) (wsB B cI cS (upd I 6 (nI (fd + 1))) (va_up (va_up (va_up F 9 (upd (F 9) fd p0)) 10 (upd (F 10) fd p1)) 11 (upd (F 11) fd p2)))) 0 0 (FPw (wsB B cI cS I F)) := by
  refine metW (by decide) [.ref (B 3), .int p0, .int p1, .int p2] (Nat.le_of_ble_eq_true rfl) ?_
  intro p e s m args below meth c hx hb hml hr hlk hown hts hKK hP hD hS ls hl
  obtain ⟨hK, hN⟩ := id hKK
  have hl : lv_has ls 4 [(0, .ref (B 3)), (1, .int p0), (2, .int p1), (3, .int p2)] := hl
  refine lv_aload_n hx hb dX1_addFound_0 rfl (lv_at hl 0 rfl) ?_
  refine va_get (D := D) (ci := 1) (v := .int (I 6)) (C := RX1) (T := TX1) (N := 8) hx hb hts inlX1 hown hK hP 3 rfl rfl 3 (by decide) (hts _ kw_41) (fun _ h9 => h9) rfl dX1_addFound_1 ?_
  refine topE (z := (nI fd)) h6 ?_
  refine lv_if_lt (tgt := 16) hx hb dX1_addFound_4 (by decide) (fun c_1 => ?_) (fun c_1 => ?_)
  · have nc_1 : fd < 0 := (nI_ltI (a := fd) (b := 0) (by omega) (by omega)).mp c_1
    exfalso; omega
  · have nc_1 : ¬ fd < 0 := fun h => c_1 ((nI_ltI (a := fd) (b := 0) (by omega) (by omega)).mpr h)
    refine lv_aload_n hx hb dX1_addFound_7 rfl (lv_at hl 0 rfl) ?_
    refine va_get (D := D) (ci := 1) (v := .int (I 6)) (C := RX1) (T := TX1) (N := 8) hx hb hts inlX1 hown hK hP 3 rfl rfl 3 (by decide) (hts _ kw_41) (fun _ h9 => h9) rfl dX1_addFound_8 ?_
    refine topE (z := (nI fd)) h6 ?_
    refine lv_bipush (v := (6 : Int32)) hx hb dX1_addFound_11 (by decide) ?_
    refine lv_icmp_lt (tgt := 18) hx hb dX1_addFound_13 (by decide) (fun c_2 => ?_) (fun c_2 => ?_)
    · have nc_2 : fd < 6 := (nI_ltI (a := fd) (b := 6) (by omega) (by omega)).mp c_2
      refine lv_aload_n hx hb dX1_addFound_18 rfl (lv_at hl 0 rfl) ?_
      refine va_get (D := D) (ci := 1) (v := .ref (B 9)) (C := RX1) (T := TX1) (N := 8) hx hb hts inlX1 hown hK hP 3 rfl rfl 5 (by decide) (hts _ kw_43) (fun _ h9 => h9) rfl dX1_addFound_19 ?_
      refine lv_aload_n hx hb dX1_addFound_22 rfl (lv_at hl 0 rfl) ?_
      refine va_get (D := D) (ci := 1) (v := .int (I 6)) (C := RX1) (T := TX1) (N := 8) hx hb hts inlX1 hown hK hP 3 rfl rfl 3 (by decide) (hts _ kw_41) (fun _ h9 => h9) rfl dX1_addFound_23 ?_
      refine topE (z := (nI fd)) h6 ?_
      refine lv_iload_n hx hb dX1_addFound_26 rfl (lv_at hl 1 rfl) ?_
      refine va_iast (D := D) hx hb hK hP hD hS 9 0 rfl rfl (vp_in_nI (by omega) (by omega)) dX1_addFound_27 (fun H locs hP hD hS => ?_)
      rw [nI_clamp (n := fd) (by omega)] at hP hD
      have hP : va_P D vwCl (wsB B cI cS I (va_up F 9 (upd (F 9) fd p0))) H := hP
      have hD : va_D (FPw (wsB B cI cS I F)) (wsB B cI cS I (va_up F 9 (upd (F 9) fd p0))) := hD
      refine lv_aload_n hx hb dX1_addFound_28 rfl (lv_at hl 0 rfl) ?_
      refine va_get (D := D) (ci := 1) (v := .ref (B 10)) (C := RX1) (T := TX1) (N := 8) hx hb hts inlX1 hown hK hP 3 rfl rfl 6 (by decide) (hts _ kw_44) (fun _ h9 => h9) rfl dX1_addFound_29 ?_
      refine lv_aload_n hx hb dX1_addFound_32 rfl (lv_at hl 0 rfl) ?_
      refine va_get (D := D) (ci := 1) (v := .int (I 6)) (C := RX1) (T := TX1) (N := 8) hx hb hts inlX1 hown hK hP 3 rfl rfl 3 (by decide) (hts _ kw_41) (fun _ h9 => h9) rfl dX1_addFound_33 ?_
      refine topE (z := (nI fd)) h6 ?_
      refine lv_iload_n hx hb dX1_addFound_36 rfl (lv_at hl 2 rfl) ?_
      refine va_iast (D := D) hx hb hK hP hD hS 10 0 rfl rfl (vp_in_nI (by omega) (by omega)) dX1_addFound_37 (fun H locs hP hD hS => ?_)
      rw [nI_clamp (n := fd) (by omega)] at hP hD
      have hP : va_P D vwCl (wsB B cI cS I (va_up (va_up F 9 (upd (F 9) fd p0)) 10 (upd (F 10) fd p1))) H := hP
      have hD : va_D (FPw (wsB B cI cS I F)) (wsB B cI cS I (va_up (va_up F 9 (upd (F 9) fd p0)) 10 (upd (F 10) fd p1))) := hD
      refine lv_aload_n hx hb dX1_addFound_38 rfl (lv_at hl 0 rfl) ?_
      refine va_get (D := D) (ci := 1) (v := .ref (B 11)) (C := RX1) (T := TX1) (N := 8) hx hb hts inlX1 hown hK hP 3 rfl rfl 7 (by decide) (hts _ kw_45) (fun _ h9 => h9) rfl dX1_addFound_39 ?_
      refine lv_aload_n hx hb dX1_addFound_42 rfl (lv_at hl 0 rfl) ?_
      refine va_get (D := D) (ci := 1) (v := .int (I 6)) (C := RX1) (T := TX1) (N := 8) hx hb hts inlX1 hown hK hP 3 rfl rfl 3 (by decide) (hts _ kw_41) (fun _ h9 => h9) rfl dX1_addFound_43 ?_
      refine topE (z := (nI fd)) h6 ?_
      refine lv_iload_n hx hb dX1_addFound_46 rfl (lv_at hl 3 rfl) ?_
      refine va_iast (D := D) hx hb hK hP hD hS 11 0 rfl rfl (vp_in_nI (by omega) (by omega)) dX1_addFound_47 (fun H locs hP hD hS => ?_)
      rw [nI_clamp (n := fd) (by omega)] at hP hD
      have hP : va_P D vwCl (wsB B cI cS I (va_up (va_up (va_up F 9 (upd (F 9) fd p0)) 10 (upd (F 10) fd p1)) 11 (upd (F 11) fd p2))) H := hP
      have hD : va_D (FPw (wsB B cI cS I F)) (wsB B cI cS I (va_up (va_up (va_up F 9 (upd (F 9) fd p0)) 10 (upd (F 10) fd p1)) 11 (upd (F 11) fd p2))) := hD
      refine lv_aload_n hx hb dX1_addFound_48 rfl (lv_at hl 0 rfl) ?_
      refine lv_dup hx hb dX1_addFound_49 rfl ?_
      refine va_get (D := D) (ci := 1) (v := .int (I 6)) (C := RX1) (T := TX1) (N := 8) hx hb hts inlX1 hown hK hP 3 rfl rfl 3 (by decide) (hts _ kw_41) (fun _ h9 => h9) rfl dX1_addFound_50 ?_
      refine topE (z := (nI fd)) h6 ?_
      refine lv_iconst (v := (1 : Int32)) hx hb dX1_addFound_53 (by decide) ?_
      refine lv_iadd hx hb dX1_addFound_54 ?_
      refine topE (z := (nI (fd + 1))) (nI_add fd 1) ?_
      refine va_put (D := D) (ci := 1) (v := .int (nI (fd + 1))) (ty := tyX1 3) (C := RX1) (T := TX1) (N := 8) hx hb hts inlX1 tyX1 tyX1_ok nmX1 hown hK hP hD hS 3 rfl rfl 3 (by decide) (hts _ kw_41) (fun _ h9 => h9) rfl (tyX1_ok 3 (by decide)) rfl rfl (Nat.le_of_ble_eq_true rfl) dX1_addFound_55 (fun H locs hP hD hS => ?_)
      have hP : va_P D vwCl (wsB B cI cS (upd I 6 (nI (fd + 1))) (va_up (va_up (va_up F 9 (upd (F 9) fd p0)) 10 (upd (F 10) fd p1)) 11 (upd (F 11) fd p2))) H := hP
      have hD : va_D (FPw (wsB B cI cS I F)) (wsB B cI cS (upd I 6 (nI (fd + 1))) (va_up (va_up (va_up F 9 (upd (F 9) fd p0)) 10 (upd (F 10) fd p1)) 11 (upd (F 11) fd p2))) := hD
      refine lv_iconst (v := (1 : Int32)) hx hb dX1_addFound_58 (by decide) ?_
      exact retWz hx hb hr hlk hP hS dX1_addFound_59 (by grind [b2]) rfl
    · have nc_2 : ¬ fd < 6 := fun h => c_2 ((nI_ltI (a := fd) (b := 6) (by omega) (by omega)).mpr h)
      exfalso; omega
set_option maxHeartbeats 4000000 in
set_option maxRecDepth 100000 in
theorem c_X1_addFound_b (l : Launch) (D : va_G) (cI cB cS : ClassId) {B : Nat → Nat} {I : Nat → Int32} {F : Nat → Nat → Int32} {n : Nat} (hn : n ≤ 6) (h3 : I 3 = nI n) {fd : Nat} (hfd : fd ≤ 6) (h6 : I 6 = nI fd) (hv : ¬ fd < 6) (p0 p1 p2 : Int32) : Met l yX1_addFound (Wm yX1_addFound cX1_addFound 4 (some .boolean)) ({ frames := 0, cells := 0, slots := 0, locals := 0 }) (va_Pc [.ref (B 3), .int p0, .int p1, .int p2] (PW D (TYS cI cB cS) (wsB B cI cS I F))) (QcW D (some (.int (b2 (fd < 6)))) (wsB B cI cS I F) (wsB B cI cS I F)) 0 0 (FPw (wsB B cI cS I F)) := by
  refine metW (by decide) [.ref (B 3), .int p0, .int p1, .int p2] (Nat.le_of_ble_eq_true rfl) ?_
  intro p e s m args below meth c hx hb hml hr hlk hown hts hKK hP hD hS ls hl
  obtain ⟨hK, hN⟩ := id hKK
  have hl : lv_has ls 4 [(0, .ref (B 3)), (1, .int p0), (2, .int p1), (3, .int p2)] := hl
  refine lv_aload_n hx hb dX1_addFound_0 rfl (lv_at hl 0 rfl) ?_
  refine va_get (D := D) (ci := 1) (v := .int (I 6)) (C := RX1) (T := TX1) (N := 8) hx hb hts inlX1 hown hK hP 3 rfl rfl 3 (by decide) (hts _ kw_41) (fun _ h9 => h9) rfl dX1_addFound_1 ?_
  refine topE (z := (nI fd)) h6 ?_
  refine lv_if_lt (tgt := 16) hx hb dX1_addFound_4 (by decide) (fun c_1 => ?_) (fun c_1 => ?_)
  · have nc_1 : fd < 0 := (nI_ltI (a := fd) (b := 0) (by omega) (by omega)).mp c_1
    exfalso; omega
  · have nc_1 : ¬ fd < 0 := fun h => c_1 ((nI_ltI (a := fd) (b := 0) (by omega) (by omega)).mpr h)
    refine lv_aload_n hx hb dX1_addFound_7 rfl (lv_at hl 0 rfl) ?_
    refine va_get (D := D) (ci := 1) (v := .int (I 6)) (C := RX1) (T := TX1) (N := 8) hx hb hts inlX1 hown hK hP 3 rfl rfl 3 (by decide) (hts _ kw_41) (fun _ h9 => h9) rfl dX1_addFound_8 ?_
    refine topE (z := (nI fd)) h6 ?_
    refine lv_bipush (v := (6 : Int32)) hx hb dX1_addFound_11 (by decide) ?_
    refine lv_icmp_lt (tgt := 18) hx hb dX1_addFound_13 (by decide) (fun c_2 => ?_) (fun c_2 => ?_)
    · have nc_2 : fd < 6 := (nI_ltI (a := fd) (b := 6) (by omega) (by omega)).mp c_2
      exfalso; omega
    · have nc_2 : ¬ fd < 6 := fun h => c_2 ((nI_ltI (a := fd) (b := 6) (by omega) (by omega)).mpr h)
      refine lv_iconst (v := (0 : Int32)) hx hb dX1_addFound_16 (by decide) ?_
      exact retWz hx hb hr hlk hP hS dX1_addFound_17 (by grind [b2]) rfl
set_option maxHeartbeats 4000000 in
set_option maxRecDepth 100000 in
theorem c_X3_found (l : Launch) (D : va_G) (cI cB cS : ClassId) {B : Nat → Nat} {I : Nat → Int32} {F : Nat → Nat → Int32} {n : Nat} (hn : n ≤ 6) (h3 : I 3 = nI n) {fd : Nat} (hfd : fd ≤ 6) (h6 : I 6 = nI fd) (p0 p1 p2 : Int32) : Met l yX3_found (Wm yX3_found cX3_found 4 (some .int)) ({ frames := 2, cells := 0, slots := 0, locals := 41 }) (va_Pc [.ref (B 0), .int p0, .int p1, .int p2] (PW D (TYS cI cB cS) (wsB B cI cS I F))) (QcW D (some (.int (cFound n fd p0 p1 p2))) (wsB B cI cS I F) (if 0 < n ∧ okCell p0 ∧ okMin p1 ∧ okMuch p2 ∧ fd < 6 then wsB B cI cS (upd I 6 (nI (fd + 1))) (va_up (va_up (va_up F 9 (upd (F 9) fd p0)) 10 (upd (F 10) fd p1)) 11 (upd (F 11) fd p2)) else wsB B cI cS I F)) 0 0 (FPw (wsB B cI cS I F)) := by
  refine metW (by decide) [.ref (B 0), .int p0, .int p1, .int p2] (Nat.le_of_ble_eq_true rfl) ?_
  intro p e s m args below meth c hx hb hml hr hlk hown hts hKK hP hD hS ls hl
  obtain ⟨hK, hN⟩ := id hKK
  have hl : lv_has ls 4 [(0, .ref (B 0)), (1, .int p0), (2, .int p1), (3, .int p2)] := hl
  refine lv_aload_n hx hb dX3_found_0 rfl (lv_at hl 0 rfl) ?_
  refine lv_iload_n hx hb dX3_found_1 rfl (lv_at hl 1 rfl) ?_
  refine rcVi (As := [.int p0]) (rest := []) hx hb hml hown hts hKK hP (c_X3_isLand l D cI cB cS hn h3 p0) (cwV2 1 hts kw_391 kw_3 kw_388 kw_389 kw_390 rfl rfl (by decide +kernel) ⟨Nat.le_of_ble_eq_true rfl, Nat.le_of_ble_eq_true rfl⟩) 0 rfl rfl rfl rfl hl.1 rfl (Nat.le_of_ble_eq_true rfl) ⟨Nat.zero_le _, Nat.zero_le _⟩ dX3_found_2 ?_
  refine lv_if_ne (tgt := 11) hx hb dX3_found_5 (by decide) (fun c_1 => ?_) (fun c_1 => ?_)
  · have c_1 := b2_nz c_1
    refine lv_iload_n hx hb dX3_found_11 rfl (lv_at hl 2 rfl) ?_
    refine rcSi (As := [.int p1]) (rest := []) hx hb hml hown hts hKK hP (c_X3_isMinute l D cI cB cS p1) (cwS2 1 hts kw_376 kw_3 kw_374 kw_375 rfl rfl (by decide +kernel) ⟨Nat.le_of_ble_eq_true rfl, Nat.le_of_ble_eq_true rfl⟩) rfl hl.1 rfl (Nat.le_of_ble_eq_true rfl) ⟨Nat.zero_le _, Nat.zero_le _⟩ dX3_found_12 ?_
    refine lv_if_eq (tgt := 25) hx hb dX3_found_15 (by decide) (fun c_2 => ?_) (fun c_2 => ?_)
    · have c_2 := b2_z c_2
      refine lv_bipush (v := (-102 : Int32)) hx hb dX3_found_25 (by decide) ?_
      exact retWi hx hb hr hlk hP hS dX3_found_27 (by grind [cFound]) (by first | exact (if_pos (by grind)).symm | exact (if_neg (by grind)).symm)
    · have c_2 := b2_nz c_2
      refine lv_iload_n hx hb dX3_found_18 rfl (lv_at hl 3 rfl) ?_
      refine rcSi (As := [.int p2]) (rest := []) hx hb hml hown hts hKK hP (c_X3_isMuch l D cI cB cS p2) (cwS2 1 hts kw_447 kw_3 kw_445 kw_446 rfl rfl (by decide +kernel) ⟨Nat.le_of_ble_eq_true rfl, Nat.le_of_ble_eq_true rfl⟩) rfl hl.1 rfl (Nat.le_of_ble_eq_true rfl) ⟨Nat.zero_le _, Nat.zero_le _⟩ dX3_found_19 ?_
      refine lv_if_ne (tgt := 28) hx hb dX3_found_22 (by decide) (fun c_3 => ?_) (fun c_3 => ?_)
      · have c_3 := b2_nz c_3
        refine lv_aload_n hx hb dX3_found_28 rfl (lv_at hl 0 rfl) ?_
        rcases Decidable.em (fd < 6) with hf | hf
        · refine va_get (D := D) (ci := 3) (v := .ref (B 3)) (C := RX3) (T := TX3) (N := 8) hx hb hts inlX3 hown hK hP 0 rfl rfl 2 (by decide) (hts _ kw_21) (fun _ h9 => h9) rfl dX3_found_29 ?_
          refine lv_iload_n hx hb dX3_found_32 rfl (lv_at hl 1 rfl) ?_
          refine lv_iload_n hx hb dX3_found_33 rfl (lv_at hl 2 rfl) ?_
          refine lv_iload_n hx hb dX3_found_34 rfl (lv_at hl 3 rfl) ?_
          refine wcVi (As := [.int p0, .int p1, .int p2]) (rest := []) hx hb hml hown hts hKK hP hD hS (c_X1_addFound_a l D cI cB cS hn h3 hfd h6 hf p0 p1 p2) (cwV2 3 hts kw_494 kw_20 kw_491 kw_492 kw_493 rfl rfl (by decide +kernel) ⟨Nat.le_of_ble_eq_true rfl, Nat.le_of_ble_eq_true rfl⟩) 3 rfl rfl rfl rfl hl.1 rfl (Nat.le_of_ble_eq_true rfl) ⟨Nat.zero_le _, Nat.zero_le _⟩ dX3_found_35 (fun H locs hP hS => ?_)
          have hP : va_P D vwCl (wsB B cI cS (upd I 6 (nI (fd + 1))) (va_up (va_up (va_up F 9 (upd (F 9) fd p0)) 10 (upd (F 10) fd p1)) 11 (upd (F 11) fd p2))) H := hP
          have hD : va_D (FPw (wsB B cI cS I F)) (wsB B cI cS (upd I 6 (nI (fd + 1))) (va_up (va_up (va_up F 9 (upd (F 9) fd p0)) 10 (upd (F 10) fd p1)) 11 (upd (F 11) fd p2))) := va_D_addr (ws := (wsB B cI cS I F)) rfl hD
          refine lv_if_eq (tgt := 51) hx hb dX3_found_38 (by decide) (fun c_4 => ?_) (fun c_4 => ?_)
          · have c_4 := b2_z c_4
            exact absurd hf c_4
          · have c_4 := b2_nz c_4
            refine lv_aload_n hx hb dX3_found_41 rfl (lv_at hl 0 rfl) ?_
            refine va_get (D := D) (ci := 3) (v := .ref (B 3)) (C := RX3) (T := TX3) (N := 8) hx hb hts inlX3 hown hK hP 0 rfl rfl 2 (by decide) (hts _ kw_21) (fun _ h9 => h9) rfl dX3_found_42 ?_
            refine va_getN (D := D) (ci := 1) (v := .int (nI (fd + 1))) (C := RX1) (T := TX1) (N := 8) hx hb hts inlX1 hown hK hP 3 rfl rfl 3 (by decide) (nfF_4 hN) (fun _ h9 => h9) rfl dX3_found_45 ?_
            refine lv_goto (tgt := 53) hx hb dX3_found_48 (by decide) ?_
            exact retWi hx hb hr hlk hP hS dX3_found_53 (by grind [cFound]) (by first | exact (if_pos (by grind)).symm | exact (if_neg (by grind)).symm)
        · refine va_get (D := D) (ci := 3) (v := .ref (B 3)) (C := RX3) (T := TX3) (N := 8) hx hb hts inlX3 hown hK hP 0 rfl rfl 2 (by decide) (hts _ kw_21) (fun _ h9 => h9) rfl dX3_found_29 ?_
          refine lv_iload_n hx hb dX3_found_32 rfl (lv_at hl 1 rfl) ?_
          refine lv_iload_n hx hb dX3_found_33 rfl (lv_at hl 2 rfl) ?_
          refine lv_iload_n hx hb dX3_found_34 rfl (lv_at hl 3 rfl) ?_
          refine wcVi (As := [.int p0, .int p1, .int p2]) (rest := []) hx hb hml hown hts hKK hP hD hS (c_X1_addFound_b l D cI cB cS hn h3 hfd h6 hf p0 p1 p2) (cwV2 3 hts kw_494 kw_20 kw_491 kw_492 kw_493 rfl rfl (by decide +kernel) ⟨Nat.le_of_ble_eq_true rfl, Nat.le_of_ble_eq_true rfl⟩) 3 rfl rfl rfl rfl hl.1 rfl (Nat.le_of_ble_eq_true rfl) ⟨Nat.zero_le _, Nat.zero_le _⟩ dX3_found_35 (fun H locs hP hS => ?_)
          have hP : va_P D vwCl (wsB B cI cS I F) H := hP
          have hD : va_D (FPw (wsB B cI cS I F)) (wsB B cI cS I F) := va_D_addr (ws := (wsB B cI cS I F)) rfl hD
          refine lv_if_eq (tgt := 51) hx hb dX3_found_38 (by decide) (fun c_5 => ?_) (fun c_5 => ?_)
          · have c_5 := b2_z c_5
            refine lv_bipush (v := (-104 : Int32)) hx hb dX3_found_51 (by decide) ?_
            exact retWi hx hb hr hlk hP hS dX3_found_53 (by grind [cFound]) (by first | exact (if_pos (by grind)).symm | exact (if_neg (by grind)).symm)
          · have c_5 := b2_nz c_5
            exact absurd c_5 hf
      · have c_3 := b2_z c_3
        refine lv_bipush (v := (-102 : Int32)) hx hb dX3_found_25 (by decide) ?_
        exact retWi hx hb hr hlk hP hS dX3_found_27 (by grind [cFound]) (by first | exact (if_pos (by grind)).symm | exact (if_neg (by grind)).symm)
  · have c_1 := b2_z c_1
    refine lv_bipush (v := (-101 : Int32)) hx hb dX3_found_8 (by decide) ?_
    exact retWi hx hb hr hlk hP hS dX3_found_10 (by grind [cFound]) (by first | exact (if_pos (by grind)).symm | exact (if_neg (by grind)).symm)
set_option maxHeartbeats 4000000 in
set_option maxRecDepth 100000 in
theorem c_X3_blank (l : Launch) (D : va_G) (cI cB cS : ClassId) {B : Nat → Nat} {I : Nat → Int32} {F : Nat → Nat → Int32} : Met l yX3_blank (Wm yX3_blank cX3_blank 2 (some .int)) ({ frames := 0, cells := 0, slots := 0, locals := 0 }) (va_Pc [.ref (B 0)] (PW D (TYS cI cB cS) (wsB B cI cS I F))) (QcW D (some (.int (I 2))) (wsB B cI cS I F) (wsB B cI cS (upd I 2 0) F)) 0 0 (FPw (wsB B cI cS I F)) := by
  refine metW (by decide) [.ref (B 0)] (Nat.le_of_ble_eq_true rfl) ?_
  intro p e s m args below meth c hx hb hml hr hlk hown hts hKK hP hD hS ls hl
  obtain ⟨hK, hN⟩ := id hKK
  have hl : lv_has ls 2 [(0, .ref (B 0))] := hl
  refine lv_aload_n hx hb dX3_blank_0 rfl (lv_at hl 0 rfl) ?_
  refine va_get (D := D) (ci := 3) (v := .ref (B 1)) (C := RX3) (T := TX3) (N := 8) hx hb hts inlX3 hown hK hP 0 rfl rfl 0 (by decide) (hts _ kw_15) (fun _ h9 => h9) rfl dX3_blank_1 ?_
  refine va_getN (D := D) (ci := 0) (v := .int (I 2)) (C := RX0) (T := TX0) (N := 2) hx hb hts inlX0 hown hK hP 1 rfl rfl 1 (by decide) (nfF_0 hN) (fun _ h9 => h9) rfl dX3_blank_4 ?_
  refine lv_istore_n (lv' := [(1, .int (I 2)), (0, .ref (B 0))]) hx hb dX3_blank_7 rfl hl (by decide) rfl (fun ls hl => ?_)
  refine lv_aload_n hx hb dX3_blank_8 rfl (lv_at hl 1 rfl) ?_
  refine va_get (D := D) (ci := 3) (v := .ref (B 1)) (C := RX3) (T := TX3) (N := 8) hx hb hts inlX3 hown hK hP 0 rfl rfl 0 (by decide) (hts _ kw_15) (fun _ h9 => h9) rfl dX3_blank_9 ?_
  refine lv_iconst (v := (0 : Int32)) hx hb dX3_blank_12 (by decide) ?_
  refine va_putN (D := D) (ci := 0) (v := .int (0 : Int32)) (ty := tyX0 1) (C := RX0) (T := TX0) (N := 2) hx hb hts inlX0 tyX0 tyX0_ok nmX0 hown hK hP hD hS 1 rfl rfl 1 (by decide) (nfF_0 hN) (fun _ h9 => h9) rfl (tyX0_ok 1 (by decide)) rfl rfl (Nat.le_of_ble_eq_true rfl) dX3_blank_13 (fun H locs hP hD hS => ?_)
  have hP : va_P D vwCl (wsB B cI cS (upd I 2 (0 : Int32)) F) H := hP
  have hD : va_D (FPw (wsB B cI cS I F)) (wsB B cI cS (upd I 2 (0 : Int32)) F) := hD
  refine lv_iload_n hx hb dX3_blank_16 rfl (lv_at hl 0 rfl) ?_
  exact retWi hx hb hr hlk hP hS dX3_blank_17 rfl rfl
set_option maxHeartbeats 4000000 in
set_option maxRecDepth 100000 in
theorem c_X3_forget (l : Launch) (D : va_G) (cI cB cS : ClassId) {B : Nat → Nat} {I : Nat → Int32} {F : Nat → Nat → Int32} : Met l yX3_forget (Wm yX3_forget cX3_forget 2 (some .int)) ({ frames := 0, cells := 0, slots := 0, locals := 0 }) (va_Pc [.ref (B 0)] (PW D (TYS cI cB cS) (wsB B cI cS I F))) (QcW D (some (.int (I 6))) (wsB B cI cS I F) (wsB B cI cS (upd I 6 0) F)) 0 0 (FPw (wsB B cI cS I F)) := by
  refine metW (by decide) [.ref (B 0)] (Nat.le_of_ble_eq_true rfl) ?_
  intro p e s m args below meth c hx hb hml hr hlk hown hts hKK hP hD hS ls hl
  obtain ⟨hK, hN⟩ := id hKK
  have hl : lv_has ls 2 [(0, .ref (B 0))] := hl
  refine lv_aload_n hx hb dX3_forget_0 rfl (lv_at hl 0 rfl) ?_
  refine va_get (D := D) (ci := 3) (v := .ref (B 3)) (C := RX3) (T := TX3) (N := 8) hx hb hts inlX3 hown hK hP 0 rfl rfl 2 (by decide) (hts _ kw_21) (fun _ h9 => h9) rfl dX3_forget_1 ?_
  refine va_getN (D := D) (ci := 1) (v := .int (I 6)) (C := RX1) (T := TX1) (N := 8) hx hb hts inlX1 hown hK hP 3 rfl rfl 3 (by decide) (nfF_4 hN) (fun _ h9 => h9) rfl dX3_forget_4 ?_
  refine lv_istore_n (lv' := [(1, .int (I 6)), (0, .ref (B 0))]) hx hb dX3_forget_7 rfl hl (by decide) rfl (fun ls hl => ?_)
  refine lv_aload_n hx hb dX3_forget_8 rfl (lv_at hl 1 rfl) ?_
  refine va_get (D := D) (ci := 3) (v := .ref (B 3)) (C := RX3) (T := TX3) (N := 8) hx hb hts inlX3 hown hK hP 0 rfl rfl 2 (by decide) (hts _ kw_21) (fun _ h9 => h9) rfl dX3_forget_9 ?_
  refine lv_iconst (v := (0 : Int32)) hx hb dX3_forget_12 (by decide) ?_
  refine va_putN (D := D) (ci := 1) (v := .int (0 : Int32)) (ty := tyX1 3) (C := RX1) (T := TX1) (N := 8) hx hb hts inlX1 tyX1 tyX1_ok nmX1 hown hK hP hD hS 3 rfl rfl 3 (by decide) (nfF_4 hN) (fun _ h9 => h9) rfl (tyX1_ok 3 (by decide)) rfl rfl (Nat.le_of_ble_eq_true rfl) dX3_forget_13 (fun H locs hP hD hS => ?_)
  have hP : va_P D vwCl (wsB B cI cS (upd I 6 (0 : Int32)) F) H := hP
  have hD : va_D (FPw (wsB B cI cS I F)) (wsB B cI cS (upd I 6 (0 : Int32)) F) := hD
  refine lv_iload_n hx hb dX3_forget_16 rfl (lv_at hl 0 rfl) ?_
  exact retWi hx hb hr hlk hP hS dX3_forget_17 rfl rfl
set_option maxHeartbeats 4000000 in
set_option maxRecDepth 100000 in
theorem c_X3_image (l : Launch) (D : va_G) (cI cB cS : ClassId) {B : Nat → Nat} {I : Nat → Int32} {F : Nat → Nat → Int32} {n : Nat} (hn : n ≤ 6) (h3 : I 3 = nI n) : Met l yX3_image (Wm yX3_image cX3_image 1 (some .int)) ({ frames := 2, cells := 0, slots := 0, locals := 43 }) (va_Pc [.ref (B 0)] (PW D (TYS cI cB cS) (wsB B cI cS I F))) (QcW D (some (.int (if 0 < n then I 5 else -103))) (wsB B cI cS I F) (if 0 < n then wsB B cI cS (upd (upd (upd (upd (upd I 7 (I 3)) 8 (I 4)) 9 (I 5)) 10 (I 6)) 0 1) (va_up (va_up (va_up (va_up F 12 (rowN (F 8) (F 12) 10)) 13 (rowN (F 9) (F 13) 6)) 14 (rowN (F 10) (F 14) 6)) 15 (rowN (F 11) (F 15) 6)) else wsB B cI cS I F)) 0 0 (FPw (wsB B cI cS I F)) := by
  refine metW (by decide) [.ref (B 0)] (Nat.le_of_ble_eq_true rfl) ?_
  intro p e s m args below meth c hx hb hml hr hlk hown hts hKK hP hD hS ls hl
  obtain ⟨hK, hN⟩ := id hKK
  have hl : lv_has ls 1 [(0, .ref (B 0))] := hl
  refine lv_aload_n hx hb dX3_image_0 rfl (lv_at hl 0 rfl) ?_
  refine rcVi (As := []) (rest := []) hx hb hml hown hts hKK hP (c_X3_hasLeaf l D cI cB cS hn h3 ) (cwV2 0 hts kw_353 kw_3 kw_350 kw_351 kw_352 rfl rfl (by decide +kernel) ⟨Nat.le_of_ble_eq_true rfl, Nat.le_of_ble_eq_true rfl⟩) 0 rfl rfl rfl rfl hl.1 rfl (Nat.le_of_ble_eq_true rfl) ⟨Nat.zero_le _, Nat.zero_le _⟩ dX3_image_1 ?_
  refine lv_if_ne (tgt := 10) hx hb dX3_image_4 (by decide) (fun c_1 => ?_) (fun c_1 => ?_)
  · have c_1 := b2_nz c_1
    refine lv_aload_n hx hb dX3_image_10 rfl (lv_at hl 0 rfl) ?_
    refine va_get (D := D) (ci := 3) (v := .ref (B 4)) (C := RX3) (T := TX3) (N := 8) hx hb hts inlX3 hown hK hP 0 rfl rfl 3 (by decide) (hts _ kw_22) (fun _ h9 => h9) rfl dX3_image_11 ?_
    refine lv_aload_n hx hb dX3_image_14 rfl (lv_at hl 0 rfl) ?_
    refine va_get (D := D) (ci := 3) (v := .ref (B 3)) (C := RX3) (T := TX3) (N := 8) hx hb hts inlX3 hown hK hP 0 rfl rfl 2 (by decide) (hts _ kw_21) (fun _ h9 => h9) rfl dX3_image_15 ?_
    refine wcVv (As := [.ref (B 3)]) (rest := []) hx hb hml hown hts hKK hP hD hS (c_X1_copyFrom_kept l D cI cB cS ) (cwV2 1 hts kw_589 kw_20 kw_586 kw_587 kw_588 rfl rfl (by decide +kernel) ⟨Nat.le_of_ble_eq_true rfl, Nat.le_of_ble_eq_true rfl⟩) 4 rfl rfl rfl rfl hl.1 rfl (Nat.le_of_ble_eq_true rfl) ⟨Nat.zero_le _, Nat.zero_le _⟩ dX3_image_18 (fun H locs hP hS => ?_)
    have hP : va_P D vwCl (wsB B cI cS (upd (upd (upd (upd I 7 (I 3)) 8 (I 4)) 9 (I 5)) 10 (I 6)) (va_up (va_up (va_up (va_up F 12 (rowN (F 8) (F 12) 10)) 13 (rowN (F 9) (F 13) 6)) 14 (rowN (F 10) (F 14) 6)) 15 (rowN (F 11) (F 15) 6))) H := hP
    have hD : va_D (FPw (wsB B cI cS I F)) (wsB B cI cS (upd (upd (upd (upd I 7 (I 3)) 8 (I 4)) 9 (I 5)) 10 (I 6)) (va_up (va_up (va_up (va_up F 12 (rowN (F 8) (F 12) 10)) 13 (rowN (F 9) (F 13) 6)) 14 (rowN (F 10) (F 14) 6)) 15 (rowN (F 11) (F 15) 6))) := va_D_addr (ws := (wsB B cI cS I F)) rfl hD
    refine lv_aload_n hx hb dX3_image_21 rfl (lv_at hl 0 rfl) ?_
    refine lv_iconst (v := (1 : Int32)) hx hb dX3_image_22 (by decide) ?_
    refine va_put (D := D) (ci := 3) (v := .int (1 : Int32)) (ty := tyX3 4) (C := RX3) (T := TX3) (N := 8) hx hb hts inlX3 tyX3 tyX3_ok nmX3 hown hK hP hD hS 0 rfl rfl 4 (by decide) (hts _ kw_23) (fun _ h9 => h9) rfl (tyX3_ok 4 (by decide)) rfl rfl (Nat.le_of_ble_eq_true rfl) dX3_image_23 (fun H locs hP hD hS => ?_)
    have hP : va_P D vwCl (wsB B cI cS (upd (upd (upd (upd (upd I 7 (I 3)) 8 (I 4)) 9 (I 5)) 10 (I 6)) 0 (1 : Int32)) (va_up (va_up (va_up (va_up F 12 (rowN (F 8) (F 12) 10)) 13 (rowN (F 9) (F 13) 6)) 14 (rowN (F 10) (F 14) 6)) 15 (rowN (F 11) (F 15) 6))) H := hP
    have hD : va_D (FPw (wsB B cI cS I F)) (wsB B cI cS (upd (upd (upd (upd (upd I 7 (I 3)) 8 (I 4)) 9 (I 5)) 10 (I 6)) 0 (1 : Int32)) (va_up (va_up (va_up (va_up F 12 (rowN (F 8) (F 12) 10)) 13 (rowN (F 9) (F 13) 6)) 14 (rowN (F 10) (F 14) 6)) 15 (rowN (F 11) (F 15) 6))) := hD
    refine lv_aload_n hx hb dX3_image_26 rfl (lv_at hl 0 rfl) ?_
    refine va_get (D := D) (ci := 3) (v := .ref (B 3)) (C := RX3) (T := TX3) (N := 8) hx hb hts inlX3 hown hK hP 0 rfl rfl 2 (by decide) (hts _ kw_21) (fun _ h9 => h9) rfl dX3_image_27 ?_
    refine va_getN (D := D) (ci := 1) (v := .int (I 5)) (C := RX1) (T := TX1) (N := 8) hx hb hts inlX1 hown hK hP 3 rfl rfl 2 (by decide) (nfF_3 hN) (fun _ h9 => h9) rfl dX3_image_30 ?_
    exact retWi hx hb hr hlk hP hS dX3_image_33 (by first | exact (if_pos (by grind)).symm | exact (if_neg (by grind)).symm) (by first | exact (if_pos (by grind)).symm | exact (if_neg (by grind)).symm)
  · have c_1 := b2_z c_1
    refine lv_bipush (v := (-103 : Int32)) hx hb dX3_image_7 (by decide) ?_
    exact retWi hx hb hr hlk hP hS dX3_image_9 (by first | exact (if_pos (by grind)).symm | exact (if_neg (by grind)).symm) (by first | exact (if_pos (by grind)).symm | exact (if_neg (by grind)).symm)
set_option maxHeartbeats 4000000 in
set_option maxRecDepth 100000 in
theorem c_X3_restore (l : Launch) (D : va_G) (cI cB cS : ClassId) {B : Nat → Nat} {I : Nat → Int32} {F : Nat → Nat → Int32} : Met l yX3_restore (Wm yX3_restore cX3_restore 1 (some .int)) ({ frames := 2, cells := 0, slots := 0, locals := 43 }) (va_Pc [.ref (B 0)] (PW D (TYS cI cB cS) (wsB B cI cS I F))) (QcW D (some (.int (if ¬ I 0 = 0 then I 9 else -103))) (wsB B cI cS I F) (if ¬ I 0 = 0 then wsB B cI cS (upd (upd (upd (upd I 3 (I 7)) 4 (I 8)) 5 (I 9)) 6 (I 10)) (va_up (va_up (va_up (va_up F 8 (rowN (F 12) (F 8) 10)) 9 (rowN (F 13) (F 9) 6)) 10 (rowN (F 14) (F 10) 6)) 11 (rowN (F 15) (F 11) 6)) else wsB B cI cS I F)) 0 0 (FPw (wsB B cI cS I F)) := by
  refine metW (by decide) [.ref (B 0)] (Nat.le_of_ble_eq_true rfl) ?_
  intro p e s m args below meth c hx hb hml hr hlk hown hts hKK hP hD hS ls hl
  obtain ⟨hK, hN⟩ := id hKK
  have hl : lv_has ls 1 [(0, .ref (B 0))] := hl
  refine lv_aload_n hx hb dX3_restore_0 rfl (lv_at hl 0 rfl) ?_
  refine va_get (D := D) (ci := 3) (v := .int (I 0)) (C := RX3) (T := TX3) (N := 8) hx hb hts inlX3 hown hK hP 0 rfl rfl 4 (by decide) (hts _ kw_23) (fun _ h9 => h9) rfl dX3_restore_1 ?_
  refine lv_if_ne (tgt := 10) hx hb dX3_restore_4 (by decide) (fun c_1 => ?_) (fun c_1 => ?_)
  · refine lv_aload_n hx hb dX3_restore_10 rfl (lv_at hl 0 rfl) ?_
    refine va_get (D := D) (ci := 3) (v := .ref (B 3)) (C := RX3) (T := TX3) (N := 8) hx hb hts inlX3 hown hK hP 0 rfl rfl 2 (by decide) (hts _ kw_21) (fun _ h9 => h9) rfl dX3_restore_11 ?_
    refine lv_aload_n hx hb dX3_restore_14 rfl (lv_at hl 0 rfl) ?_
    refine va_get (D := D) (ci := 3) (v := .ref (B 4)) (C := RX3) (T := TX3) (N := 8) hx hb hts inlX3 hown hK hP 0 rfl rfl 3 (by decide) (hts _ kw_22) (fun _ h9 => h9) rfl dX3_restore_15 ?_
    refine wcVv (As := [.ref (B 4)]) (rest := []) hx hb hml hown hts hKK hP hD hS (c_X1_copyFrom_now l D cI cB cS ) (cwV2 1 hts kw_589 kw_20 kw_586 kw_587 kw_588 rfl rfl (by decide +kernel) ⟨Nat.le_of_ble_eq_true rfl, Nat.le_of_ble_eq_true rfl⟩) 3 rfl rfl rfl rfl hl.1 rfl (Nat.le_of_ble_eq_true rfl) ⟨Nat.zero_le _, Nat.zero_le _⟩ dX3_restore_18 (fun H locs hP hS => ?_)
    have hP : va_P D vwCl (wsB B cI cS (upd (upd (upd (upd I 3 (I 7)) 4 (I 8)) 5 (I 9)) 6 (I 10)) (va_up (va_up (va_up (va_up F 8 (rowN (F 12) (F 8) 10)) 9 (rowN (F 13) (F 9) 6)) 10 (rowN (F 14) (F 10) 6)) 11 (rowN (F 15) (F 11) 6))) H := hP
    have hD : va_D (FPw (wsB B cI cS I F)) (wsB B cI cS (upd (upd (upd (upd I 3 (I 7)) 4 (I 8)) 5 (I 9)) 6 (I 10)) (va_up (va_up (va_up (va_up F 8 (rowN (F 12) (F 8) 10)) 9 (rowN (F 13) (F 9) 6)) 10 (rowN (F 14) (F 10) 6)) 11 (rowN (F 15) (F 11) 6))) := va_D_addr (ws := (wsB B cI cS I F)) rfl hD
    refine lv_aload_n hx hb dX3_restore_21 rfl (lv_at hl 0 rfl) ?_
    refine va_get (D := D) (ci := 3) (v := .ref (B 3)) (C := RX3) (T := TX3) (N := 8) hx hb hts inlX3 hown hK hP 0 rfl rfl 2 (by decide) (hts _ kw_21) (fun _ h9 => h9) rfl dX3_restore_22 ?_
    refine va_getN (D := D) (ci := 1) (v := .int (I 9)) (C := RX1) (T := TX1) (N := 8) hx hb hts inlX1 hown hK hP 3 rfl rfl 2 (by decide) (nfF_3 hN) (fun _ h9 => h9) rfl dX3_restore_25 ?_
    exact retWi hx hb hr hlk hP hS dX3_restore_28 (by first | exact (if_pos (by grind)).symm | exact (if_neg (by grind)).symm) (by first | exact (if_pos (by grind)).symm | exact (if_neg (by grind)).symm)
  · refine lv_bipush (v := (-103 : Int32)) hx hb dX3_restore_7 (by decide) ?_
    exact retWi hx hb hr hlk hP hS dX3_restore_9 (by first | exact (if_pos (by grind)).symm | exact (if_neg (by grind)).symm) (by first | exact (if_pos (by grind)).symm | exact (if_neg (by grind)).symm)
set_option maxHeartbeats 4000000 in
set_option maxRecDepth 100000 in
theorem c_X3_count (l : Launch) (D : va_G) (cI cB cS : ClassId) {B : Nat → Nat} {I : Nat → Int32} {F : Nat → Nat → Int32} {n : Nat} (hn : n ≤ 6) (h3 : I 3 = nI n) (p0 : Int32) : Met l yX3_count (Wm yX3_count cX3_count 2 (some .int)) ({ frames := 1, cells := 0, slots := 0, locals := 22 }) (va_Pc [.ref (B 0), .int p0] (PR D (TYS cI cB cS) (wsB B cI cS I F))) (QcV (some (.int (cCount I (F 8) n p0)))) 0 0 (fun _ => False) := by
  refine metR (by decide) [.ref (B 0), .int p0] (Nat.le_of_ble_eq_true rfl) ?_
  intro p e s m args below meth c hx hb hml hr hlk hown hts hKK hP ls hl
  obtain ⟨hK, hN⟩ := id hKK
  have hl : lv_has ls 2 [(0, .ref (B 0)), (1, .int p0)] := hl
  refine lv_iload_n hx hb dX3_count_0 rfl (lv_at hl 1 rfl) ?_
  by_cases e_1 : p0 = (0 : Int32)
  · refine topE e_1 ?_
    refine lv_tableIn (off := 47) (tgt := 48) hx hb dX3_count_1 (by decide) (by decide) rfl (by decide) ?_
    refine lv_aload_n hx hb dX3_count_48 rfl (lv_at hl 0 rfl) ?_
    refine va_get (D := D) (ci := 3) (v := .ref (B 3)) (C := RX3) (T := TX3) (N := 8) hx hb hts inlX3 hown hK hP 0 rfl rfl 2 (by decide) (hts _ kw_21) (fun _ h9 => h9) rfl dX3_count_49 ?_
    refine va_getN (D := D) (ci := 1) (v := .int (I 3)) (C := RX1) (T := TX1) (N := 8) hx hb hts inlX1 hown hK hP 3 rfl rfl 0 (by decide) (nfF_1 hN) (fun _ h9 => h9) rfl dX3_count_52 ?_
    refine topE (z := (nI n)) h3 ?_
    exact retRi hx hb hr hlk dX3_count_55 (by grind [cCount])
  by_cases e_2 : p0 = (1 : Int32)
  · refine topE e_2 ?_
    refine lv_tableIn (off := 55) (tgt := 56) hx hb dX3_count_1 (by decide) (by decide) rfl (by decide) ?_
    refine lv_aload_n hx hb dX3_count_56 rfl (lv_at hl 0 rfl) ?_
    refine va_get (D := D) (ci := 3) (v := .ref (B 3)) (C := RX3) (T := TX3) (N := 8) hx hb hts inlX3 hown hK hP 0 rfl rfl 2 (by decide) (hts _ kw_21) (fun _ h9 => h9) rfl dX3_count_57 ?_
    refine va_getN (D := D) (ci := 1) (v := .int (I 4)) (C := RX1) (T := TX1) (N := 8) hx hb hts inlX1 hown hK hP 3 rfl rfl 1 (by decide) (nfF_2 hN) (fun _ h9 => h9) rfl dX3_count_60 ?_
    refine rcSi (As := [.int (I 4)]) (rest := []) hx hb hml hown hts hKK hP (c_J6_bitCount_0f7a4 l D cI cB cS (I 4)) (cwS2 1 hts kw_468 kw_467 kw_465 kw_466 rfl rfl (by decide +kernel) ⟨Nat.le_of_ble_eq_true rfl, Nat.le_of_ble_eq_true rfl⟩) rfl hl.1 rfl (Nat.le_of_ble_eq_true rfl) ⟨Nat.zero_le _, Nat.zero_le _⟩ dX3_count_63 ?_
    exact retRi hx hb hr hlk dX3_count_66 (by grind [cCount])
  by_cases e_3 : p0 = (2 : Int32)
  · refine topE e_3 ?_
    refine lv_tableIn (off := 66) (tgt := 67) hx hb dX3_count_1 (by decide) (by decide) rfl (by decide) ?_
    refine lv_aload_n hx hb dX3_count_67 rfl (lv_at hl 0 rfl) ?_
    refine va_get (D := D) (ci := 3) (v := .ref (B 3)) (C := RX3) (T := TX3) (N := 8) hx hb hts inlX3 hown hK hP 0 rfl rfl 2 (by decide) (hts _ kw_21) (fun _ h9 => h9) rfl dX3_count_68 ?_
    refine va_getN (D := D) (ci := 1) (v := .int (I 5)) (C := RX1) (T := TX1) (N := 8) hx hb hts inlX1 hown hK hP 3 rfl rfl 2 (by decide) (nfF_3 hN) (fun _ h9 => h9) rfl dX3_count_71 ?_
    exact retRi hx hb hr hlk dX3_count_74 (by grind [cCount])
  by_cases e_4 : p0 = (3 : Int32)
  · refine topE e_4 ?_
    refine lv_tableIn (off := 74) (tgt := 75) hx hb dX3_count_1 (by decide) (by decide) rfl (by decide) ?_
    refine lv_aload_n hx hb dX3_count_75 rfl (lv_at hl 0 rfl) ?_
    refine va_get (D := D) (ci := 3) (v := .ref (B 3)) (C := RX3) (T := TX3) (N := 8) hx hb hts inlX3 hown hK hP 0 rfl rfl 2 (by decide) (hts _ kw_21) (fun _ h9 => h9) rfl dX3_count_76 ?_
    refine va_getN (D := D) (ci := 1) (v := .ref (B 8)) (C := RX1) (T := TX1) (N := 8) hx hb hts inlX1 hown hK hP 3 rfl rfl 4 (by decide) (nfF_5 hN) (fun _ h9 => h9) rfl dX3_count_79 ?_
    refine rcSi (As := [.ref (B 8)]) (rest := []) hx hb hml hown hts hKK hP (c_X3_inkIn_8 l D cI cB cS ) (cwS2 1 hts kw_553 kw_3 kw_551 kw_552 rfl rfl (by decide +kernel) ⟨Nat.le_of_ble_eq_true rfl, Nat.le_of_ble_eq_true rfl⟩) rfl hl.1 rfl (Nat.le_of_ble_eq_true rfl) ⟨Nat.zero_le _, Nat.zero_le _⟩ dX3_count_82 ?_
    refine topE (z := (sumN (F 8) 10)) rfl ?_
    exact retRi hx hb hr hlk dX3_count_85 (by grind [cCount])
  by_cases e_5 : p0 = (4 : Int32)
  · refine topE e_5 ?_
    refine lv_tableIn (off := 85) (tgt := 86) hx hb dX3_count_1 (by decide) (by decide) rfl (by decide) ?_
    refine lv_aload_n hx hb dX3_count_86 rfl (lv_at hl 0 rfl) ?_
    refine rcVi (As := []) (rest := []) hx hb hml hown hts hKK hP (c_X3_hasLeaf l D cI cB cS hn h3 ) (cwV2 0 hts kw_353 kw_3 kw_350 kw_351 kw_352 rfl rfl (by decide +kernel) ⟨Nat.le_of_ble_eq_true rfl, Nat.le_of_ble_eq_true rfl⟩) 0 rfl rfl rfl rfl hl.1 rfl (Nat.le_of_ble_eq_true rfl) ⟨Nat.zero_le _, Nat.zero_le _⟩ dX3_count_87 ?_
    refine lv_if_eq (tgt := 106) hx hb dX3_count_90 (by decide) (fun c_6 => ?_) (fun c_6 => ?_)
    · have c_6 := b2_z c_6
      refine lv_iconst (v := (0 : Int32)) hx hb dX3_count_106 (by decide) ?_
      exact retRi hx hb hr hlk dX3_count_107 (by grind [cCount])
    · have c_6 := b2_nz c_6
      refine lv_aload_n hx hb dX3_count_93 rfl (lv_at hl 0 rfl) ?_
      refine va_get (D := D) (ci := 3) (v := .ref (B 3)) (C := RX3) (T := TX3) (N := 8) hx hb hts inlX3 hown hK hP 0 rfl rfl 2 (by decide) (hts _ kw_21) (fun _ h9 => h9) rfl dX3_count_94 ?_
      refine va_getN (D := D) (ci := 1) (v := .ref (B 8)) (C := RX1) (T := TX1) (N := 8) hx hb hts inlX1 hown hK hP 3 rfl rfl 4 (by decide) (nfF_5 hN) (fun _ h9 => h9) rfl dX3_count_97 ?_
      refine rcSi (As := [.ref (B 8)]) (rest := []) hx hb hml hown hts hKK hP (c_X3_dryIn_8 l D cI cB cS ) (cwS2 1 hts kw_556 kw_3 kw_554 kw_555 rfl rfl (by decide +kernel) ⟨Nat.le_of_ble_eq_true rfl, Nat.le_of_ble_eq_true rfl⟩) rfl hl.1 rfl (Nat.le_of_ble_eq_true rfl) ⟨Nat.zero_le _, Nat.zero_le _⟩ dX3_count_100 ?_
      refine topE (z := (dryN (F 8) 10)) rfl ?_
      refine lv_goto (tgt := 107) hx hb dX3_count_103 (by decide) ?_
      exact retRi hx hb hr hlk dX3_count_107 (by grind [cCount])
  by_cases e_7 : p0 = (5 : Int32)
  · refine topE e_7 ?_
    refine lv_tableIn (off := 107) (tgt := 108) hx hb dX3_count_1 (by decide) (by decide) rfl (by decide) ?_
    refine lv_aload_n hx hb dX3_count_108 rfl (lv_at hl 0 rfl) ?_
    refine va_get (D := D) (ci := 3) (v := .ref (B 3)) (C := RX3) (T := TX3) (N := 8) hx hb hts inlX3 hown hK hP 0 rfl rfl 2 (by decide) (hts _ kw_21) (fun _ h9 => h9) rfl dX3_count_109 ?_
    refine va_getN (D := D) (ci := 1) (v := .int (I 6)) (C := RX1) (T := TX1) (N := 8) hx hb hts inlX1 hown hK hP 3 rfl rfl 3 (by decide) (nfF_4 hN) (fun _ h9 => h9) rfl dX3_count_112 ?_
    exact retRi hx hb hr hlk dX3_count_115 (by grind [cCount])
  by_cases e_8 : p0 = (6 : Int32)
  · refine topE e_8 ?_
    refine lv_tableIn (off := 115) (tgt := 116) hx hb dX3_count_1 (by decide) (by decide) rfl (by decide) ?_
    refine lv_aload_n hx hb dX3_count_116 rfl (lv_at hl 0 rfl) ?_
    refine va_get (D := D) (ci := 3) (v := .ref (B 1)) (C := RX3) (T := TX3) (N := 8) hx hb hts inlX3 hown hK hP 0 rfl rfl 0 (by decide) (hts _ kw_15) (fun _ h9 => h9) rfl dX3_count_117 ?_
    refine va_getN (D := D) (ci := 0) (v := .int (I 2)) (C := RX0) (T := TX0) (N := 2) hx hb hts inlX0 hown hK hP 1 rfl rfl 1 (by decide) (nfF_0 hN) (fun _ h9 => h9) rfl dX3_count_120 ?_
    exact retRi hx hb hr hlk dX3_count_123 (by grind [cCount])
  by_cases e_9 : p0 = (7 : Int32)
  · refine topE e_9 ?_
    refine lv_tableIn (off := 123) (tgt := 124) hx hb dX3_count_1 (by decide) (by decide) rfl (by decide) ?_
    refine lv_aload_n hx hb dX3_count_124 rfl (lv_at hl 0 rfl) ?_
    refine va_get (D := D) (ci := 3) (v := .int (I 1)) (C := RX3) (T := TX3) (N := 8) hx hb hts inlX3 hown hK hP 0 rfl rfl 5 (by decide) (hts _ kw_24) (fun _ h9 => h9) rfl dX3_count_125 ?_
    exact retRi hx hb hr hlk dX3_count_128 (by grind [cCount])
  have t_10 := lv_neT e_1 (a := 0) rfl
  have t_11 := lv_neT e_2 (a := 1) rfl
  have t_12 := lv_neT e_3 (a := 2) rfl
  have t_13 := lv_neT e_4 (a := 3) rfl
  have t_14 := lv_neT e_5 (a := 4) rfl
  have t_15 := lv_neT e_7 (a := 5) rfl
  have t_16 := lv_neT e_8 (a := 6) rfl
  have t_17 := lv_neT e_9 (a := 7) rfl
  refine lv_tableOut (tgt := 129) hx hb dX3_count_1 (by omega) (by decide) ?_
  refine lv_bipush (v := (-102 : Int32)) hx hb dX3_count_129 (by decide) ?_
  exact retRi hx hb hr hlk dX3_count_131 (by grind [cCount])
set_option maxHeartbeats 4000000 in
set_option maxRecDepth 100000 in
theorem c_X3_mixed (l : Launch) (D : va_G) (cI cB cS : ClassId) {ws : va_W} (p0 p1 : Int64) : Met l yX3_mixed (Wm yX3_mixed cX3_mixed 4 (some .long)) ({ frames := 0, cells := 0, slots := 0, locals := 0 }) (va_Pc [.long p0, .long p1] (PR D (TYS cI cB cS) ws)) (QcV (some (.long ((31 : Int64) * p0 + p1)))) 0 0 (fun _ => False) := by
  refine metR (by decide) [.long p0, .long p1] (Nat.le_of_ble_eq_true rfl) ?_
  intro p e s m args below meth c hx hb hml hr hlk hown hts hKK hP ls hl
  obtain ⟨hK, hN⟩ := id hKK
  have hl : lv_has ls 4 [(0, .long p0), (2, .long p1)] := hl
  refine lv_ldc2 (v := (31 : Int64)) hx hb hown (hts _ kw_629) dX3_mixed_0 ?_
  refine lv_lload_n hx hb dX3_mixed_3 rfl (lv_at hl 0 rfl) ?_
  refine lv_lmul hx hb dX3_mixed_4 ?_
  refine lv_lload_n hx hb dX3_mixed_5 rfl (lv_at hl 1 rfl) ?_
  refine lv_ladd hx hb dX3_mixed_6 ?_
  exact retRl hx hb hr hlk dX3_mixed_7 rfl
set_option maxHeartbeats 4000000 in
set_option maxRecDepth 100000 in
theorem c_X3_withLand (l : Launch) (D : va_G) (cI cB cS : ClassId) {B : Nat → Nat} {I : Nat → Int32} {F : Nat → Nat → Int32} {n : Nat} (hn : n ≤ 6) (h3 : I 3 = nI n) (p0 : Int64) : Met l yX3_withLand (Wm yX3_withLand cX3_withLand 6 (some .long)) ({ frames := 5, cells := 0, slots := 0, locals := 118 }) (va_Pc [.ref (B 0), .long p0] (PR D (TYS cI cB cS) (wsB B cI cS I F))) (QcV (some (.long (cLand F (I 4) n p0)))) 0 0 (fun _ => False) := by
  refine metR (by decide) [.ref (B 0), .long p0] (Nat.le_of_ble_eq_true rfl) ?_
  intro p e s m args below meth c hx hb hml hr hlk hown hts hKK hP ls hl
  obtain ⟨hK, hN⟩ := id hKK
  have hl : lv_has ls 6 [(0, .ref (B 0)), (1, .long p0)] := hl
  refine lv_lload_n hx hb dX3_withLand_0 rfl (lv_at hl 1 rfl) ?_
  refine lv_lstore_n (lv' := [(3, .long p0), (0, .ref (B 0)), (1, .long p0)]) hx hb dX3_withLand_1 rfl hl (by decide) rfl (fun ls hl => ?_)
  refine lv_iconst (v := (0 : Int32)) hx hb dX3_withLand_2 (by decide) ?_
  refine lv_istore (lv' := [(5, .int (0 : Int32)), (3, .long p0), (0, .ref (B 0)), (1, .long p0)]) hx hb dX3_withLand_3 hl (by decide) rfl (fun ls hl => ?_)
  have loop_5 : ∀ (z : Nat) (k : Nat) (x3 : Int64) (x5 : Int32), x3 = mix2 (fun c => cInk (F 8) n (nI c)) (fun c => cComesS F (I 4) n (nI c) 4) p0 k → x5 = nI k → (k ≤ 10) → 10 - k < z → ∀ (ls : Array Slot), lv_has ls 6 [(0, .ref (B 0)), (1, .long p0), (3, .long x3), (5, .int x5)] → W p l e ({ frames := 5, cells := 0, slots := 0, locals := 118 } : Room) s m args below meth c s.heap [] 0 0 (MQ below (QcV (some (.long (cLand F (I 4) n p0)))) args s 0 0 (fun _ => False)) (F0 m 5 ls []) := by
    intro z
    induction z with
    | zero =>
      intro k x3 x5 ex3 ex5 hk hz
      exact absurd hz (Nat.not_lt_zero _)
    | succ z ih_5 =>
      intro k x3 x5 ex3 ex5 hk hz ls hl
      subst ex3
      subst ex5
      refine lv_iload hx hb dX3_withLand_5 (lv_at hl 3 rfl) ?_
      refine lv_bipush (v := (10 : Int32)) hx hb dX3_withLand_7 (by decide) ?_
      refine lv_icmp_ge (tgt := 43) hx hb dX3_withLand_9 (by decide) (fun c_1 => ?_) (fun c_1 => ?_)
      · have nc_1 : 10 ≤ k := (nI_leI (a := 10) (b := k) (by omega) (by omega)).mp c_1
        refine lv_lload_n hx hb dX3_withLand_43 rfl (lv_at hl 2 rfl) ?_
        refine lv_aload_n hx hb dX3_withLand_44 rfl (lv_at hl 0 rfl) ?_
        refine lv_iconst (v := (5 : Int32)) hx hb dX3_withLand_45 (by decide) ?_
        refine rcVi (As := [.int (5 : Int32)]) (rest := [.long (mix2 (fun c => cInk (F 8) n (nI c)) (fun c => cComesS F (I 4) n (nI c) 4) p0 k)]) hx hb hml hown hts hKK hP (c_X3_hills l D cI cB cS hn h3 (5 : Int32)) (cwV2 1 hts kw_432 kw_3 kw_637 kw_430 kw_431 rfl rfl (by decide +kernel) ⟨Nat.le_of_ble_eq_true rfl, Nat.le_of_ble_eq_true rfl⟩) 0 rfl rfl rfl rfl hl.1 rfl (Nat.le_of_ble_eq_true rfl) ⟨Nat.zero_le _, Nat.zero_le _⟩ dX3_withLand_46 ?_
        refine topE (z := (cHills (F 8) n (5 : Int32))) rfl ?_
        refine lv_i2l (v := ((cHills (F 8) n (5 : Int32)).toInt64)) hx hb dX3_withLand_49 rfl ?_
        refine rcSl (As := [.long (mix2 (fun c => cInk (F 8) n (nI c)) (fun c => cComesS F (I 4) n (nI c) 4) p0 k), .long ((cHills (F 8) n (5 : Int32)).toInt64)]) (rest := []) hx hb hml hown hts hKK hP (c_X3_mixed l D cI cB cS (mix2 (fun c => cInk (F 8) n (nI c)) (fun c => cComesS F (I 4) n (nI c) 4) p0 k) ((cHills (F 8) n (5 : Int32)).toInt64)) (cwS2 2 hts kw_628 kw_3 kw_626 kw_627 rfl rfl (by decide +kernel) ⟨Nat.le_of_ble_eq_true rfl, Nat.le_of_ble_eq_true rfl⟩) rfl hl.1 rfl (Nat.le_of_ble_eq_true rfl) ⟨Nat.zero_le _, Nat.zero_le _⟩ dX3_withLand_50 ?_
        refine topL (z := (mx (mix2 (fun c => cInk (F 8) n (nI c)) (fun c => cComesS F (I 4) n (nI c) 4) p0 k) (cHills (F 8) n (5 : Int32)))) rfl ?_
        refine lv_lstore_n (lv' := [(3, .long (mx (mix2 (fun c => cInk (F 8) n (nI c)) (fun c => cComesS F (I 4) n (nI c) 4) p0 k) (cHills (F 8) n (5 : Int32)))), (0, .ref (B 0)), (1, .long p0), (5, .int (nI k))]) hx hb dX3_withLand_53 rfl hl (by decide) rfl (fun ls hl => ?_)
        refine lv_lload_n hx hb dX3_withLand_54 rfl (lv_at hl 0 rfl) ?_
        refine lv_aload_n hx hb dX3_withLand_55 rfl (lv_at hl 1 rfl) ?_
        refine lv_iconst (v := (4 : Int32)) hx hb dX3_withLand_56 (by decide) ?_
        refine lv_sipush (v := (1023 : Int32)) hx hb dX3_withLand_57 (by decide) ?_
        refine lv_iconst (v := (0 : Int32)) hx hb dX3_withLand_60 (by decide) ?_
        refine rcVi (As := [.int (4 : Int32), .int (1023 : Int32), .int (0 : Int32)]) (rest := [.long (mx (mix2 (fun c => cInk (F 8) n (nI c)) (fun c => cComesS F (I 4) n (nI c) 4) p0 k) (cHills (F 8) n (5 : Int32)))]) hx hb hml hown hts hKK hP (c_X3_toSand l D cI cB cS hn h3 (4 : Int32) (1023 : Int32) (0 : Int32)) (cwV2 3 hts kw_459 kw_3 kw_638 kw_457 kw_458 rfl rfl (by decide +kernel) ⟨Nat.le_of_ble_eq_true rfl, Nat.le_of_ble_eq_true rfl⟩) 0 rfl rfl rfl rfl hl.1 rfl (Nat.le_of_ble_eq_true rfl) ⟨Nat.zero_le _, Nat.zero_le _⟩ dX3_withLand_61 ?_
        refine topE (z := (cToSand F (I 4) n (4 : Int32) (1023 : Int32) (0 : Int32))) rfl ?_
        refine lv_i2l (v := ((cToSand F (I 4) n (4 : Int32) (1023 : Int32) (0 : Int32)).toInt64)) hx hb dX3_withLand_64 rfl ?_
        refine rcSl (As := [.long (mx (mix2 (fun c => cInk (F 8) n (nI c)) (fun c => cComesS F (I 4) n (nI c) 4) p0 k) (cHills (F 8) n (5 : Int32))), .long ((cToSand F (I 4) n (4 : Int32) (1023 : Int32) (0 : Int32)).toInt64)]) (rest := []) hx hb hml hown hts hKK hP (c_X3_mixed l D cI cB cS (mx (mix2 (fun c => cInk (F 8) n (nI c)) (fun c => cComesS F (I 4) n (nI c) 4) p0 k) (cHills (F 8) n (5 : Int32))) ((cToSand F (I 4) n (4 : Int32) (1023 : Int32) (0 : Int32)).toInt64)) (cwS2 2 hts kw_628 kw_3 kw_626 kw_627 rfl rfl (by decide +kernel) ⟨Nat.le_of_ble_eq_true rfl, Nat.le_of_ble_eq_true rfl⟩) rfl hl.1 rfl (Nat.le_of_ble_eq_true rfl) ⟨Nat.zero_le _, Nat.zero_le _⟩ dX3_withLand_65 ?_
        refine topL (z := (mx (mx (mix2 (fun c => cInk (F 8) n (nI c)) (fun c => cComesS F (I 4) n (nI c) 4) p0 k) (cHills (F 8) n (5 : Int32))) (cToSand F (I 4) n (4 : Int32) (1023 : Int32) (0 : Int32)))) rfl ?_
        refine lv_lstore_n (lv' := [(3, .long (mx (mx (mix2 (fun c => cInk (F 8) n (nI c)) (fun c => cComesS F (I 4) n (nI c) 4) p0 k) (cHills (F 8) n (5 : Int32))) (cToSand F (I 4) n (4 : Int32) (1023 : Int32) (0 : Int32)))), (0, .ref (B 0)), (1, .long p0), (5, .int (nI k))]) hx hb dX3_withLand_68 rfl hl (by decide) rfl (fun ls hl => ?_)
        refine lv_lload_n hx hb dX3_withLand_69 rfl (lv_at hl 0 rfl) ?_
        refine lv_aload_n hx hb dX3_withLand_70 rfl (lv_at hl 1 rfl) ?_
        refine lv_iconst (v := (4 : Int32)) hx hb dX3_withLand_71 (by decide) ?_
        refine lv_sipush (v := (1023 : Int32)) hx hb dX3_withLand_72 (by decide) ?_
        refine lv_iconst (v := (1 : Int32)) hx hb dX3_withLand_75 (by decide) ?_
        refine rcVi (As := [.int (4 : Int32), .int (1023 : Int32), .int (1 : Int32)]) (rest := [.long (mx (mx (mix2 (fun c => cInk (F 8) n (nI c)) (fun c => cComesS F (I 4) n (nI c) 4) p0 k) (cHills (F 8) n (5 : Int32))) (cToSand F (I 4) n (4 : Int32) (1023 : Int32) (0 : Int32)))]) hx hb hml hown hts hKK hP (c_X3_toSand l D cI cB cS hn h3 (4 : Int32) (1023 : Int32) (1 : Int32)) (cwV2 3 hts kw_459 kw_3 kw_638 kw_457 kw_458 rfl rfl (by decide +kernel) ⟨Nat.le_of_ble_eq_true rfl, Nat.le_of_ble_eq_true rfl⟩) 0 rfl rfl rfl rfl hl.1 rfl (Nat.le_of_ble_eq_true rfl) ⟨Nat.zero_le _, Nat.zero_le _⟩ dX3_withLand_76 ?_
        refine topE (z := (cToSand F (I 4) n (4 : Int32) (1023 : Int32) (1 : Int32))) rfl ?_
        refine lv_i2l (v := ((cToSand F (I 4) n (4 : Int32) (1023 : Int32) (1 : Int32)).toInt64)) hx hb dX3_withLand_79 rfl ?_
        refine rcSl (As := [.long (mx (mx (mix2 (fun c => cInk (F 8) n (nI c)) (fun c => cComesS F (I 4) n (nI c) 4) p0 k) (cHills (F 8) n (5 : Int32))) (cToSand F (I 4) n (4 : Int32) (1023 : Int32) (0 : Int32))), .long ((cToSand F (I 4) n (4 : Int32) (1023 : Int32) (1 : Int32)).toInt64)]) (rest := []) hx hb hml hown hts hKK hP (c_X3_mixed l D cI cB cS (mx (mx (mix2 (fun c => cInk (F 8) n (nI c)) (fun c => cComesS F (I 4) n (nI c) 4) p0 k) (cHills (F 8) n (5 : Int32))) (cToSand F (I 4) n (4 : Int32) (1023 : Int32) (0 : Int32))) ((cToSand F (I 4) n (4 : Int32) (1023 : Int32) (1 : Int32)).toInt64)) (cwS2 2 hts kw_628 kw_3 kw_626 kw_627 rfl rfl (by decide +kernel) ⟨Nat.le_of_ble_eq_true rfl, Nat.le_of_ble_eq_true rfl⟩) rfl hl.1 rfl (Nat.le_of_ble_eq_true rfl) ⟨Nat.zero_le _, Nat.zero_le _⟩ dX3_withLand_80 ?_
        refine topL (z := (mx (mx (mx (mix2 (fun c => cInk (F 8) n (nI c)) (fun c => cComesS F (I 4) n (nI c) 4) p0 k) (cHills (F 8) n (5 : Int32))) (cToSand F (I 4) n (4 : Int32) (1023 : Int32) (0 : Int32))) (cToSand F (I 4) n (4 : Int32) (1023 : Int32) (1 : Int32)))) rfl ?_
        exact retRl hx hb hr hlk dX3_withLand_83 (by have hkn : k = 10 := (by omega); subst hkn; rfl)
      · have nc_1 : ¬ 10 ≤ k := fun h => c_1 ((nI_leI (a := 10) (b := k) (by omega) (by omega)).mpr h)
        refine lv_lload_n hx hb dX3_withLand_12 rfl (lv_at hl 2 rfl) ?_
        refine lv_aload_n hx hb dX3_withLand_13 rfl (lv_at hl 0 rfl) ?_
        refine lv_iload hx hb dX3_withLand_14 (lv_at hl 3 rfl) ?_
        refine rcVi (As := [.int (nI k)]) (rest := [.long (mix2 (fun c => cInk (F 8) n (nI c)) (fun c => cComesS F (I 4) n (nI c) 4) p0 k)]) hx hb hml hown hts hKK hP (c_X3_ink l D cI cB cS hn h3 (nI k)) (cwV2 1 hts kw_387 kw_3 kw_635 kw_385 kw_386 rfl rfl (by decide +kernel) ⟨Nat.le_of_ble_eq_true rfl, Nat.le_of_ble_eq_true rfl⟩) 0 rfl rfl rfl rfl hl.1 rfl (Nat.le_of_ble_eq_true rfl) ⟨Nat.zero_le _, Nat.zero_le _⟩ dX3_withLand_16 ?_
        refine topE (z := (cInk (F 8) n (nI k))) rfl ?_
        refine lv_i2l (v := ((cInk (F 8) n (nI k)).toInt64)) hx hb dX3_withLand_19 rfl ?_
        refine rcSl (As := [.long (mix2 (fun c => cInk (F 8) n (nI c)) (fun c => cComesS F (I 4) n (nI c) 4) p0 k), .long ((cInk (F 8) n (nI k)).toInt64)]) (rest := []) hx hb hml hown hts hKK hP (c_X3_mixed l D cI cB cS (mix2 (fun c => cInk (F 8) n (nI c)) (fun c => cComesS F (I 4) n (nI c) 4) p0 k) ((cInk (F 8) n (nI k)).toInt64)) (cwS2 2 hts kw_628 kw_3 kw_626 kw_627 rfl rfl (by decide +kernel) ⟨Nat.le_of_ble_eq_true rfl, Nat.le_of_ble_eq_true rfl⟩) rfl hl.1 rfl (Nat.le_of_ble_eq_true rfl) ⟨Nat.zero_le _, Nat.zero_le _⟩ dX3_withLand_20 ?_
        refine topL (z := (mx (mix2 (fun c => cInk (F 8) n (nI c)) (fun c => cComesS F (I 4) n (nI c) 4) p0 k) (cInk (F 8) n (nI k)))) rfl ?_
        refine lv_lstore_n (lv' := [(3, .long (mx (mix2 (fun c => cInk (F 8) n (nI c)) (fun c => cComesS F (I 4) n (nI c) 4) p0 k) (cInk (F 8) n (nI k)))), (0, .ref (B 0)), (1, .long p0), (5, .int (nI k))]) hx hb dX3_withLand_23 rfl hl (by decide) rfl (fun ls hl => ?_)
        refine lv_lload_n hx hb dX3_withLand_24 rfl (lv_at hl 0 rfl) ?_
        refine lv_aload_n hx hb dX3_withLand_25 rfl (lv_at hl 1 rfl) ?_
        refine lv_iload hx hb dX3_withLand_26 (lv_at hl 3 rfl) ?_
        refine lv_iconst (v := (4 : Int32)) hx hb dX3_withLand_28 (by decide) ?_
        refine rcVi (As := [.int (nI k), .int (4 : Int32)]) (rest := [.long (mx (mix2 (fun c => cInk (F 8) n (nI c)) (fun c => cComesS F (I 4) n (nI c) 4) p0 k) (cInk (F 8) n (nI k)))]) hx hb hml hown hts hKK hP (c_X3_comes l D cI cB cS hn h3 (nI k) (4 : Int32)) (cwV2 2 hts kw_403 kw_3 kw_636 kw_401 kw_402 rfl rfl (by decide +kernel) ⟨Nat.le_of_ble_eq_true rfl, Nat.le_of_ble_eq_true rfl⟩) 0 rfl rfl rfl rfl hl.1 rfl (Nat.le_of_ble_eq_true rfl) ⟨Nat.zero_le _, Nat.zero_le _⟩ dX3_withLand_29 ?_
        refine topE (z := (cComesS F (I 4) n (nI k) (4 : Int32))) rfl ?_
        refine lv_i2l (v := ((cComesS F (I 4) n (nI k) (4 : Int32)).toInt64)) hx hb dX3_withLand_32 rfl ?_
        refine rcSl (As := [.long (mx (mix2 (fun c => cInk (F 8) n (nI c)) (fun c => cComesS F (I 4) n (nI c) 4) p0 k) (cInk (F 8) n (nI k))), .long ((cComesS F (I 4) n (nI k) (4 : Int32)).toInt64)]) (rest := []) hx hb hml hown hts hKK hP (c_X3_mixed l D cI cB cS (mx (mix2 (fun c => cInk (F 8) n (nI c)) (fun c => cComesS F (I 4) n (nI c) 4) p0 k) (cInk (F 8) n (nI k))) ((cComesS F (I 4) n (nI k) (4 : Int32)).toInt64)) (cwS2 2 hts kw_628 kw_3 kw_626 kw_627 rfl rfl (by decide +kernel) ⟨Nat.le_of_ble_eq_true rfl, Nat.le_of_ble_eq_true rfl⟩) rfl hl.1 rfl (Nat.le_of_ble_eq_true rfl) ⟨Nat.zero_le _, Nat.zero_le _⟩ dX3_withLand_33 ?_
        refine topL (z := (mx (mx (mix2 (fun c => cInk (F 8) n (nI c)) (fun c => cComesS F (I 4) n (nI c) 4) p0 k) (cInk (F 8) n (nI k))) (cComesS F (I 4) n (nI k) (4 : Int32)))) rfl ?_
        refine lv_lstore_n (lv' := [(3, .long (mx (mx (mix2 (fun c => cInk (F 8) n (nI c)) (fun c => cComesS F (I 4) n (nI c) 4) p0 k) (cInk (F 8) n (nI k))) (cComesS F (I 4) n (nI k) (4 : Int32)))), (0, .ref (B 0)), (1, .long p0), (5, .int (nI k))]) hx hb dX3_withLand_36 rfl hl (by decide) rfl (fun ls hl => ?_)
        refine lv_iinc (v := (nI (k + 1))) (lv' := [(5, .int (nI (k + 1))), (3, .long (mx (mx (mix2 (fun c => cInk (F 8) n (nI c)) (fun c => cComesS F (I 4) n (nI c) 4) p0 k) (cInk (F 8) n (nI k))) (cComesS F (I 4) n (nI k) (4 : Int32)))), (0, .ref (B 0)), (1, .long p0)]) hx hb dX3_withLand_37 hl (k := 3) rfl (nI_add k 1) (by decide) rfl (fun ls hl => ?_)
        refine lv_goto (tgt := 5) hx hb dX3_withLand_40 (by decide) ?_
        exact ih_5 (k + 1) (mx (mx (mix2 (fun c => cInk (F 8) n (nI c)) (fun c => cComesS F (I 4) n (nI c) 4) p0 k) (cInk (F 8) n (nI k))) (cComesS F (I 4) n (nI k) (4 : Int32))) (nI (k + 1)) rfl rfl (by omega) (by omega) ls (lv_sub hl [2, 3, 1, 0] rfl)
  exact loop_5 ((10 - 0) + 1) 0 p0 (0 : Int32) rfl rfl (by omega) (by omega) ls (lv_sub hl [2, 3, 1, 0] rfl)
set_option maxHeartbeats 4000000 in
set_option maxRecDepth 100000 in
theorem c_X0_codeAt (l : Launch) (D : va_G) (cI cB cS : ClassId) {B : Nat → Nat} {I : Nat → Int32} {F : Nat → Nat → Int32} {k : Nat} (hk : k < 21) : Met l yX0_codeAt (Wm yX0_codeAt cX0_codeAt 2 (some .int)) ({ frames := 0, cells := 0, slots := 0, locals := 0 }) (va_Pc [.ref (B 1), .int (nI k)] (PR D (TYS cI cB cS) (wsB B cI cS I F))) (QcV (some (.int (F 7 k)))) 0 0 (fun _ => False) := by
  refine metR (by decide) [.ref (B 1), .int (nI k)] (Nat.le_of_ble_eq_true rfl) ?_
  intro p e s m args below meth c hx hb hml hr hlk hown hts hKK hP ls hl
  obtain ⟨hK, hN⟩ := id hKK
  have hl : lv_has ls 2 [(0, .ref (B 1)), (1, .int (nI k))] := hl
  refine lv_iload_n hx hb dX0_codeAt_0 rfl (lv_at hl 1 rfl) ?_
  refine lv_if_lt (tgt := 22) hx hb dX0_codeAt_1 (by decide) (fun c_1 => ?_) (fun c_1 => ?_)
  · have nc_1 : k < 0 := (nI_ltI (a := k) (b := 0) (by omega) (by omega)).mp c_1
    exfalso; omega
  · have nc_1 : ¬ k < 0 := fun h => c_1 ((nI_ltI (a := k) (b := 0) (by omega) (by omega)).mpr h)
    refine lv_iload_n hx hb dX0_codeAt_4 rfl (lv_at hl 1 rfl) ?_
    refine lv_aload_n hx hb dX0_codeAt_5 rfl (lv_at hl 0 rfl) ?_
    refine va_get (D := D) (ci := 0) (v := .ref (B 7)) (C := RX0) (T := TX0) (N := 2) hx hb hts inlX0 hown hK hP 1 rfl rfl 0 (by decide) (hts _ kw_33) (fun _ h9 => h9) rfl dX0_codeAt_6 ?_
    refine va_alen (D := D) hx hb hK hP 7 0 rfl rfl (v := (21 : Int32)) rfl dX0_codeAt_9 ?_
    refine lv_icmp_ge (tgt := 22) hx hb dX0_codeAt_10 (by decide) (fun c_2 => ?_) (fun c_2 => ?_)
    · have nc_2 : 21 ≤ k := (nI_leI (a := 21) (b := k) (by omega) (by omega)).mp c_2
      exfalso; omega
    · have nc_2 : ¬ 21 ≤ k := fun h => c_2 ((nI_leI (a := 21) (b := k) (by omega) (by omega)).mpr h)
      refine lv_aload_n hx hb dX0_codeAt_13 rfl (lv_at hl 0 rfl) ?_
      refine va_get (D := D) (ci := 0) (v := .ref (B 7)) (C := RX0) (T := TX0) (N := 2) hx hb hts inlX0 hown hK hP 1 rfl rfl 0 (by decide) (hts _ kw_33) (fun _ h9 => h9) rfl dX0_codeAt_14 ?_
      refine lv_iload_n hx hb dX0_codeAt_17 rfl (lv_at hl 1 rfl) ?_
      refine va_iald (D := D) hx hb hK hP 7 0 rfl rfl (vp_in_nI (by omega) (by omega)) dX0_codeAt_18 ?_
      refine topE (z := ((F 7) k)) (congrArg _ (nI_clamp (n := k) (by omega))) ?_
      refine lv_goto (tgt := 23) hx hb dX0_codeAt_19 (by decide) ?_
      exact retRi hx hb hr hlk dX0_codeAt_23 rfl
set_option maxHeartbeats 4000000 in
set_option maxRecDepth 100000 in
theorem c_X0_digitAt (l : Launch) (D : va_G) (cI cB cS : ClassId) {B : Nat → Nat} {I : Nat → Int32} {F : Nat → Nat → Int32} {k : Nat} (hk : k < 21) : Met l yX0_digitAt (Wm yX0_digitAt cX0_digitAt 2 (some .int)) ({ frames := 1, cells := 0, slots := 0, locals := 21 }) (va_Pc [.ref (B 1), .int (nI k)] (PR D (TYS cI cB cS) (wsB B cI cS I F))) (QcV (some (.int (F 7 k - 48)))) 0 0 (fun _ => False) := by
  refine metR (by decide) [.ref (B 1), .int (nI k)] (Nat.le_of_ble_eq_true rfl) ?_
  intro p e s m args below meth c hx hb hml hr hlk hown hts hKK hP ls hl
  obtain ⟨hK, hN⟩ := id hKK
  have hl : lv_has ls 2 [(0, .ref (B 1)), (1, .int (nI k))] := hl
  refine lv_aload_n hx hb dX0_digitAt_0 rfl (lv_at hl 0 rfl) ?_
  refine lv_iload_n hx hb dX0_digitAt_1 rfl (lv_at hl 1 rfl) ?_
  refine rcVi (As := [.int (nI k)]) (rest := []) hx hb hml hown hts hKK hP (c_X0_codeAt l D cI cB cS (k := k) (by omega)) (cwV2 1 hts kw_118 kw_14 kw_115 kw_116 kw_117 rfl rfl (by decide +kernel) ⟨Nat.le_of_ble_eq_true rfl, Nat.le_of_ble_eq_true rfl⟩) 1 rfl rfl rfl rfl hl.1 rfl (Nat.le_of_ble_eq_true rfl) ⟨Nat.zero_le _, Nat.zero_le _⟩ dX0_digitAt_2 ?_
  refine topE (z := ((F 7) k)) rfl ?_
  refine lv_bipush (v := (48 : Int32)) hx hb dX0_digitAt_5 (by decide) ?_
  refine lv_isub hx hb dX0_digitAt_7 ?_
  exact retRi hx hb hr hlk dX0_digitAt_8 rfl
end
section
set_option maxHeartbeats 4000000 in
set_option maxRecDepth 100000 in
theorem c_X3_digest (l : Launch) (D : va_G) (cI cB cS : ClassId) {B : Nat → Nat} {I : Nat → Int32} {F : Nat → Nat → Int32} {n : Nat} (hn : n ≤ 6) (h3 : I 3 = nI n) {fd : Nat} (hfd : fd ≤ 6) (h6 : I 6 = nI fd) {sz : Nat} (hsz : sz ≤ 21) (h2 : I 2 = nI sz)  : Met l yX3_digest (Wm yX3_digest cX3_digest 5 (some .long)) ({ frames := 6, cells := 0, slots := 0, locals := 147 }) (va_Pc [.ref (B 0)] (PW D (TYS cI cB cS) (wsB B cI cS I F))) (QcW D (some (.long (cDigest I F n fd sz))) (wsB B cI cS I F) (wsB B cI cS I (va_up F 6 (cDScr F (I 4) n fd n)))) 0 0 (FPw (wsB B cI cS I F)) := by
  refine metW (by decide) [.ref (B 0)] (Nat.le_of_ble_eq_true rfl) ?_
  intro p e s m args below meth c hx hb hml hr hlk hown hts hKK hP hD hS ls hl
  obtain ⟨hK, hN⟩ := id hKK
  have hl : lv_has ls 5 [(0, .ref (B 0))] := hl
  refine lv_ldc2 (v := (1049 : Int64)) hx hb hown (hts _ kw_624) dX3_digest_0 ?_
  refine lv_lstore_n (lv' := [(1, .long (1049 : Int64)), (0, .ref (B 0))]) hx hb dX3_digest_3 rfl hl (by decide) rfl (fun ls hl => ?_)
  refine lv_iconst (v := (0 : Int32)) hx hb dX3_digest_4 (by decide) ?_
  refine lv_istore_n (lv' := [(3, .int (0 : Int32)), (1, .long (1049 : Int64)), (0, .ref (B 0))]) hx hb dX3_digest_5 rfl hl (by decide) rfl (fun ls hl => ?_)
  have loop_6 : ∀ (z : Nat) (k : Nat) (x1 : Int64) (x3 : Int32), x1 = cDigS F (I 4) n fd k → x3 = nI k → (k ≤ n) → n - k < z → ∀ (H : Heap) (locs : List Loc), va_P D vwCl (wsB B cI cS I (va_up F 6 (cDScr F (I 4) n fd k))) H → va_S (FPw (wsB B cI cS I F)) s.heap H locs → ∀ (ls : Array Slot), lv_has ls 5 [(0, .ref (B 0)), (1, .long x1), (3, .int x3)] → W p l e ({ frames := 6, cells := 0, slots := 0, locals := 147 } : Room) s m args below meth c H locs 0 0 (MQ below (QcW D (some (.long (cDigest I F n fd sz))) (wsB B cI cS I F) (wsB B cI cS I (va_up F 6 (cDScr F (I 4) n fd n)))) args s 0 0 (FPw (wsB B cI cS I F))) (F0 m 6 ls []) := by
    intro z
    induction z with
    | zero =>
      intro k x1 x3 ex1 ex3 hk hz
      exact absurd hz (Nat.not_lt_zero _)
    | succ z ih_6 =>
      intro k x1 x3 ex1 ex3 hk hz H locs hP hS ls hl
      subst ex1
      subst ex3
      have hD := va_D_addr (ws := (wsB B cI cS I F)) (ws' := (wsB B cI cS I (va_up F 6 (cDScr F (I 4) n fd k)))) rfl hD
      refine lv_iload_n hx hb dX3_digest_6 rfl (lv_at hl 2 rfl) ?_
      refine lv_aload_n hx hb dX3_digest_7 rfl (lv_at hl 0 rfl) ?_
      refine va_get (D := D) (ci := 3) (v := .ref (B 3)) (C := RX3) (T := TX3) (N := 8) hx hb hts inlX3 hown hK hP 0 rfl rfl 2 (by decide) (hts _ kw_21) (fun _ h9 => h9) rfl dX3_digest_8 ?_
      refine va_getN (D := D) (ci := 1) (v := .int (I 3)) (C := RX1) (T := TX1) (N := 8) hx hb hts inlX1 hown hK hP 3 rfl rfl 0 (by decide) (nfF_1 hN) (fun _ h9 => h9) rfl dX3_digest_11 ?_
      refine topE (z := (nI n)) h3 ?_
      refine lv_icmp_ge (tgt := 89) hx hb dX3_digest_14 (by decide) (fun c_1 => ?_) (fun c_1 => ?_)
      · have nc_1 : n ≤ k := (nI_leI (a := n) (b := k) (by omega) (by omega)).mp c_1
        refine lv_aload_n hx hb dX3_digest_89 rfl (lv_at hl 0 rfl) ?_
        refine rcVi (As := []) (rest := []) hx hb hml hown hts hKK hP (c_X3_hasLeaf l D cI cB cS hn h3 ) (cwV2 0 hts kw_353 kw_3 kw_350 kw_351 kw_352 rfl rfl (by decide +kernel) ⟨Nat.le_of_ble_eq_true rfl, Nat.le_of_ble_eq_true rfl⟩) 0 rfl rfl rfl rfl hl.1 rfl (Nat.le_of_ble_eq_true rfl) ⟨Nat.zero_le _, Nat.zero_le _⟩ dX3_digest_90 ?_
        refine lv_if_eq (tgt := 102) hx hb dX3_digest_93 (by decide) (fun c_2 => ?_) (fun c_2 => ?_)
        · have c_2 := b2_z c_2
          refine lv_iconst (v := (0 : Int32)) hx hb dX3_digest_102 (by decide) ?_
          refine lv_istore_n (lv' := [(3, .int (0 : Int32)), (0, .ref (B 0)), (1, .long (cDigS F (I 4) n fd k))]) hx hb dX3_digest_103 rfl hl (by decide) rfl (fun ls hl => ?_)
          have loop_104 : ∀ (z : Nat) (j : Nat) (z1 : Int64) (z3 : Int32), z1 = mixN (F 7) (if 0 < n then cLand F (I 4) n (cDigS F (I 4) n fd n) else cDigS F (I 4) n fd n) j → z3 = nI j → (j ≤ sz) → sz - j < z → ∀ (H : Heap) (locs : List Loc), va_P D vwCl (wsB B cI cS I (va_up F 6 (cDScr F (I 4) n fd k))) H → va_S (FPw (wsB B cI cS I F)) s.heap H locs → ∀ (ls : Array Slot), lv_has ls 5 [(0, .ref (B 0)), (1, .long z1), (3, .int z3)] → W p l e ({ frames := 6, cells := 0, slots := 0, locals := 147 } : Room) s m args below meth c H locs 0 0 (MQ below (QcW D (some (.long (cDigest I F n fd sz))) (wsB B cI cS I F) (wsB B cI cS I (va_up F 6 (cDScr F (I 4) n fd n)))) args s 0 0 (FPw (wsB B cI cS I F))) (F0 m 104 ls []) := by
            intro z
            induction z with
            | zero =>
              intro j z1 z3 ez1 ez3 hj hz
              exact absurd hz (Nat.not_lt_zero _)
            | succ z ih_104 =>
              intro j z1 z3 ez1 ez3 hj hz H locs hP hS ls hl
              subst ez1
              subst ez3
              have hD := va_D_addr (ws := (wsB B cI cS I (va_up F 6 (cDScr F (I 4) n fd k)))) (ws' := (wsB B cI cS I (va_up F 6 (cDScr F (I 4) n fd k)))) rfl hD
              refine lv_iload_n hx hb dX3_digest_104 rfl (lv_at hl 2 rfl) ?_
              refine lv_aload_n hx hb dX3_digest_105 rfl (lv_at hl 0 rfl) ?_
              refine va_get (D := D) (ci := 3) (v := .ref (B 1)) (C := RX3) (T := TX3) (N := 8) hx hb hts inlX3 hown hK hP 0 rfl rfl 0 (by decide) (hts _ kw_15) (fun _ h9 => h9) rfl dX3_digest_106 ?_
              refine va_getN (D := D) (ci := 0) (v := .int (I 2)) (C := RX0) (T := TX0) (N := 2) hx hb hts inlX0 hown hK hP 1 rfl rfl 1 (by decide) (nfF_0 hN) (fun _ h9 => h9) rfl dX3_digest_109 ?_
              refine topE (z := (nI sz)) h2 ?_
              refine lv_icmp_ge (tgt := 135) hx hb dX3_digest_112 (by decide) (fun c_3 => ?_) (fun c_3 => ?_)
              · have nc_3 : sz ≤ j := (nI_leI (a := sz) (b := j) (by omega) (by omega)).mp c_3
                refine lv_iconst (v := (0 : Int32)) hx hb dX3_digest_135 (by decide) ?_
                refine lv_istore_n (lv' := [(3, .int (0 : Int32)), (0, .ref (B 0)), (1, .long (mixN (F 7) (if 0 < n then cLand F (I 4) n (cDigS F (I 4) n fd n) else cDigS F (I 4) n fd n) j))]) hx hb dX3_digest_136 rfl hl (by decide) rfl (fun ls hl => ?_)
                have loop_137 : ∀ (z : Nat) (v : Nat) (u1 : Int64) (u3 : Int32), u1 = mixN (fun w => cCount I (F 8) n (nI w)) (mixN (F 7) (if 0 < n then cLand F (I 4) n (cDigS F (I 4) n fd n) else cDigS F (I 4) n fd n) sz) v → u3 = nI v → (v ≤ 8) → 8 - v < z → ∀ (H : Heap) (locs : List Loc), va_P D vwCl (wsB B cI cS I (va_up F 6 (cDScr F (I 4) n fd k))) H → va_S (FPw (wsB B cI cS I F)) s.heap H locs → ∀ (ls : Array Slot), lv_has ls 5 [(0, .ref (B 0)), (1, .long u1), (3, .int u3)] → W p l e ({ frames := 6, cells := 0, slots := 0, locals := 147 } : Room) s m args below meth c H locs 0 0 (MQ below (QcW D (some (.long (cDigest I F n fd sz))) (wsB B cI cS I F) (wsB B cI cS I (va_up F 6 (cDScr F (I 4) n fd n)))) args s 0 0 (FPw (wsB B cI cS I F))) (F0 m 137 ls []) := by
                  intro z
                  induction z with
                  | zero =>
                    intro v u1 u3 eu1 eu3 hv hz
                    exact absurd hz (Nat.not_lt_zero _)
                  | succ z ih_137 =>
                    intro v u1 u3 eu1 eu3 hv hz H locs hP hS ls hl
                    subst eu1
                    subst eu3
                    have hD := va_D_addr (ws := (wsB B cI cS I (va_up F 6 (cDScr F (I 4) n fd k)))) (ws' := (wsB B cI cS I (va_up F 6 (cDScr F (I 4) n fd k)))) rfl hD
                    refine lv_iload_n hx hb dX3_digest_137 rfl (lv_at hl 2 rfl) ?_
                    refine lv_bipush (v := (7 : Int32)) hx hb dX3_digest_138 (by decide) ?_
                    refine lv_icmp_gt (tgt := 160) hx hb dX3_digest_140 (by decide) (fun c_4 => ?_) (fun c_4 => ?_)
                    · have nc_4 : 7 < v := (nI_ltI (a := 7) (b := v) (by omega) (by omega)).mp c_4
                      refine lv_lload_n hx hb dX3_digest_160 rfl (lv_at hl 1 rfl) ?_
                      exact retWl hx hb hr hlk hP hS dX3_digest_161 (by have hvn : v = 8 := (by omega); subst hvn; rfl) (by have hkn : k = n := (by omega); subst hkn; rfl)
                    · have nc_4 : ¬ 7 < v := fun h => c_4 ((nI_ltI (a := 7) (b := v) (by omega) (by omega)).mpr h)
                      refine lv_lload_n hx hb dX3_digest_143 rfl (lv_at hl 1 rfl) ?_
                      refine lv_aload_n hx hb dX3_digest_144 rfl (lv_at hl 0 rfl) ?_
                      refine lv_iload_n hx hb dX3_digest_145 rfl (lv_at hl 2 rfl) ?_
                      refine rcVi (As := [.int (nI v)]) (rest := [.long (mixN (fun w => cCount I (F 8) n (nI w)) (mixN (F 7) (if 0 < n then cLand F (I 4) n (cDigS F (I 4) n fd n) else cDigS F (I 4) n fd n) sz) v)]) hx hb hml hown hts hKK hP (c_X3_count l D cI cB cS hn h3 (nI v)) (cwV2 1 hts kw_611 kw_3 kw_640 kw_609 kw_610 rfl rfl (by decide +kernel) ⟨Nat.le_of_ble_eq_true rfl, Nat.le_of_ble_eq_true rfl⟩) 0 rfl rfl rfl rfl hl.1 rfl (Nat.le_of_ble_eq_true rfl) ⟨Nat.zero_le _, Nat.zero_le _⟩ dX3_digest_146 ?_
                      refine topE (z := (cCount I (F 8) n (nI v))) rfl ?_
                      refine lv_i2l (v := ((cCount I (F 8) n (nI v)).toInt64)) hx hb dX3_digest_149 rfl ?_
                      refine rcSl (As := [.long (mixN (fun w => cCount I (F 8) n (nI w)) (mixN (F 7) (if 0 < n then cLand F (I 4) n (cDigS F (I 4) n fd n) else cDigS F (I 4) n fd n) sz) v), .long ((cCount I (F 8) n (nI v)).toInt64)]) (rest := []) hx hb hml hown hts hKK hP (c_X3_mixed l D cI cB cS (mixN (fun w => cCount I (F 8) n (nI w)) (mixN (F 7) (if 0 < n then cLand F (I 4) n (cDigS F (I 4) n fd n) else cDigS F (I 4) n fd n) sz) v) ((cCount I (F 8) n (nI v)).toInt64)) (cwS2 2 hts kw_628 kw_3 kw_626 kw_627 rfl rfl (by decide +kernel) ⟨Nat.le_of_ble_eq_true rfl, Nat.le_of_ble_eq_true rfl⟩) rfl hl.1 rfl (Nat.le_of_ble_eq_true rfl) ⟨Nat.zero_le _, Nat.zero_le _⟩ dX3_digest_150 ?_
                      refine topL (z := (mx (mixN (fun w => cCount I (F 8) n (nI w)) (mixN (F 7) (if 0 < n then cLand F (I 4) n (cDigS F (I 4) n fd n) else cDigS F (I 4) n fd n) sz) v) (cCount I (F 8) n (nI v)))) rfl ?_
                      refine lv_lstore_n (lv' := [(1, .long (mx (mixN (fun w => cCount I (F 8) n (nI w)) (mixN (F 7) (if 0 < n then cLand F (I 4) n (cDigS F (I 4) n fd n) else cDigS F (I 4) n fd n) sz) v) (cCount I (F 8) n (nI v)))), (0, .ref (B 0)), (3, .int (nI v))]) hx hb dX3_digest_153 rfl hl (by decide) rfl (fun ls hl => ?_)
                      refine lv_iinc (v := (nI (v + 1))) (lv' := [(3, .int (nI (v + 1))), (1, .long (mx (mixN (fun w => cCount I (F 8) n (nI w)) (mixN (F 7) (if 0 < n then cLand F (I 4) n (cDigS F (I 4) n fd n) else cDigS F (I 4) n fd n) sz) v) (cCount I (F 8) n (nI v)))), (0, .ref (B 0))]) hx hb dX3_digest_154 hl (k := 2) rfl (nI_add v 1) (by decide) rfl (fun ls hl => ?_)
                      refine lv_goto (tgt := 137) hx hb dX3_digest_157 (by decide) ?_
                      have hP9 : va_P D vwCl (wsB B cI cS I (va_up F 6 (cDScr F (I 4) n fd k))) H := by exact hP
                      exact ih_137 (v + 1) (mx (mixN (fun w => cCount I (F 8) n (nI w)) (mixN (F 7) (if 0 < n then cLand F (I 4) n (cDigS F (I 4) n fd n) else cDigS F (I 4) n fd n) sz) v) (cCount I (F 8) n (nI v))) (nI (v + 1)) rfl rfl (by omega) (by omega) H locs hP9 hS ls (lv_sub hl [2, 1, 0] rfl)
                have hP9 : va_P D vwCl (wsB B cI cS I (va_up F 6 (cDScr F (I 4) n fd k))) H := by exact hP
                exact loop_137 ((8 - 0) + 1) 0 (mixN (F 7) (if 0 < n then cLand F (I 4) n (cDigS F (I 4) n fd n) else cDigS F (I 4) n fd n) j) (0 : Int32) (by have hjn : j = sz := (by omega); subst hjn; rfl) rfl (by omega) (by omega) H locs hP9 hS ls (lv_sub hl [1, 2, 0] rfl)
              · have nc_3 : ¬ sz ≤ j := fun h => c_3 ((nI_leI (a := sz) (b := j) (by omega) (by omega)).mpr h)
                refine lv_lload_n hx hb dX3_digest_115 rfl (lv_at hl 1 rfl) ?_
                refine lv_aload_n hx hb dX3_digest_116 rfl (lv_at hl 0 rfl) ?_
                refine va_get (D := D) (ci := 3) (v := .ref (B 1)) (C := RX3) (T := TX3) (N := 8) hx hb hts inlX3 hown hK hP 0 rfl rfl 0 (by decide) (hts _ kw_15) (fun _ h9 => h9) rfl dX3_digest_117 ?_
                refine lv_iload_n hx hb dX3_digest_120 rfl (lv_at hl 2 rfl) ?_
                refine rcVi (As := [.int (nI j)]) (rest := [.long (mixN (F 7) (if 0 < n then cLand F (I 4) n (cDigS F (I 4) n fd n) else cDigS F (I 4) n fd n) j)]) hx hb hml hown hts hKK hP (c_X0_codeAt l D cI cB cS (k := j) (by omega)) (cwV2 1 hts kw_118 kw_14 kw_639 kw_116 kw_117 rfl rfl (by decide +kernel) ⟨Nat.le_of_ble_eq_true rfl, Nat.le_of_ble_eq_true rfl⟩) 1 rfl rfl rfl rfl hl.1 rfl (Nat.le_of_ble_eq_true rfl) ⟨Nat.zero_le _, Nat.zero_le _⟩ dX3_digest_121 ?_
                refine topE (z := ((F 7) j)) rfl ?_
                refine lv_i2l (v := (((F 7) j).toInt64)) hx hb dX3_digest_124 rfl ?_
                refine rcSl (As := [.long (mixN (F 7) (if 0 < n then cLand F (I 4) n (cDigS F (I 4) n fd n) else cDigS F (I 4) n fd n) j), .long (((F 7) j).toInt64)]) (rest := []) hx hb hml hown hts hKK hP (c_X3_mixed l D cI cB cS (mixN (F 7) (if 0 < n then cLand F (I 4) n (cDigS F (I 4) n fd n) else cDigS F (I 4) n fd n) j) (((F 7) j).toInt64)) (cwS2 2 hts kw_628 kw_3 kw_626 kw_627 rfl rfl (by decide +kernel) ⟨Nat.le_of_ble_eq_true rfl, Nat.le_of_ble_eq_true rfl⟩) rfl hl.1 rfl (Nat.le_of_ble_eq_true rfl) ⟨Nat.zero_le _, Nat.zero_le _⟩ dX3_digest_125 ?_
                refine topL (z := (mx (mixN (F 7) (if 0 < n then cLand F (I 4) n (cDigS F (I 4) n fd n) else cDigS F (I 4) n fd n) j) ((F 7) j))) rfl ?_
                refine lv_lstore_n (lv' := [(1, .long (mx (mixN (F 7) (if 0 < n then cLand F (I 4) n (cDigS F (I 4) n fd n) else cDigS F (I 4) n fd n) j) ((F 7) j))), (0, .ref (B 0)), (3, .int (nI j))]) hx hb dX3_digest_128 rfl hl (by decide) rfl (fun ls hl => ?_)
                refine lv_iinc (v := (nI (j + 1))) (lv' := [(3, .int (nI (j + 1))), (1, .long (mx (mixN (F 7) (if 0 < n then cLand F (I 4) n (cDigS F (I 4) n fd n) else cDigS F (I 4) n fd n) j) ((F 7) j))), (0, .ref (B 0))]) hx hb dX3_digest_129 hl (k := 2) rfl (nI_add j 1) (by decide) rfl (fun ls hl => ?_)
                refine lv_goto (tgt := 104) hx hb dX3_digest_132 (by decide) ?_
                have hP9 : va_P D vwCl (wsB B cI cS I (va_up F 6 (cDScr F (I 4) n fd k))) H := by exact hP
                exact ih_104 (j + 1) (mx (mixN (F 7) (if 0 < n then cLand F (I 4) n (cDigS F (I 4) n fd n) else cDigS F (I 4) n fd n) j) ((F 7) j)) (nI (j + 1)) rfl rfl (by omega) (by omega) H locs hP9 hS ls (lv_sub hl [2, 1, 0] rfl)
          have hP9 : va_P D vwCl (wsB B cI cS I (va_up F 6 (cDScr F (I 4) n fd k))) H := by exact hP
          exact loop_104 ((sz - 0) + 1) 0 (cDigS F (I 4) n fd k) (0 : Int32) (by have hkn : k = n := (by omega); subst hkn; grind [mixN]) rfl (by omega) (by omega) H locs hP9 hS ls (lv_sub hl [1, 2, 0] rfl)
        · have c_2 := b2_nz c_2
          refine lv_aload_n hx hb dX3_digest_96 rfl (lv_at hl 0 rfl) ?_
          refine lv_lload_n hx hb dX3_digest_97 rfl (lv_at hl 1 rfl) ?_
          refine rcVl (As := [.long (cDigS F (I 4) n fd k)]) (rest := []) hx hb hml hown hts hKK hP (c_X3_withLand l D cI cB cS hn h3 (cDigS F (I 4) n fd k)) (cwV2 1 hts kw_634 kw_3 kw_631 kw_632 kw_633 rfl rfl (by decide +kernel) ⟨Nat.le_of_ble_eq_true rfl, Nat.le_of_ble_eq_true rfl⟩) 0 rfl rfl rfl rfl hl.1 rfl (Nat.le_of_ble_eq_true rfl) ⟨Nat.zero_le _, Nat.zero_le _⟩ dX3_digest_98 ?_
          refine topL (z := (cLand F (I 4) n (cDigS F (I 4) n fd k))) rfl ?_
          refine lv_lstore_n (lv' := [(1, .long (cLand F (I 4) n (cDigS F (I 4) n fd k))), (0, .ref (B 0)), (3, .int (nI k))]) hx hb dX3_digest_101 rfl hl (by decide) rfl (fun ls hl => ?_)
          refine lv_iconst (v := (0 : Int32)) hx hb dX3_digest_102 (by decide) ?_
          refine lv_istore_n (lv' := [(3, .int (0 : Int32)), (1, .long (cLand F (I 4) n (cDigS F (I 4) n fd k))), (0, .ref (B 0))]) hx hb dX3_digest_103 rfl hl (by decide) rfl (fun ls hl => ?_)
          have loop_104 : ∀ (z : Nat) (j : Nat) (z1 : Int64) (z3 : Int32), z1 = mixN (F 7) (if 0 < n then cLand F (I 4) n (cDigS F (I 4) n fd n) else cDigS F (I 4) n fd n) j → z3 = nI j → (j ≤ sz) → sz - j < z → ∀ (H : Heap) (locs : List Loc), va_P D vwCl (wsB B cI cS I (va_up F 6 (cDScr F (I 4) n fd k))) H → va_S (FPw (wsB B cI cS I F)) s.heap H locs → ∀ (ls : Array Slot), lv_has ls 5 [(0, .ref (B 0)), (1, .long z1), (3, .int z3)] → W p l e ({ frames := 6, cells := 0, slots := 0, locals := 147 } : Room) s m args below meth c H locs 0 0 (MQ below (QcW D (some (.long (cDigest I F n fd sz))) (wsB B cI cS I F) (wsB B cI cS I (va_up F 6 (cDScr F (I 4) n fd n)))) args s 0 0 (FPw (wsB B cI cS I F))) (F0 m 104 ls []) := by
            intro z
            induction z with
            | zero =>
              intro j z1 z3 ez1 ez3 hj hz
              exact absurd hz (Nat.not_lt_zero _)
            | succ z ih_104 =>
              intro j z1 z3 ez1 ez3 hj hz H locs hP hS ls hl
              subst ez1
              subst ez3
              have hD := va_D_addr (ws := (wsB B cI cS I (va_up F 6 (cDScr F (I 4) n fd k)))) (ws' := (wsB B cI cS I (va_up F 6 (cDScr F (I 4) n fd k)))) rfl hD
              refine lv_iload_n hx hb dX3_digest_104 rfl (lv_at hl 2 rfl) ?_
              refine lv_aload_n hx hb dX3_digest_105 rfl (lv_at hl 0 rfl) ?_
              refine va_get (D := D) (ci := 3) (v := .ref (B 1)) (C := RX3) (T := TX3) (N := 8) hx hb hts inlX3 hown hK hP 0 rfl rfl 0 (by decide) (hts _ kw_15) (fun _ h9 => h9) rfl dX3_digest_106 ?_
              refine va_getN (D := D) (ci := 0) (v := .int (I 2)) (C := RX0) (T := TX0) (N := 2) hx hb hts inlX0 hown hK hP 1 rfl rfl 1 (by decide) (nfF_0 hN) (fun _ h9 => h9) rfl dX3_digest_109 ?_
              refine topE (z := (nI sz)) h2 ?_
              refine lv_icmp_ge (tgt := 135) hx hb dX3_digest_112 (by decide) (fun c_5 => ?_) (fun c_5 => ?_)
              · have nc_5 : sz ≤ j := (nI_leI (a := sz) (b := j) (by omega) (by omega)).mp c_5
                refine lv_iconst (v := (0 : Int32)) hx hb dX3_digest_135 (by decide) ?_
                refine lv_istore_n (lv' := [(3, .int (0 : Int32)), (0, .ref (B 0)), (1, .long (mixN (F 7) (if 0 < n then cLand F (I 4) n (cDigS F (I 4) n fd n) else cDigS F (I 4) n fd n) j))]) hx hb dX3_digest_136 rfl hl (by decide) rfl (fun ls hl => ?_)
                have loop_137 : ∀ (z : Nat) (v : Nat) (u1 : Int64) (u3 : Int32), u1 = mixN (fun w => cCount I (F 8) n (nI w)) (mixN (F 7) (if 0 < n then cLand F (I 4) n (cDigS F (I 4) n fd n) else cDigS F (I 4) n fd n) sz) v → u3 = nI v → (v ≤ 8) → 8 - v < z → ∀ (H : Heap) (locs : List Loc), va_P D vwCl (wsB B cI cS I (va_up F 6 (cDScr F (I 4) n fd k))) H → va_S (FPw (wsB B cI cS I F)) s.heap H locs → ∀ (ls : Array Slot), lv_has ls 5 [(0, .ref (B 0)), (1, .long u1), (3, .int u3)] → W p l e ({ frames := 6, cells := 0, slots := 0, locals := 147 } : Room) s m args below meth c H locs 0 0 (MQ below (QcW D (some (.long (cDigest I F n fd sz))) (wsB B cI cS I F) (wsB B cI cS I (va_up F 6 (cDScr F (I 4) n fd n)))) args s 0 0 (FPw (wsB B cI cS I F))) (F0 m 137 ls []) := by
                  intro z
                  induction z with
                  | zero =>
                    intro v u1 u3 eu1 eu3 hv hz
                    exact absurd hz (Nat.not_lt_zero _)
                  | succ z ih_137 =>
                    intro v u1 u3 eu1 eu3 hv hz H locs hP hS ls hl
                    subst eu1
                    subst eu3
                    have hD := va_D_addr (ws := (wsB B cI cS I (va_up F 6 (cDScr F (I 4) n fd k)))) (ws' := (wsB B cI cS I (va_up F 6 (cDScr F (I 4) n fd k)))) rfl hD
                    refine lv_iload_n hx hb dX3_digest_137 rfl (lv_at hl 2 rfl) ?_
                    refine lv_bipush (v := (7 : Int32)) hx hb dX3_digest_138 (by decide) ?_
                    refine lv_icmp_gt (tgt := 160) hx hb dX3_digest_140 (by decide) (fun c_6 => ?_) (fun c_6 => ?_)
                    · have nc_6 : 7 < v := (nI_ltI (a := 7) (b := v) (by omega) (by omega)).mp c_6
                      refine lv_lload_n hx hb dX3_digest_160 rfl (lv_at hl 1 rfl) ?_
                      exact retWl hx hb hr hlk hP hS dX3_digest_161 (by have hvn : v = 8 := (by omega); subst hvn; rfl) (by have hkn : k = n := (by omega); subst hkn; rfl)
                    · have nc_6 : ¬ 7 < v := fun h => c_6 ((nI_ltI (a := 7) (b := v) (by omega) (by omega)).mpr h)
                      refine lv_lload_n hx hb dX3_digest_143 rfl (lv_at hl 1 rfl) ?_
                      refine lv_aload_n hx hb dX3_digest_144 rfl (lv_at hl 0 rfl) ?_
                      refine lv_iload_n hx hb dX3_digest_145 rfl (lv_at hl 2 rfl) ?_
                      refine rcVi (As := [.int (nI v)]) (rest := [.long (mixN (fun w => cCount I (F 8) n (nI w)) (mixN (F 7) (if 0 < n then cLand F (I 4) n (cDigS F (I 4) n fd n) else cDigS F (I 4) n fd n) sz) v)]) hx hb hml hown hts hKK hP (c_X3_count l D cI cB cS hn h3 (nI v)) (cwV2 1 hts kw_611 kw_3 kw_640 kw_609 kw_610 rfl rfl (by decide +kernel) ⟨Nat.le_of_ble_eq_true rfl, Nat.le_of_ble_eq_true rfl⟩) 0 rfl rfl rfl rfl hl.1 rfl (Nat.le_of_ble_eq_true rfl) ⟨Nat.zero_le _, Nat.zero_le _⟩ dX3_digest_146 ?_
                      refine topE (z := (cCount I (F 8) n (nI v))) rfl ?_
                      refine lv_i2l (v := ((cCount I (F 8) n (nI v)).toInt64)) hx hb dX3_digest_149 rfl ?_
                      refine rcSl (As := [.long (mixN (fun w => cCount I (F 8) n (nI w)) (mixN (F 7) (if 0 < n then cLand F (I 4) n (cDigS F (I 4) n fd n) else cDigS F (I 4) n fd n) sz) v), .long ((cCount I (F 8) n (nI v)).toInt64)]) (rest := []) hx hb hml hown hts hKK hP (c_X3_mixed l D cI cB cS (mixN (fun w => cCount I (F 8) n (nI w)) (mixN (F 7) (if 0 < n then cLand F (I 4) n (cDigS F (I 4) n fd n) else cDigS F (I 4) n fd n) sz) v) ((cCount I (F 8) n (nI v)).toInt64)) (cwS2 2 hts kw_628 kw_3 kw_626 kw_627 rfl rfl (by decide +kernel) ⟨Nat.le_of_ble_eq_true rfl, Nat.le_of_ble_eq_true rfl⟩) rfl hl.1 rfl (Nat.le_of_ble_eq_true rfl) ⟨Nat.zero_le _, Nat.zero_le _⟩ dX3_digest_150 ?_
                      refine topL (z := (mx (mixN (fun w => cCount I (F 8) n (nI w)) (mixN (F 7) (if 0 < n then cLand F (I 4) n (cDigS F (I 4) n fd n) else cDigS F (I 4) n fd n) sz) v) (cCount I (F 8) n (nI v)))) rfl ?_
                      refine lv_lstore_n (lv' := [(1, .long (mx (mixN (fun w => cCount I (F 8) n (nI w)) (mixN (F 7) (if 0 < n then cLand F (I 4) n (cDigS F (I 4) n fd n) else cDigS F (I 4) n fd n) sz) v) (cCount I (F 8) n (nI v)))), (0, .ref (B 0)), (3, .int (nI v))]) hx hb dX3_digest_153 rfl hl (by decide) rfl (fun ls hl => ?_)
                      refine lv_iinc (v := (nI (v + 1))) (lv' := [(3, .int (nI (v + 1))), (1, .long (mx (mixN (fun w => cCount I (F 8) n (nI w)) (mixN (F 7) (if 0 < n then cLand F (I 4) n (cDigS F (I 4) n fd n) else cDigS F (I 4) n fd n) sz) v) (cCount I (F 8) n (nI v)))), (0, .ref (B 0))]) hx hb dX3_digest_154 hl (k := 2) rfl (nI_add v 1) (by decide) rfl (fun ls hl => ?_)
                      refine lv_goto (tgt := 137) hx hb dX3_digest_157 (by decide) ?_
                      have hP9 : va_P D vwCl (wsB B cI cS I (va_up F 6 (cDScr F (I 4) n fd k))) H := by exact hP
                      exact ih_137 (v + 1) (mx (mixN (fun w => cCount I (F 8) n (nI w)) (mixN (F 7) (if 0 < n then cLand F (I 4) n (cDigS F (I 4) n fd n) else cDigS F (I 4) n fd n) sz) v) (cCount I (F 8) n (nI v))) (nI (v + 1)) rfl rfl (by omega) (by omega) H locs hP9 hS ls (lv_sub hl [2, 1, 0] rfl)
                have hP9 : va_P D vwCl (wsB B cI cS I (va_up F 6 (cDScr F (I 4) n fd k))) H := by exact hP
                exact loop_137 ((8 - 0) + 1) 0 (mixN (F 7) (if 0 < n then cLand F (I 4) n (cDigS F (I 4) n fd n) else cDigS F (I 4) n fd n) j) (0 : Int32) (by have hjn : j = sz := (by omega); subst hjn; rfl) rfl (by omega) (by omega) H locs hP9 hS ls (lv_sub hl [1, 2, 0] rfl)
              · have nc_5 : ¬ sz ≤ j := fun h => c_5 ((nI_leI (a := sz) (b := j) (by omega) (by omega)).mpr h)
                refine lv_lload_n hx hb dX3_digest_115 rfl (lv_at hl 1 rfl) ?_
                refine lv_aload_n hx hb dX3_digest_116 rfl (lv_at hl 0 rfl) ?_
                refine va_get (D := D) (ci := 3) (v := .ref (B 1)) (C := RX3) (T := TX3) (N := 8) hx hb hts inlX3 hown hK hP 0 rfl rfl 0 (by decide) (hts _ kw_15) (fun _ h9 => h9) rfl dX3_digest_117 ?_
                refine lv_iload_n hx hb dX3_digest_120 rfl (lv_at hl 2 rfl) ?_
                refine rcVi (As := [.int (nI j)]) (rest := [.long (mixN (F 7) (if 0 < n then cLand F (I 4) n (cDigS F (I 4) n fd n) else cDigS F (I 4) n fd n) j)]) hx hb hml hown hts hKK hP (c_X0_codeAt l D cI cB cS (k := j) (by omega)) (cwV2 1 hts kw_118 kw_14 kw_639 kw_116 kw_117 rfl rfl (by decide +kernel) ⟨Nat.le_of_ble_eq_true rfl, Nat.le_of_ble_eq_true rfl⟩) 1 rfl rfl rfl rfl hl.1 rfl (Nat.le_of_ble_eq_true rfl) ⟨Nat.zero_le _, Nat.zero_le _⟩ dX3_digest_121 ?_
                refine topE (z := ((F 7) j)) rfl ?_
                refine lv_i2l (v := (((F 7) j).toInt64)) hx hb dX3_digest_124 rfl ?_
                refine rcSl (As := [.long (mixN (F 7) (if 0 < n then cLand F (I 4) n (cDigS F (I 4) n fd n) else cDigS F (I 4) n fd n) j), .long (((F 7) j).toInt64)]) (rest := []) hx hb hml hown hts hKK hP (c_X3_mixed l D cI cB cS (mixN (F 7) (if 0 < n then cLand F (I 4) n (cDigS F (I 4) n fd n) else cDigS F (I 4) n fd n) j) (((F 7) j).toInt64)) (cwS2 2 hts kw_628 kw_3 kw_626 kw_627 rfl rfl (by decide +kernel) ⟨Nat.le_of_ble_eq_true rfl, Nat.le_of_ble_eq_true rfl⟩) rfl hl.1 rfl (Nat.le_of_ble_eq_true rfl) ⟨Nat.zero_le _, Nat.zero_le _⟩ dX3_digest_125 ?_
                refine topL (z := (mx (mixN (F 7) (if 0 < n then cLand F (I 4) n (cDigS F (I 4) n fd n) else cDigS F (I 4) n fd n) j) ((F 7) j))) rfl ?_
                refine lv_lstore_n (lv' := [(1, .long (mx (mixN (F 7) (if 0 < n then cLand F (I 4) n (cDigS F (I 4) n fd n) else cDigS F (I 4) n fd n) j) ((F 7) j))), (0, .ref (B 0)), (3, .int (nI j))]) hx hb dX3_digest_128 rfl hl (by decide) rfl (fun ls hl => ?_)
                refine lv_iinc (v := (nI (j + 1))) (lv' := [(3, .int (nI (j + 1))), (1, .long (mx (mixN (F 7) (if 0 < n then cLand F (I 4) n (cDigS F (I 4) n fd n) else cDigS F (I 4) n fd n) j) ((F 7) j))), (0, .ref (B 0))]) hx hb dX3_digest_129 hl (k := 2) rfl (nI_add j 1) (by decide) rfl (fun ls hl => ?_)
                refine lv_goto (tgt := 104) hx hb dX3_digest_132 (by decide) ?_
                have hP9 : va_P D vwCl (wsB B cI cS I (va_up F 6 (cDScr F (I 4) n fd k))) H := by exact hP
                exact ih_104 (j + 1) (mx (mixN (F 7) (if 0 < n then cLand F (I 4) n (cDigS F (I 4) n fd n) else cDigS F (I 4) n fd n) j) ((F 7) j)) (nI (j + 1)) rfl rfl (by omega) (by omega) H locs hP9 hS ls (lv_sub hl [2, 1, 0] rfl)
          have hP9 : va_P D vwCl (wsB B cI cS I (va_up F 6 (cDScr F (I 4) n fd k))) H := by exact hP
          exact loop_104 ((sz - 0) + 1) 0 (cLand F (I 4) n (cDigS F (I 4) n fd k)) (0 : Int32) (by have hkn : k = n := (by omega); subst hkn; grind [mixN]) rfl (by omega) (by omega) H locs hP9 hS ls (lv_sub hl [2, 1, 0] rfl)
      · have nc_1 : ¬ n ≤ k := fun h => c_1 ((nI_leI (a := n) (b := k) (by omega) (by omega)).mpr h)
        refine lv_iconst (v := (0 : Int32)) hx hb dX3_digest_17 (by decide) ?_
        refine lv_istore (lv' := [(4, .int (0 : Int32)), (0, .ref (B 0)), (1, .long (cDigS F (I 4) n fd k)), (3, .int (nI k))]) hx hb dX3_digest_18 hl (by decide) rfl (fun ls hl => ?_)
        have loop_20 : ∀ (z : Nat) (q : Nat) (y1 : Int64) (y4 : Int32), y1 = mixN (fun w => cAbout F (I 4) n fd (nI k) (nI w)) (cDigS F (I 4) n fd k) q → y4 = nI q → (q ≤ 6) → 6 - q < z → ∀ (H : Heap) (locs : List Loc), va_P D vwCl (wsB B cI cS I (va_up F 6 (cDScr F (I 4) n fd k))) H → va_S (FPw (wsB B cI cS I F)) s.heap H locs → ∀ (ls : Array Slot), lv_has ls 5 [(0, .ref (B 0)), (1, .long y1), (3, .int (nI k)), (4, .int y4)] → W p l e ({ frames := 6, cells := 0, slots := 0, locals := 147 } : Room) s m args below meth c H locs 0 0 (MQ below (QcW D (some (.long (cDigest I F n fd sz))) (wsB B cI cS I F) (wsB B cI cS I (va_up F 6 (cDScr F (I 4) n fd n)))) args s 0 0 (FPw (wsB B cI cS I F))) (F0 m 20 ls []) := by
          intro z
          induction z with
          | zero =>
            intro q y1 y4 ey1 ey4 hq hz
            exact absurd hz (Nat.not_lt_zero _)
          | succ z ih_20 =>
            intro q y1 y4 ey1 ey4 hq hz H locs hP hS ls hl
            subst ey1
            subst ey4
            have hD := va_D_addr (ws := (wsB B cI cS I (va_up F 6 (cDScr F (I 4) n fd k)))) (ws' := (wsB B cI cS I (va_up F 6 (cDScr F (I 4) n fd k)))) rfl hD
            refine lv_iload hx hb dX3_digest_20 (lv_at hl 3 rfl) ?_
            refine lv_iconst (v := (5 : Int32)) hx hb dX3_digest_22 (by decide) ?_
            refine lv_icmp_gt (tgt := 45) hx hb dX3_digest_23 (by decide) (fun c_7 => ?_) (fun c_7 => ?_)
            · have nc_7 : 5 < q := (nI_ltI (a := 5) (b := q) (by omega) (by omega)).mp c_7
              have hq6 : q = 6 := by omega
              subst hq6
              refine lv_lload_n hx hb dX3_digest_45 rfl (lv_at hl 1 rfl) ?_
              refine lv_aload_n hx hb dX3_digest_46 rfl (lv_at hl 0 rfl) ?_
              refine lv_iload_n hx hb dX3_digest_47 rfl (lv_at hl 2 rfl) ?_
              refine lv_iconst (v := (3 : Int32)) hx hb dX3_digest_48 (by decide) ?_
              refine rcVi (As := [.int (nI k), .int (3 : Int32)]) (rest := [.long (mixN (fun w => cAbout F (I 4) n fd (nI k) (nI w)) (cDigS F (I 4) n fd k) 6)]) hx hb hml hown hts hKK hP (c_X3_wet l D cI cB cS hn h3 (nI k) (3 : Int32)) (cwV2 2 hts kw_373 kw_3 kw_464 kw_371 kw_372 rfl rfl (by decide +kernel) ⟨Nat.le_of_ble_eq_true rfl, Nat.le_of_ble_eq_true rfl⟩) 0 rfl rfl rfl rfl hl.1 rfl (Nat.le_of_ble_eq_true rfl) ⟨Nat.zero_le _, Nat.zero_le _⟩ dX3_digest_49 ?_
              refine topE (z := (cWetS F (I 4) n (nI k) (3 : Int32))) rfl ?_
              refine lv_i2l (v := ((cWetS F (I 4) n (nI k) (3 : Int32)).toInt64)) hx hb dX3_digest_52 rfl ?_
              refine rcSl (As := [.long (mixN (fun w => cAbout F (I 4) n fd (nI k) (nI w)) (cDigS F (I 4) n fd k) 6), .long ((cWetS F (I 4) n (nI k) (3 : Int32)).toInt64)]) (rest := []) hx hb hml hown hts hKK hP (c_X3_mixed l D cI cB cS (mixN (fun w => cAbout F (I 4) n fd (nI k) (nI w)) (cDigS F (I 4) n fd k) 6) ((cWetS F (I 4) n (nI k) (3 : Int32)).toInt64)) (cwS2 2 hts kw_628 kw_3 kw_626 kw_627 rfl rfl (by decide +kernel) ⟨Nat.le_of_ble_eq_true rfl, Nat.le_of_ble_eq_true rfl⟩) rfl hl.1 rfl (Nat.le_of_ble_eq_true rfl) ⟨Nat.zero_le _, Nat.zero_le _⟩ dX3_digest_53 ?_
              refine topL (z := (mx (mixN (fun w => cAbout F (I 4) n fd (nI k) (nI w)) (cDigS F (I 4) n fd k) 6) (cWetS F (I 4) n (nI k) (3 : Int32)))) rfl ?_
              refine lv_lstore_n (lv' := [(1, .long (mx (mixN (fun w => cAbout F (I 4) n fd (nI k) (nI w)) (cDigS F (I 4) n fd k) 6) (cWetS F (I 4) n (nI k) (3 : Int32)))), (0, .ref (B 0)), (3, .int (nI k)), (4, .int (nI 6))]) hx hb dX3_digest_56 rfl hl (by decide) rfl (fun ls hl => ?_)
              refine lv_lload_n hx hb dX3_digest_57 rfl (lv_at hl 0 rfl) ?_
              refine lv_aload_n hx hb dX3_digest_58 rfl (lv_at hl 1 rfl) ?_
              refine lv_iload_n hx hb dX3_digest_59 rfl (lv_at hl 2 rfl) ?_
              refine lv_bipush (v := (9 : Int32)) hx hb dX3_digest_60 (by decide) ?_
              refine rcVi (As := [.int (nI k), .int (9 : Int32)]) (rest := [.long (mx (mixN (fun w => cAbout F (I 4) n fd (nI k) (nI w)) (cDigS F (I 4) n fd k) 6) (cWetS F (I 4) n (nI k) (3 : Int32)))]) hx hb hml hown hts hKK hP (c_X3_wet l D cI cB cS hn h3 (nI k) (9 : Int32)) (cwV2 2 hts kw_373 kw_3 kw_464 kw_371 kw_372 rfl rfl (by decide +kernel) ⟨Nat.le_of_ble_eq_true rfl, Nat.le_of_ble_eq_true rfl⟩) 0 rfl rfl rfl rfl hl.1 rfl (Nat.le_of_ble_eq_true rfl) ⟨Nat.zero_le _, Nat.zero_le _⟩ dX3_digest_62 ?_
              refine topE (z := (cWetS F (I 4) n (nI k) (9 : Int32))) rfl ?_
              refine lv_i2l (v := ((cWetS F (I 4) n (nI k) (9 : Int32)).toInt64)) hx hb dX3_digest_65 rfl ?_
              refine rcSl (As := [.long (mx (mixN (fun w => cAbout F (I 4) n fd (nI k) (nI w)) (cDigS F (I 4) n fd k) 6) (cWetS F (I 4) n (nI k) (3 : Int32))), .long ((cWetS F (I 4) n (nI k) (9 : Int32)).toInt64)]) (rest := []) hx hb hml hown hts hKK hP (c_X3_mixed l D cI cB cS (mx (mixN (fun w => cAbout F (I 4) n fd (nI k) (nI w)) (cDigS F (I 4) n fd k) 6) (cWetS F (I 4) n (nI k) (3 : Int32))) ((cWetS F (I 4) n (nI k) (9 : Int32)).toInt64)) (cwS2 2 hts kw_628 kw_3 kw_626 kw_627 rfl rfl (by decide +kernel) ⟨Nat.le_of_ble_eq_true rfl, Nat.le_of_ble_eq_true rfl⟩) rfl hl.1 rfl (Nat.le_of_ble_eq_true rfl) ⟨Nat.zero_le _, Nat.zero_le _⟩ dX3_digest_66 ?_
              refine topL (z := (mx (mx (mixN (fun w => cAbout F (I 4) n fd (nI k) (nI w)) (cDigS F (I 4) n fd k) 6) (cWetS F (I 4) n (nI k) (3 : Int32))) (cWetS F (I 4) n (nI k) (9 : Int32)))) rfl ?_
              refine lv_lstore_n (lv' := [(1, .long (mx (mx (mixN (fun w => cAbout F (I 4) n fd (nI k) (nI w)) (cDigS F (I 4) n fd k) 6) (cWetS F (I 4) n (nI k) (3 : Int32))) (cWetS F (I 4) n (nI k) (9 : Int32)))), (0, .ref (B 0)), (3, .int (nI k)), (4, .int (nI 6))]) hx hb dX3_digest_69 rfl hl (by decide) rfl (fun ls hl => ?_)
              refine lv_lload_n hx hb dX3_digest_70 rfl (lv_at hl 0 rfl) ?_
              refine lv_aload_n hx hb dX3_digest_71 rfl (lv_at hl 1 rfl) ?_
              refine lv_iload_n hx hb dX3_digest_72 rfl (lv_at hl 2 rfl) ?_
              refine lv_bipush (v := (6 : Int32)) hx hb dX3_digest_73 (by decide) ?_
              refine wcVi (As := [.int (nI k), .int (6 : Int32)]) (rest := [.long (mx (mx (mixN (fun w => cAbout F (I 4) n fd (nI k) (nI w)) (cDigS F (I 4) n fd k) 6) (cWetS F (I 4) n (nI k) (3 : Int32))) (cWetS F (I 4) n (nI k) (9 : Int32)))]) hx hb hml hown hts hKK hP hD hS (c_X3_look l D cI cB cS hn h3 hfd h6 (nI k) (6 : Int32)) (cwV2 2 hts kw_510 kw_3 kw_630 kw_508 kw_509 rfl rfl (by decide +kernel) ⟨Nat.le_of_ble_eq_true rfl, Nat.le_of_ble_eq_true rfl⟩) 0 rfl rfl rfl rfl hl.1 rfl (Nat.le_of_ble_eq_true rfl) ⟨Nat.zero_le _, Nat.zero_le _⟩ dX3_digest_75 (fun H locs hP hS => ?_)
              have hP : va_P D vwCl (wsB B cI cS I (va_up F 6 (cLookF F (I 4) n fd (nI k) (6 : Int32) (cDScr F (I 4) n fd k)))) H := hP
              have hD : va_D (FPw (wsB B cI cS I F)) (wsB B cI cS I (va_up F 6 (cLookF F (I 4) n fd (nI k) (6 : Int32) (cDScr F (I 4) n fd k)))) := va_D_addr (ws := (wsB B cI cS I (va_up F 6 (cDScr F (I 4) n fd k)))) rfl hD
              refine topE (z := (cLook F (I 4) n fd (nI k) (6 : Int32))) rfl ?_
              refine lv_i2l (v := ((cLook F (I 4) n fd (nI k) (6 : Int32)).toInt64)) hx hb dX3_digest_78 rfl ?_
              refine rcSl (As := [.long (mx (mx (mixN (fun w => cAbout F (I 4) n fd (nI k) (nI w)) (cDigS F (I 4) n fd k) 6) (cWetS F (I 4) n (nI k) (3 : Int32))) (cWetS F (I 4) n (nI k) (9 : Int32))), .long ((cLook F (I 4) n fd (nI k) (6 : Int32)).toInt64)]) (rest := []) hx hb hml hown hts hKK hP (c_X3_mixed l D cI cB cS (mx (mx (mixN (fun w => cAbout F (I 4) n fd (nI k) (nI w)) (cDigS F (I 4) n fd k) 6) (cWetS F (I 4) n (nI k) (3 : Int32))) (cWetS F (I 4) n (nI k) (9 : Int32))) ((cLook F (I 4) n fd (nI k) (6 : Int32)).toInt64)) (cwS2 2 hts kw_628 kw_3 kw_626 kw_627 rfl rfl (by decide +kernel) ⟨Nat.le_of_ble_eq_true rfl, Nat.le_of_ble_eq_true rfl⟩) rfl hl.1 rfl (Nat.le_of_ble_eq_true rfl) ⟨Nat.zero_le _, Nat.zero_le _⟩ dX3_digest_79 ?_
              refine topL (z := (mx (mx (mx (mixN (fun w => cAbout F (I 4) n fd (nI k) (nI w)) (cDigS F (I 4) n fd k) 6) (cWetS F (I 4) n (nI k) (3 : Int32))) (cWetS F (I 4) n (nI k) (9 : Int32))) (cLook F (I 4) n fd (nI k) (6 : Int32)))) rfl ?_
              refine lv_lstore_n (lv' := [(1, .long (mx (mx (mx (mixN (fun w => cAbout F (I 4) n fd (nI k) (nI w)) (cDigS F (I 4) n fd k) 6) (cWetS F (I 4) n (nI k) (3 : Int32))) (cWetS F (I 4) n (nI k) (9 : Int32))) (cLook F (I 4) n fd (nI k) (6 : Int32)))), (0, .ref (B 0)), (3, .int (nI k)), (4, .int (nI 6))]) hx hb dX3_digest_82 rfl hl (by decide) rfl (fun ls hl => ?_)
              refine lv_iinc (v := (nI (k + 1))) (lv' := [(3, .int (nI (k + 1))), (1, .long (mx (mx (mx (mixN (fun w => cAbout F (I 4) n fd (nI k) (nI w)) (cDigS F (I 4) n fd k) 6) (cWetS F (I 4) n (nI k) (3 : Int32))) (cWetS F (I 4) n (nI k) (9 : Int32))) (cLook F (I 4) n fd (nI k) (6 : Int32)))), (0, .ref (B 0)), (4, .int (nI 6))]) hx hb dX3_digest_83 hl (k := 2) rfl (nI_add k 1) (by decide) rfl (fun ls hl => ?_)
              refine lv_goto (tgt := 6) hx hb dX3_digest_86 (by decide) ?_
              have hP9 : va_P D vwCl (wsB B cI cS I (va_up F 6 (cDScr F (I 4) n fd (k + 1)))) H := by exact hP
              exact ih_6 (k + 1) (mx (mx (mx (mixN (fun w => cAbout F (I 4) n fd (nI k) (nI w)) (cDigS F (I 4) n fd k) 6) (cWetS F (I 4) n (nI k) (3 : Int32))) (cWetS F (I 4) n (nI k) (9 : Int32))) (cLook F (I 4) n fd (nI k) (6 : Int32))) (nI (k + 1)) rfl rfl (by omega) (by omega) H locs hP9 hS ls (lv_sub hl [2, 1, 0] rfl)
            · have nc_7 : ¬ 5 < q := fun h => c_7 ((nI_ltI (a := 5) (b := q) (by omega) (by omega)).mpr h)
              refine lv_lload_n hx hb dX3_digest_26 rfl (lv_at hl 1 rfl) ?_
              refine lv_aload_n hx hb dX3_digest_27 rfl (lv_at hl 0 rfl) ?_
              refine lv_iload_n hx hb dX3_digest_28 rfl (lv_at hl 2 rfl) ?_
              refine lv_iload hx hb dX3_digest_29 (lv_at hl 3 rfl) ?_
              refine rcVi (As := [.int (nI k), .int (nI q)]) (rest := [.long (mixN (fun w => cAbout F (I 4) n fd (nI k) (nI w)) (cDigS F (I 4) n fd k) q)]) hx hb hml hown hts hKK hP (c_X3_about l D cI cB cS hn h3 hfd h6 (nI k) (nI q)) (cwV2 2 hts kw_262 kw_3 kw_625 kw_260 kw_261 rfl rfl (by decide +kernel) ⟨Nat.le_of_ble_eq_true rfl, Nat.le_of_ble_eq_true rfl⟩) 0 rfl rfl rfl rfl hl.1 rfl (Nat.le_of_ble_eq_true rfl) ⟨Nat.zero_le _, Nat.zero_le _⟩ dX3_digest_31 ?_
              refine topE (z := (cAbout F (I 4) n fd (nI k) (nI q))) rfl ?_
              refine lv_i2l (v := ((cAbout F (I 4) n fd (nI k) (nI q)).toInt64)) hx hb dX3_digest_34 rfl ?_
              refine rcSl (As := [.long (mixN (fun w => cAbout F (I 4) n fd (nI k) (nI w)) (cDigS F (I 4) n fd k) q), .long ((cAbout F (I 4) n fd (nI k) (nI q)).toInt64)]) (rest := []) hx hb hml hown hts hKK hP (c_X3_mixed l D cI cB cS (mixN (fun w => cAbout F (I 4) n fd (nI k) (nI w)) (cDigS F (I 4) n fd k) q) ((cAbout F (I 4) n fd (nI k) (nI q)).toInt64)) (cwS2 2 hts kw_628 kw_3 kw_626 kw_627 rfl rfl (by decide +kernel) ⟨Nat.le_of_ble_eq_true rfl, Nat.le_of_ble_eq_true rfl⟩) rfl hl.1 rfl (Nat.le_of_ble_eq_true rfl) ⟨Nat.zero_le _, Nat.zero_le _⟩ dX3_digest_35 ?_
              refine topL (z := (mx (mixN (fun w => cAbout F (I 4) n fd (nI k) (nI w)) (cDigS F (I 4) n fd k) q) (cAbout F (I 4) n fd (nI k) (nI q)))) rfl ?_
              refine lv_lstore_n (lv' := [(1, .long (mx (mixN (fun w => cAbout F (I 4) n fd (nI k) (nI w)) (cDigS F (I 4) n fd k) q) (cAbout F (I 4) n fd (nI k) (nI q)))), (0, .ref (B 0)), (3, .int (nI k)), (4, .int (nI q))]) hx hb dX3_digest_38 rfl hl (by decide) rfl (fun ls hl => ?_)
              refine lv_iinc (v := (nI (q + 1))) (lv' := [(4, .int (nI (q + 1))), (1, .long (mx (mixN (fun w => cAbout F (I 4) n fd (nI k) (nI w)) (cDigS F (I 4) n fd k) q) (cAbout F (I 4) n fd (nI k) (nI q)))), (0, .ref (B 0)), (3, .int (nI k))]) hx hb dX3_digest_39 hl (k := 3) rfl (nI_add q 1) (by decide) rfl (fun ls hl => ?_)
              refine lv_goto (tgt := 20) hx hb dX3_digest_42 (by decide) ?_
              have hP9 : va_P D vwCl (wsB B cI cS I (va_up F 6 (cDScr F (I 4) n fd k))) H := by exact hP
              exact ih_20 (q + 1) (mx (mixN (fun w => cAbout F (I 4) n fd (nI k) (nI w)) (cDigS F (I 4) n fd k) q) (cAbout F (I 4) n fd (nI k) (nI q))) (nI (q + 1)) rfl rfl (by omega) (by omega) H locs hP9 hS ls (lv_sub hl [2, 1, 3, 0] rfl)
        have hP9 : va_P D vwCl (wsB B cI cS I (va_up F 6 (cDScr F (I 4) n fd k))) H := by exact hP
        exact loop_20 ((6 - 0) + 1) 0 (cDigS F (I 4) n fd k) (0 : Int32) rfl rfl (by omega) (by omega) H locs hP9 hS ls (lv_sub hl [1, 2, 3, 0] rfl)
  have hP9 : va_P D vwCl (wsB B cI cS I (va_up F 6 (cDScr F (I 4) n fd 0))) s.heap := by exact hP
  exact loop_6 ((n - 0) + 1) 0 (1049 : Int64) (0 : Int32) rfl rfl (by omega) (by omega) s.heap [] hP9 hS ls (lv_sub hl [2, 1, 0] rfl)
end
