/-! the class's public rows that write, and what they make of rows and seeds -/
def cSd (x : Int32) : Int32 := (((1103515245 : Int64) * x.toInt64 + (12345 : Int64)) - ((1103515245 : Int64) * x.toInt64 + (12345 : Int64)) / (2147483648 : Int64) * (2147483648 : Int64)).toInt32
def cSeeds (x : Int32) : Nat → Int32
  | 0 => x
  | k + 1 => cSd (cSeeds x k)
def cMin (x : Int32) : Int32 := x / (65536 : Int32) - x / (65536 : Int32) / (21 : Int32) * (21 : Int32)
def cYRow (F : Nat → Nat → Int32) (sd : Int32) (n : Nat) (r0 : Nat → Int32) (x : Int32) : Nat → Nat → Int32
  | 0 => r0
  | k + 1 => rowN (cPress F sd n (cMin (cSeeds x (k + 1))) (cYRow F sd n r0 x k)) (cYRow F sd n r0 x k) 10
abbrev okY (p0 p1 p2 : Int32) : Prop := ¬ p0 < 1 ∧ ¬ (60 : Int32) < p0 ∧ ¬ p1 < 0 ∧ ¬ p2 < 0 ∧ ¬ (2 : Int32) < p2
theorem yrs_nat {x : Int32} (h1 : ¬ x < 1) (h2 : ¬ (60 : Int32) < x) : ∃ m : Nat, m ≤ 60 ∧ x = nI m := by
  rcases pk_ix x (n := 61) (by decide) with h | h | ⟨j, hj, h⟩
  · exact absurd (Int32.lt_trans h (by decide)) h1
  · exact absurd (Int32.lt_of_lt_of_le (by decide : (60 : Int32) < 61) h) h2
  · exact ⟨j, by omega, h⟩
/-- what years answers, of a row and the seed at last -/
def cYears (n : Nat) (row : Nat → Int32) (sd1 p0 p1 p2 : Int32) : Int32 :=
  if okY p0 p1 p2 then (if 0 < n then (if p2 = 0 then sumN row 10 else if p2 = 1 then dryN row 10 else sd1) else -103) else -102
def cFew (w : Nat → Int32) : Nat → Int32
  | 0 => 10
  | j + 1 => if ¬ cFew w j ≤ w j then w j else cFew w j
def cBest (w : Nat → Int32) : Nat → Int32
  | 0 => -1
  | j + 1 => if ¬ cFew w j ≤ w j then nI j else cBest w j
abbrev cLkW (F : Nat → Nat → Int32) (sd : Int32) (n : Nat) (p0 p1 presses : Int32) : Nat → Int32 := fun j => cWorst (cByP F sd n (nI j) p1 p0) presses 9
def cScr (F : Nat → Nat → Int32) (sd : Int32) (n : Nat) (p0 p1 : Int32) (f6 : Nat → Int32) : Nat → Nat → Int32
  | 0 => f6
  | j + 1 => rowF (cByP F sd n (nI j) p1 p0) (cScr F sd n p0 p1 f6 j) 1 10
def cLook (F : Nat → Nat → Int32) (sd : Int32) (n fd : Nat) (p0 p1 : Int32) : Int32 :=
  if okS n p0 then (if okMin p1 then (if cHeavy F sd n fd p0 = 0 then -1 else cBest (cLkW F sd n p0 p1 (cHeavy F sd n fd p0)) 10) else -102) else -101
def cLookF (F : Nat → Nat → Int32) (sd : Int32) (n fd : Nat) (p0 p1 : Int32) (f6 : Nat → Int32) : Nat → Int32 :=
  if okS n p0 ∧ okMin p1 ∧ ¬ cHeavy F sd n fd p0 = 0 then cScr F sd n p0 p1 f6 10 else f6
theorem wsB_6 {B : Nat → Nat} {cI cS : ClassId} {I : Nat → Int32} {F : Nat → Nat → Int32} {f : Nat → Int32} (h : f = F 6) : wsB B cI cS I F = wsB B cI cS I (va_up F 6 f) := by
  subst h; rfl
def cFound (n fd : Nat) (p0 p1 p2 : Int32) : Int32 :=
  if 0 < n ∧ okCell p0 then (if okMin p1 ∧ okMuch p2 then (if fd < 6 then nI (fd + 1) else -104) else -102) else -101
def cCount (I : Nat → Int32) (f8 : Nat → Int32) (n : Nat) (p0 : Int32) : Int32 :=
  if p0 = 0 then nI n else if p0 = 1 then jbc (I 4) else if p0 = 2 then I 5 else if p0 = 3 then sumN f8 10 else if p0 = 4 then (if 0 < n then dryN f8 10 else 0)
  else if p0 = 5 then I 6 else if p0 = 6 then I 2 else if p0 = 7 then I 1 else -102
def mx (h : Int64) (v : Int32) : Int64 := (31 : Int64) * h + v.toInt64
def mixN (f : Nat → Int32) (h : Int64) : Nat → Int64
  | 0 => h
  | i + 1 => mx (mixN f h i) (f i)
def mix2 (f g : Nat → Int32) (h : Int64) : Nat → Int64
  | 0 => h
  | i + 1 => mx (mx (mix2 f g h i) (f i)) (g i)
def cLand (F : Nat → Nat → Int32) (sd : Int32) (n : Nat) (h : Int64) : Int64 :=
  mx (mx (mx (mix2 (fun c => cInk (F 8) n (nI c)) (fun c => cComesS F sd n (nI c) 4) h 10) (cHills (F 8) n 5)) (cToSand F sd n 4 1023 0)) (cToSand F sd n 4 1023 1)
def cDigS (F : Nat → Nat → Int32) (sd : Int32) (n fd : Nat) : Nat → Int64
  | 0 => 1049
  | k + 1 => mx (mx (mx (mixN (fun w => cAbout F sd n fd (nI k) (nI w)) (cDigS F sd n fd k) 6) (cWetS F sd n (nI k) 3)) (cWetS F sd n (nI k) 9)) (cLook F sd n fd (nI k) 6)
def cDScr (F : Nat → Nat → Int32) (sd : Int32) (n fd : Nat) : Nat → Nat → Int32
  | 0 => F 6
  | k + 1 => cLookF F sd n fd (nI k) 6 (cDScr F sd n fd k)
def cDigest (I : Nat → Int32) (F : Nat → Nat → Int32) (n fd sz : Nat) : Int64 :=
  mixN (fun w => cCount I (F 8) n (nI w)) (mixN (F 7) (if 0 < n then cLand F (I 4) n (cDigS F (I 4) n fd n) else cDigS F (I 4) n fd n) sz) 8
set_option maxHeartbeats 1000000 in
set_option maxRecDepth 100000 in
theorem c_J6_bitCount_0f7a4 (l : Launch) (D : va_G) (cI cB cS : ClassId) {ws : va_W} (p0 : Int32) : Met l yJ6_bitCount_0f7a4 (Wm yJ6_bitCount_0f7a4 cJ6_bitCount_0f7a4 1 (some .int)) ({ frames := 0, cells := 0, slots := 0, locals := 0 }) (va_Pc [.int p0] (PR D (TYS cI cB cS) ws)) (QcV (some (.int (jbc p0)))) 0 0 (fun _ => False) := by
  refine metR (by decide) [.int p0] (Nat.le_of_ble_eq_true rfl) ?_
  intro p e s m args below meth c hx hb hml hr hlk hown hts hKK hP ls hl
  obtain ⟨hK, hN⟩ := id hKK
  have hl : lv_has ls 1 [(0, .int p0)] := hl
  refine lv_iload_n hx hb dJ6_bitCount_0f7a4_0 rfl (lv_at hl 0 rfl) ?_
  refine lv_iload_n hx hb dJ6_bitCount_0f7a4_1 rfl (lv_at hl 0 rfl) ?_
  refine lv_iconst (v := (1 : Int32)) hx hb dJ6_bitCount_0f7a4_2 (by decide) ?_
  refine lv_iushr (v := ((p0).toUInt32 >>> ((1 : Int32).toUInt32 &&& Int32.toUInt32 31)).toInt32) hx hb dJ6_bitCount_0f7a4_3 rfl ?_
  refine lv_ldcw (v := (1431655765 : Int32)) hx hb hown (hts _ kw_469) dJ6_bitCount_0f7a4_4 ?_
  refine lv_iand hx hb dJ6_bitCount_0f7a4_7 ?_
  refine lv_isub hx hb dJ6_bitCount_0f7a4_8 ?_
  refine lv_istore_n (lv' := [(0, .int (p0 - (((p0).toUInt32 >>> ((1 : Int32).toUInt32 &&& Int32.toUInt32 31)).toInt32 &&& (1431655765 : Int32))))]) hx hb dJ6_bitCount_0f7a4_9 rfl hl (by decide) rfl (fun ls hl => ?_)
  refine lv_iload_n hx hb dJ6_bitCount_0f7a4_10 rfl (lv_at hl 0 rfl) ?_
  refine lv_ldcw (v := (858993459 : Int32)) hx hb hown (hts _ kw_470) dJ6_bitCount_0f7a4_11 ?_
  refine lv_iand hx hb dJ6_bitCount_0f7a4_14 ?_
  refine lv_iload_n hx hb dJ6_bitCount_0f7a4_15 rfl (lv_at hl 0 rfl) ?_
  refine lv_iconst (v := (2 : Int32)) hx hb dJ6_bitCount_0f7a4_16 (by decide) ?_
  refine lv_iushr (v := ((p0 - (((p0).toUInt32 >>> ((1 : Int32).toUInt32 &&& Int32.toUInt32 31)).toInt32 &&& (1431655765 : Int32))).toUInt32 >>> ((2 : Int32).toUInt32 &&& Int32.toUInt32 31)).toInt32) hx hb dJ6_bitCount_0f7a4_17 rfl ?_
  refine lv_ldcw (v := (858993459 : Int32)) hx hb hown (hts _ kw_470) dJ6_bitCount_0f7a4_18 ?_
  refine lv_iand hx hb dJ6_bitCount_0f7a4_21 ?_
  refine lv_iadd hx hb dJ6_bitCount_0f7a4_22 ?_
  refine lv_istore_n (lv' := [(0, .int (((p0 - (((p0).toUInt32 >>> ((1 : Int32).toUInt32 &&& Int32.toUInt32 31)).toInt32 &&& (1431655765 : Int32))) &&& (858993459 : Int32)) + (((p0 - (((p0).toUInt32 >>> ((1 : Int32).toUInt32 &&& Int32.toUInt32 31)).toInt32 &&& (1431655765 : Int32))).toUInt32 >>> ((2 : Int32).toUInt32 &&& Int32.toUInt32 31)).toInt32 &&& (858993459 : Int32))))]) hx hb dJ6_bitCount_0f7a4_23 rfl hl (by decide) rfl (fun ls hl => ?_)
  refine lv_iload_n hx hb dJ6_bitCount_0f7a4_24 rfl (lv_at hl 0 rfl) ?_
  refine lv_iload_n hx hb dJ6_bitCount_0f7a4_25 rfl (lv_at hl 0 rfl) ?_
  refine lv_iconst (v := (4 : Int32)) hx hb dJ6_bitCount_0f7a4_26 (by decide) ?_
  refine lv_iushr (v := ((((p0 - (((p0).toUInt32 >>> ((1 : Int32).toUInt32 &&& Int32.toUInt32 31)).toInt32 &&& (1431655765 : Int32))) &&& (858993459 : Int32)) + (((p0 - (((p0).toUInt32 >>> ((1 : Int32).toUInt32 &&& Int32.toUInt32 31)).toInt32 &&& (1431655765 : Int32))).toUInt32 >>> ((2 : Int32).toUInt32 &&& Int32.toUInt32 31)).toInt32 &&& (858993459 : Int32))).toUInt32 >>> ((4 : Int32).toUInt32 &&& Int32.toUInt32 31)).toInt32) hx hb dJ6_bitCount_0f7a4_27 rfl ?_
  refine lv_iadd hx hb dJ6_bitCount_0f7a4_28 ?_
  refine lv_ldcw (v := (252645135 : Int32)) hx hb hown (hts _ kw_471) dJ6_bitCount_0f7a4_29 ?_
  refine lv_iand hx hb dJ6_bitCount_0f7a4_32 ?_
  refine lv_istore_n (lv' := [(0, .int (((((p0 - (((p0).toUInt32 >>> ((1 : Int32).toUInt32 &&& Int32.toUInt32 31)).toInt32 &&& (1431655765 : Int32))) &&& (858993459 : Int32)) + (((p0 - (((p0).toUInt32 >>> ((1 : Int32).toUInt32 &&& Int32.toUInt32 31)).toInt32 &&& (1431655765 : Int32))).toUInt32 >>> ((2 : Int32).toUInt32 &&& Int32.toUInt32 31)).toInt32 &&& (858993459 : Int32))) + ((((p0 - (((p0).toUInt32 >>> ((1 : Int32).toUInt32 &&& Int32.toUInt32 31)).toInt32 &&& (1431655765 : Int32))) &&& (858993459 : Int32)) + (((p0 - (((p0).toUInt32 >>> ((1 : Int32).toUInt32 &&& Int32.toUInt32 31)).toInt32 &&& (1431655765 : Int32))).toUInt32 >>> ((2 : Int32).toUInt32 &&& Int32.toUInt32 31)).toInt32 &&& (858993459 : Int32))).toUInt32 >>> ((4 : Int32).toUInt32 &&& Int32.toUInt32 31)).toInt32) &&& (252645135 : Int32)))]) hx hb dJ6_bitCount_0f7a4_33 rfl hl (by decide) rfl (fun ls hl => ?_)
  refine lv_iload_n hx hb dJ6_bitCount_0f7a4_34 rfl (lv_at hl 0 rfl) ?_
  refine lv_iload_n hx hb dJ6_bitCount_0f7a4_35 rfl (lv_at hl 0 rfl) ?_
  refine lv_bipush (v := (8 : Int32)) hx hb dJ6_bitCount_0f7a4_36 (by decide) ?_
  refine lv_iushr (v := ((((((p0 - (((p0).toUInt32 >>> ((1 : Int32).toUInt32 &&& Int32.toUInt32 31)).toInt32 &&& (1431655765 : Int32))) &&& (858993459 : Int32)) + (((p0 - (((p0).toUInt32 >>> ((1 : Int32).toUInt32 &&& Int32.toUInt32 31)).toInt32 &&& (1431655765 : Int32))).toUInt32 >>> ((2 : Int32).toUInt32 &&& Int32.toUInt32 31)).toInt32 &&& (858993459 : Int32))) + ((((p0 - (((p0).toUInt32 >>> ((1 : Int32).toUInt32 &&& Int32.toUInt32 31)).toInt32 &&& (1431655765 : Int32))) &&& (858993459 : Int32)) + (((p0 - (((p0).toUInt32 >>> ((1 : Int32).toUInt32 &&& Int32.toUInt32 31)).toInt32 &&& (1431655765 : Int32))).toUInt32 >>> ((2 : Int32).toUInt32 &&& Int32.toUInt32 31)).toInt32 &&& (858993459 : Int32))).toUInt32 >>> ((4 : Int32).toUInt32 &&& Int32.toUInt32 31)).toInt32) &&& (252645135 : Int32)).toUInt32 >>> ((8 : Int32).toUInt32 &&& Int32.toUInt32 31)).toInt32) hx hb dJ6_bitCount_0f7a4_38 rfl ?_
  refine lv_iadd hx hb dJ6_bitCount_0f7a4_39 ?_
  refine lv_istore_n (lv' := [(0, .int ((((((p0 - (((p0).toUInt32 >>> ((1 : Int32).toUInt32 &&& Int32.toUInt32 31)).toInt32 &&& (1431655765 : Int32))) &&& (858993459 : Int32)) + (((p0 - (((p0).toUInt32 >>> ((1 : Int32).toUInt32 &&& Int32.toUInt32 31)).toInt32 &&& (1431655765 : Int32))).toUInt32 >>> ((2 : Int32).toUInt32 &&& Int32.toUInt32 31)).toInt32 &&& (858993459 : Int32))) + ((((p0 - (((p0).toUInt32 >>> ((1 : Int32).toUInt32 &&& Int32.toUInt32 31)).toInt32 &&& (1431655765 : Int32))) &&& (858993459 : Int32)) + (((p0 - (((p0).toUInt32 >>> ((1 : Int32).toUInt32 &&& Int32.toUInt32 31)).toInt32 &&& (1431655765 : Int32))).toUInt32 >>> ((2 : Int32).toUInt32 &&& Int32.toUInt32 31)).toInt32 &&& (858993459 : Int32))).toUInt32 >>> ((4 : Int32).toUInt32 &&& Int32.toUInt32 31)).toInt32) &&& (252645135 : Int32)) + ((((((p0 - (((p0).toUInt32 >>> ((1 : Int32).toUInt32 &&& Int32.toUInt32 31)).toInt32 &&& (1431655765 : Int32))) &&& (858993459 : Int32)) + (((p0 - (((p0).toUInt32 >>> ((1 : Int32).toUInt32 &&& Int32.toUInt32 31)).toInt32 &&& (1431655765 : Int32))).toUInt32 >>> ((2 : Int32).toUInt32 &&& Int32.toUInt32 31)).toInt32 &&& (858993459 : Int32))) + ((((p0 - (((p0).toUInt32 >>> ((1 : Int32).toUInt32 &&& Int32.toUInt32 31)).toInt32 &&& (1431655765 : Int32))) &&& (858993459 : Int32)) + (((p0 - (((p0).toUInt32 >>> ((1 : Int32).toUInt32 &&& Int32.toUInt32 31)).toInt32 &&& (1431655765 : Int32))).toUInt32 >>> ((2 : Int32).toUInt32 &&& Int32.toUInt32 31)).toInt32 &&& (858993459 : Int32))).toUInt32 >>> ((4 : Int32).toUInt32 &&& Int32.toUInt32 31)).toInt32) &&& (252645135 : Int32)).toUInt32 >>> ((8 : Int32).toUInt32 &&& Int32.toUInt32 31)).toInt32))]) hx hb dJ6_bitCount_0f7a4_40 rfl hl (by decide) rfl (fun ls hl => ?_)
  refine lv_iload_n hx hb dJ6_bitCount_0f7a4_41 rfl (lv_at hl 0 rfl) ?_
  refine lv_iload_n hx hb dJ6_bitCount_0f7a4_42 rfl (lv_at hl 0 rfl) ?_
  refine lv_bipush (v := (16 : Int32)) hx hb dJ6_bitCount_0f7a4_43 (by decide) ?_
  refine lv_iushr (v := (((((((p0 - (((p0).toUInt32 >>> ((1 : Int32).toUInt32 &&& Int32.toUInt32 31)).toInt32 &&& (1431655765 : Int32))) &&& (858993459 : Int32)) + (((p0 - (((p0).toUInt32 >>> ((1 : Int32).toUInt32 &&& Int32.toUInt32 31)).toInt32 &&& (1431655765 : Int32))).toUInt32 >>> ((2 : Int32).toUInt32 &&& Int32.toUInt32 31)).toInt32 &&& (858993459 : Int32))) + ((((p0 - (((p0).toUInt32 >>> ((1 : Int32).toUInt32 &&& Int32.toUInt32 31)).toInt32 &&& (1431655765 : Int32))) &&& (858993459 : Int32)) + (((p0 - (((p0).toUInt32 >>> ((1 : Int32).toUInt32 &&& Int32.toUInt32 31)).toInt32 &&& (1431655765 : Int32))).toUInt32 >>> ((2 : Int32).toUInt32 &&& Int32.toUInt32 31)).toInt32 &&& (858993459 : Int32))).toUInt32 >>> ((4 : Int32).toUInt32 &&& Int32.toUInt32 31)).toInt32) &&& (252645135 : Int32)) + ((((((p0 - (((p0).toUInt32 >>> ((1 : Int32).toUInt32 &&& Int32.toUInt32 31)).toInt32 &&& (1431655765 : Int32))) &&& (858993459 : Int32)) + (((p0 - (((p0).toUInt32 >>> ((1 : Int32).toUInt32 &&& Int32.toUInt32 31)).toInt32 &&& (1431655765 : Int32))).toUInt32 >>> ((2 : Int32).toUInt32 &&& Int32.toUInt32 31)).toInt32 &&& (858993459 : Int32))) + ((((p0 - (((p0).toUInt32 >>> ((1 : Int32).toUInt32 &&& Int32.toUInt32 31)).toInt32 &&& (1431655765 : Int32))) &&& (858993459 : Int32)) + (((p0 - (((p0).toUInt32 >>> ((1 : Int32).toUInt32 &&& Int32.toUInt32 31)).toInt32 &&& (1431655765 : Int32))).toUInt32 >>> ((2 : Int32).toUInt32 &&& Int32.toUInt32 31)).toInt32 &&& (858993459 : Int32))).toUInt32 >>> ((4 : Int32).toUInt32 &&& Int32.toUInt32 31)).toInt32) &&& (252645135 : Int32)).toUInt32 >>> ((8 : Int32).toUInt32 &&& Int32.toUInt32 31)).toInt32).toUInt32 >>> ((16 : Int32).toUInt32 &&& Int32.toUInt32 31)).toInt32) hx hb dJ6_bitCount_0f7a4_45 rfl ?_
  refine lv_iadd hx hb dJ6_bitCount_0f7a4_46 ?_
  refine lv_istore_n (lv' := [(0, .int (((((((p0 - (((p0).toUInt32 >>> ((1 : Int32).toUInt32 &&& Int32.toUInt32 31)).toInt32 &&& (1431655765 : Int32))) &&& (858993459 : Int32)) + (((p0 - (((p0).toUInt32 >>> ((1 : Int32).toUInt32 &&& Int32.toUInt32 31)).toInt32 &&& (1431655765 : Int32))).toUInt32 >>> ((2 : Int32).toUInt32 &&& Int32.toUInt32 31)).toInt32 &&& (858993459 : Int32))) + ((((p0 - (((p0).toUInt32 >>> ((1 : Int32).toUInt32 &&& Int32.toUInt32 31)).toInt32 &&& (1431655765 : Int32))) &&& (858993459 : Int32)) + (((p0 - (((p0).toUInt32 >>> ((1 : Int32).toUInt32 &&& Int32.toUInt32 31)).toInt32 &&& (1431655765 : Int32))).toUInt32 >>> ((2 : Int32).toUInt32 &&& Int32.toUInt32 31)).toInt32 &&& (858993459 : Int32))).toUInt32 >>> ((4 : Int32).toUInt32 &&& Int32.toUInt32 31)).toInt32) &&& (252645135 : Int32)) + ((((((p0 - (((p0).toUInt32 >>> ((1 : Int32).toUInt32 &&& Int32.toUInt32 31)).toInt32 &&& (1431655765 : Int32))) &&& (858993459 : Int32)) + (((p0 - (((p0).toUInt32 >>> ((1 : Int32).toUInt32 &&& Int32.toUInt32 31)).toInt32 &&& (1431655765 : Int32))).toUInt32 >>> ((2 : Int32).toUInt32 &&& Int32.toUInt32 31)).toInt32 &&& (858993459 : Int32))) + ((((p0 - (((p0).toUInt32 >>> ((1 : Int32).toUInt32 &&& Int32.toUInt32 31)).toInt32 &&& (1431655765 : Int32))) &&& (858993459 : Int32)) + (((p0 - (((p0).toUInt32 >>> ((1 : Int32).toUInt32 &&& Int32.toUInt32 31)).toInt32 &&& (1431655765 : Int32))).toUInt32 >>> ((2 : Int32).toUInt32 &&& Int32.toUInt32 31)).toInt32 &&& (858993459 : Int32))).toUInt32 >>> ((4 : Int32).toUInt32 &&& Int32.toUInt32 31)).toInt32) &&& (252645135 : Int32)).toUInt32 >>> ((8 : Int32).toUInt32 &&& Int32.toUInt32 31)).toInt32) + (((((((p0 - (((p0).toUInt32 >>> ((1 : Int32).toUInt32 &&& Int32.toUInt32 31)).toInt32 &&& (1431655765 : Int32))) &&& (858993459 : Int32)) + (((p0 - (((p0).toUInt32 >>> ((1 : Int32).toUInt32 &&& Int32.toUInt32 31)).toInt32 &&& (1431655765 : Int32))).toUInt32 >>> ((2 : Int32).toUInt32 &&& Int32.toUInt32 31)).toInt32 &&& (858993459 : Int32))) + ((((p0 - (((p0).toUInt32 >>> ((1 : Int32).toUInt32 &&& Int32.toUInt32 31)).toInt32 &&& (1431655765 : Int32))) &&& (858993459 : Int32)) + (((p0 - (((p0).toUInt32 >>> ((1 : Int32).toUInt32 &&& Int32.toUInt32 31)).toInt32 &&& (1431655765 : Int32))).toUInt32 >>> ((2 : Int32).toUInt32 &&& Int32.toUInt32 31)).toInt32 &&& (858993459 : Int32))).toUInt32 >>> ((4 : Int32).toUInt32 &&& Int32.toUInt32 31)).toInt32) &&& (252645135 : Int32)) + ((((((p0 - (((p0).toUInt32 >>> ((1 : Int32).toUInt32 &&& Int32.toUInt32 31)).toInt32 &&& (1431655765 : Int32))) &&& (858993459 : Int32)) + (((p0 - (((p0).toUInt32 >>> ((1 : Int32).toUInt32 &&& Int32.toUInt32 31)).toInt32 &&& (1431655765 : Int32))).toUInt32 >>> ((2 : Int32).toUInt32 &&& Int32.toUInt32 31)).toInt32 &&& (858993459 : Int32))) + ((((p0 - (((p0).toUInt32 >>> ((1 : Int32).toUInt32 &&& Int32.toUInt32 31)).toInt32 &&& (1431655765 : Int32))) &&& (858993459 : Int32)) + (((p0 - (((p0).toUInt32 >>> ((1 : Int32).toUInt32 &&& Int32.toUInt32 31)).toInt32 &&& (1431655765 : Int32))).toUInt32 >>> ((2 : Int32).toUInt32 &&& Int32.toUInt32 31)).toInt32 &&& (858993459 : Int32))).toUInt32 >>> ((4 : Int32).toUInt32 &&& Int32.toUInt32 31)).toInt32) &&& (252645135 : Int32)).toUInt32 >>> ((8 : Int32).toUInt32 &&& Int32.toUInt32 31)).toInt32).toUInt32 >>> ((16 : Int32).toUInt32 &&& Int32.toUInt32 31)).toInt32))]) hx hb dJ6_bitCount_0f7a4_47 rfl hl (by decide) rfl (fun ls hl => ?_)
  refine lv_iload_n hx hb dJ6_bitCount_0f7a4_48 rfl (lv_at hl 0 rfl) ?_
  refine lv_bipush (v := (63 : Int32)) hx hb dJ6_bitCount_0f7a4_49 (by decide) ?_
  refine lv_iand hx hb dJ6_bitCount_0f7a4_51 ?_
  exact retRi hx hb hr hlk dJ6_bitCount_0f7a4_52 rfl
set_option maxHeartbeats 1000000 in
set_option maxRecDepth 100000 in
theorem c_X3_toSand (l : Launch) (D : va_G) (cI cB cS : ClassId) {B : Nat → Nat} {I : Nat → Int32} {F : Nat → Nat → Int32} {n : Nat} (hn : n ≤ 6) (h3 : I 3 = nI n) (p0 p1 p2 : Int32) : Met l yX3_toSand (Wm yX3_toSand cX3_toSand 6 (some .int)) ({ frames := 4, cells := 0, slots := 0, locals := 92 }) (va_Pc [.ref (B 0), .int p0, .int p1, .int p2] (PR D (TYS cI cB cS) (wsB B cI cS I F))) (QcV (some (.int (cToSand F (I 4) n p0 p1 p2)))) 0 0 (fun _ => False) := by
  refine metR (by decide) [.ref (B 0), .int p0, .int p1, .int p2] (Nat.le_of_ble_eq_true rfl) ?_
  intro p e s m args below meth c hx hb hml hr hlk hown hts hKK hP ls hl
  obtain ⟨hK, hN⟩ := id hKK
  have hl : lv_has ls 6 [(0, .ref (B 0)), (1, .int p0), (2, .int p1), (3, .int p2)] := hl
  refine lv_iload_n hx hb dX3_toSand_0 rfl (lv_at hl 1 rfl) ?_
  refine rcSi (As := [.int p0]) (rest := []) hx hb hml hown hts hKK hP (c_X3_isMinute l D cI cB cS p0) (cwS2 1 hts kw_376 kw_3 kw_374 kw_375 rfl rfl (by decide +kernel) ⟨Nat.le_of_ble_eq_true rfl, Nat.le_of_ble_eq_true rfl⟩) rfl hl.1 rfl (Nat.le_of_ble_eq_true rfl) ⟨Nat.zero_le _, Nat.zero_le _⟩ dX3_toSand_1 ?_
  refine lv_if_eq (tgt := 27) hx hb dX3_toSand_4 (by decide) (fun c_1 => ?_) (fun c_1 => ?_)
  · have c_1 := b2_z c_1
    refine lv_bipush (v := (-102 : Int32)) hx hb dX3_toSand_27 (by decide) ?_
    exact retRi hx hb hr hlk dX3_toSand_29 (by grind [cToSand])
  · have c_1 := b2_nz c_1
    refine lv_iload_n hx hb dX3_toSand_7 rfl (lv_at hl 2 rfl) ?_
    refine lv_if_lt (tgt := 27) hx hb dX3_toSand_8 (by decide) (fun c_2 => ?_) (fun c_2 => ?_)
    · refine lv_bipush (v := (-102 : Int32)) hx hb dX3_toSand_27 (by decide) ?_
      exact retRi hx hb hr hlk dX3_toSand_29 (by grind [cToSand])
    · refine lv_iload_n hx hb dX3_toSand_11 rfl (lv_at hl 2 rfl) ?_
      refine lv_sipush (v := (1023 : Int32)) hx hb dX3_toSand_12 (by decide) ?_
      refine lv_icmp_gt (tgt := 27) hx hb dX3_toSand_15 (by decide) (fun c_3 => ?_) (fun c_3 => ?_)
      · refine lv_bipush (v := (-102 : Int32)) hx hb dX3_toSand_27 (by decide) ?_
        exact retRi hx hb hr hlk dX3_toSand_29 (by grind [cToSand])
      · refine lv_iload_n hx hb dX3_toSand_18 rfl (lv_at hl 3 rfl) ?_
        refine lv_if_lt (tgt := 27) hx hb dX3_toSand_19 (by decide) (fun c_4 => ?_) (fun c_4 => ?_)
        · refine lv_bipush (v := (-102 : Int32)) hx hb dX3_toSand_27 (by decide) ?_
          exact retRi hx hb hr hlk dX3_toSand_29 (by grind [cToSand])
        · refine lv_iload_n hx hb dX3_toSand_22 rfl (lv_at hl 3 rfl) ?_
          refine lv_iconst (v := (1 : Int32)) hx hb dX3_toSand_23 (by decide) ?_
          refine lv_icmp_le (tgt := 30) hx hb dX3_toSand_24 (by decide) (fun c_5 => ?_) (fun c_5 => ?_)
          · refine lv_aload_n hx hb dX3_toSand_30 rfl (lv_at hl 0 rfl) ?_
            refine rcVi (As := []) (rest := []) hx hb hml hown hts hKK hP (c_X3_hasLeaf l D cI cB cS hn h3 ) (cwV2 0 hts kw_353 kw_3 kw_350 kw_351 kw_352 rfl rfl (by decide +kernel) ⟨Nat.le_of_ble_eq_true rfl, Nat.le_of_ble_eq_true rfl⟩) 0 rfl rfl rfl rfl hl.1 rfl (Nat.le_of_ble_eq_true rfl) ⟨Nat.zero_le _, Nat.zero_le _⟩ dX3_toSand_31 ?_
            refine lv_if_ne (tgt := 40) hx hb dX3_toSand_34 (by decide) (fun c_6 => ?_) (fun c_6 => ?_)
            · have c_6 := b2_nz c_6
              refine lv_iconst (v := (0 : Int32)) hx hb dX3_toSand_40 (by decide) ?_
              refine lv_istore (lv' := [(4, .int (0 : Int32)), (0, .ref (B 0)), (1, .int p0), (2, .int p1), (3, .int p2)]) hx hb dX3_toSand_41 hl (by decide) rfl (fun ls hl => ?_)
              refine lv_iconst (v := (0 : Int32)) hx hb dX3_toSand_43 (by decide) ?_
              refine lv_istore (lv' := [(5, .int (0 : Int32)), (4, .int (0 : Int32)), (0, .ref (B 0)), (1, .int p0), (2, .int p1), (3, .int p2)]) hx hb dX3_toSand_44 hl (by decide) rfl (fun ls hl => ?_)
              have loop_46 : ∀ (z : Nat) (k : Nat) (x4 : Int32) (x5 : Int32), x4 = maskN (cReach F (I 4) n p0 p1) k → x5 = nI k → (k ≤ n) → n - k < z → ∀ (ls : Array Slot), lv_has ls 6 [(0, .ref (B 0)), (1, .int p0), (2, .int p1), (3, .int p2), (4, .int x4), (5, .int x5)] → W p l e ({ frames := 4, cells := 0, slots := 0, locals := 92 } : Room) s m args below meth c s.heap [] 0 0 (MQ below (QcV (some (.int (cToSand F (I 4) n p0 p1 p2)))) args s 0 0 (fun _ => False)) (F0 m 46 ls []) := by
                intro z
                induction z with
                | zero =>
                  intro k x4 x5 ex4 ex5 hk hz
                  exact absurd hz (Nat.not_lt_zero _)
                | succ z ih_46 =>
                  intro k x4 x5 ex4 ex5 hk hz ls hl
                  subst ex4
                  subst ex5
                  refine lv_iload hx hb dX3_toSand_46 (lv_at hl 5 rfl) ?_
                  refine lv_aload_n hx hb dX3_toSand_48 rfl (lv_at hl 0 rfl) ?_
                  refine va_get (D := D) (ci := 3) (v := .ref (B 3)) (C := RX3) (T := TX3) (N := 8) hx hb hts inlX3 hown hK hP 0 rfl rfl 2 (by decide) (hts _ kw_21) (fun _ h9 => h9) rfl dX3_toSand_49 ?_
                  refine va_getN (D := D) (ci := 1) (v := .int (I 3)) (C := RX1) (T := TX1) (N := 8) hx hb hts inlX1 hown hK hP 3 rfl rfl 0 (by decide) (nfF_1 hN) (fun _ h9 => h9) rfl dX3_toSand_52 ?_
                  refine topE (z := (nI n)) h3 ?_
                  refine lv_icmp_ge (tgt := 84) hx hb dX3_toSand_55 (by decide) (fun c_7 => ?_) (fun c_7 => ?_)
                  · have nc_7 : n ≤ k := (nI_leI (a := n) (b := k) (by omega) (by omega)).mp c_7
                    refine lv_iload_n hx hb dX3_toSand_84 rfl (lv_at hl 3 rfl) ?_
                    refine lv_if_ne (tgt := 96) hx hb dX3_toSand_85 (by decide) (fun c_8 => ?_) (fun c_8 => ?_)
                    · refine lv_iload hx hb dX3_toSand_96 (lv_at hl 4 rfl) ?_
                      exact retRi hx hb hr hlk dX3_toSand_98 (by have hkn : k = n := (by omega); subst hkn; grind [cToSand])
                    · refine lv_iload hx hb dX3_toSand_88 (lv_at hl 4 rfl) ?_
                      refine rcSi (As := [.int (maskN (cReach F (I 4) n p0 p1) k)]) (rest := []) hx hb hml hown hts hKK hP (c_J6_bitCount_0f7a4 l D cI cB cS (maskN (cReach F (I 4) n p0 p1) k)) (cwS2 1 hts kw_468 kw_467 kw_465 kw_466 rfl rfl (by decide +kernel) ⟨Nat.le_of_ble_eq_true rfl, Nat.le_of_ble_eq_true rfl⟩) rfl hl.1 rfl (Nat.le_of_ble_eq_true rfl) ⟨Nat.zero_le _, Nat.zero_le _⟩ dX3_toSand_90 ?_
                      refine lv_goto (tgt := 98) hx hb dX3_toSand_93 (by decide) ?_
                      exact retRi hx hb hr hlk dX3_toSand_98 (by have hkn : k = n := (by omega); subst hkn; grind [cToSand])
                  · have nc_7 : ¬ n ≤ k := fun h => c_7 ((nI_leI (a := n) (b := k) (by omega) (by omega)).mpr h)
                    refine lv_aload_n hx hb dX3_toSand_58 rfl (lv_at hl 0 rfl) ?_
                    refine lv_iload hx hb dX3_toSand_59 (lv_at hl 5 rfl) ?_
                    refine lv_iload_n hx hb dX3_toSand_61 rfl (lv_at hl 1 rfl) ?_
                    refine lv_iload_n hx hb dX3_toSand_62 rfl (lv_at hl 2 rfl) ?_
                    refine rcVi (As := [.int (nI k), .int p0, .int p1]) (rest := []) hx hb hml hown hts hKK hP (c_X3_reachesAny l D cI cB cS hn h3 (k := k) (by omega) p0 p1) (cwV2 3 hts kw_463 kw_3 kw_460 kw_461 kw_462 rfl rfl (by decide +kernel) ⟨Nat.le_of_ble_eq_true rfl, Nat.le_of_ble_eq_true rfl⟩) 0 rfl rfl rfl rfl hl.1 rfl (Nat.le_of_ble_eq_true rfl) ⟨Nat.zero_le _, Nat.zero_le _⟩ dX3_toSand_63 ?_
                    refine topE (z := (b2 (cReach F (I 4) n p0 p1 k))) rfl ?_
                    refine lv_if_eq (tgt := 78) hx hb dX3_toSand_66 (by decide) (fun c_9 => ?_) (fun c_9 => ?_)
                    · have c_9 := b2_z c_9
                      refine lv_iinc (v := (nI (k + 1))) (lv' := [(5, .int (nI (k + 1))), (0, .ref (B 0)), (1, .int p0), (2, .int p1), (3, .int p2), (4, .int (maskN (cReach F (I 4) n p0 p1) k))]) hx hb dX3_toSand_78 hl (k := 5) rfl (nI_add k 1) (by decide) rfl (fun ls hl => ?_)
                      refine lv_goto (tgt := 46) hx hb dX3_toSand_81 (by decide) ?_
                      exact ih_46 (k + 1) (maskN (cReach F (I 4) n p0 p1) k) (nI (k + 1)) (by rw [maskN, if_neg c_9]) rfl (by omega) (by omega) ls (lv_sub hl [1, 2, 3, 4, 5, 0] rfl)
                    · have c_9 := b2_nz c_9
                      refine lv_iload hx hb dX3_toSand_69 (lv_at hl 4 rfl) ?_
                      refine lv_iconst (v := (1 : Int32)) hx hb dX3_toSand_71 (by decide) ?_
                      refine lv_iload hx hb dX3_toSand_72 (lv_at hl 5 rfl) ?_
                      refine lv_ishl hx hb dX3_toSand_74 ?_
                      refine lv_ior hx hb dX3_toSand_75 ?_
                      refine lv_istore (lv' := [(4, .int (maskN (cReach F (I 4) n p0 p1) k ||| ((1 : Int32) <<< (nI k &&& 31)))), (0, .ref (B 0)), (1, .int p0), (2, .int p1), (3, .int p2), (5, .int (nI k))]) hx hb dX3_toSand_76 hl (by decide) rfl (fun ls hl => ?_)
                      refine lv_iinc (v := (nI (k + 1))) (lv' := [(5, .int (nI (k + 1))), (4, .int (maskN (cReach F (I 4) n p0 p1) k ||| ((1 : Int32) <<< (nI k &&& 31)))), (0, .ref (B 0)), (1, .int p0), (2, .int p1), (3, .int p2)]) hx hb dX3_toSand_78 hl (k := 5) rfl (nI_add k 1) (by decide) rfl (fun ls hl => ?_)
                      refine lv_goto (tgt := 46) hx hb dX3_toSand_81 (by decide) ?_
                      exact ih_46 (k + 1) (maskN (cReach F (I 4) n p0 p1) k ||| ((1 : Int32) <<< (nI k &&& 31))) (nI (k + 1)) (by rw [maskN, if_pos c_9]) rfl (by omega) (by omega) ls (lv_sub hl [2, 3, 4, 5, 1, 0] rfl)
              exact loop_46 ((n - 0) + 1) 0 (0 : Int32) (0 : Int32) rfl rfl (by omega) (by omega) ls (lv_sub hl [2, 3, 4, 5, 1, 0] rfl)
            · have c_6 := b2_z c_6
              refine lv_bipush (v := (-103 : Int32)) hx hb dX3_toSand_37 (by decide) ?_
              exact retRi hx hb hr hlk dX3_toSand_39 (by grind [cToSand])
          · refine lv_bipush (v := (-102 : Int32)) hx hb dX3_toSand_27 (by decide) ?_
            exact retRi hx hb hr hlk dX3_toSand_29 (by grind [cToSand])
set_option maxHeartbeats 1000000 in
set_option maxRecDepth 100000 in
theorem c_X3_inkIn_8 (l : Launch) (D : va_G) (cI cB cS : ClassId) {B : Nat → Nat} {I : Nat → Int32} {F : Nat → Nat → Int32} : Met l yX3_inkIn (Wm yX3_inkIn cX3_inkIn 3 (some .int)) ({ frames := 0, cells := 0, slots := 0, locals := 0 }) (va_Pc [.ref (B 8)] (PR D (TYS cI cB cS) (wsB B cI cS I F))) (QcV (some (.int (sumN (F 8) 10)))) 0 0 (fun _ => False) := by
  refine metR (by decide) [.ref (B 8)] (Nat.le_of_ble_eq_true rfl) ?_
  intro p e s m args below meth c hx hb hml hr hlk hown hts hKK hP ls hl
  obtain ⟨hK, hN⟩ := id hKK
  have hl : lv_has ls 3 [(0, .ref (B 8))] := hl
  refine lv_iconst (v := (0 : Int32)) hx hb dX3_inkIn_0 (by decide) ?_
  refine lv_istore_n (lv' := [(1, .int (0 : Int32)), (0, .ref (B 8))]) hx hb dX3_inkIn_1 rfl hl (by decide) rfl (fun ls hl => ?_)
  refine lv_iconst (v := (0 : Int32)) hx hb dX3_inkIn_2 (by decide) ?_
  refine lv_istore_n (lv' := [(2, .int (0 : Int32)), (1, .int (0 : Int32)), (0, .ref (B 8))]) hx hb dX3_inkIn_3 rfl hl (by decide) rfl (fun ls hl => ?_)
  have loop_4 : ∀ (z : Nat) (k : Nat) (x1 : Int32) (x2 : Int32), x1 = sumN (F 8) k → x2 = nI k → (k ≤ 10) → 10 - k < z → ∀ (ls : Array Slot), lv_has ls 3 [(0, .ref (B 8)), (1, .int x1), (2, .int x2)] → W p l e ({ frames := 0, cells := 0, slots := 0, locals := 0 } : Room) s m args below meth c s.heap [] 0 0 (MQ below (QcV (some (.int (sumN (F 8) 10)))) args s 0 0 (fun _ => False)) (F0 m 4 ls []) := by
    intro z
    induction z with
    | zero =>
      intro k x1 x2 ex1 ex2 hk hz
      exact absurd hz (Nat.not_lt_zero _)
    | succ z ih_4 =>
      intro k x1 x2 ex1 ex2 hk hz ls hl
      subst ex1
      subst ex2
      refine lv_iload_n hx hb dX3_inkIn_4 rfl (lv_at hl 2 rfl) ?_
      refine lv_aload_n hx hb dX3_inkIn_5 rfl (lv_at hl 0 rfl) ?_
      refine va_alen (D := D) hx hb hK hP 8 0 rfl rfl (v := (10 : Int32)) rfl dX3_inkIn_6 ?_
      refine lv_icmp_ge (tgt := 22) hx hb dX3_inkIn_7 (by decide) (fun c_1 => ?_) (fun c_1 => ?_)
      · have nc_1 : 10 ≤ k := (nI_leI (a := 10) (b := k) (by omega) (by omega)).mp c_1
        refine lv_iload_n hx hb dX3_inkIn_22 rfl (lv_at hl 1 rfl) ?_
        exact retRi hx hb hr hlk dX3_inkIn_23 (by have hkn : k = 10 := (by omega); subst hkn; rfl)
      · have nc_1 : ¬ 10 ≤ k := fun h => c_1 ((nI_leI (a := 10) (b := k) (by omega) (by omega)).mpr h)
        refine lv_iload_n hx hb dX3_inkIn_10 rfl (lv_at hl 1 rfl) ?_
        refine lv_aload_n hx hb dX3_inkIn_11 rfl (lv_at hl 0 rfl) ?_
        refine lv_iload_n hx hb dX3_inkIn_12 rfl (lv_at hl 2 rfl) ?_
        refine va_iald (D := D) hx hb hK hP 8 0 rfl rfl (vp_in_nI (by omega) (by omega)) dX3_inkIn_13 ?_
        refine topE (z := ((F 8) k)) (congrArg _ (nI_clamp (n := k) (by omega))) ?_
        refine lv_iadd hx hb dX3_inkIn_14 ?_
        refine lv_istore_n (lv' := [(1, .int (sumN (F 8) k + ((F 8) k))), (0, .ref (B 8)), (2, .int (nI k))]) hx hb dX3_inkIn_15 rfl hl (by decide) rfl (fun ls hl => ?_)
        refine lv_iinc (v := (nI (k + 1))) (lv' := [(2, .int (nI (k + 1))), (1, .int (sumN (F 8) k + ((F 8) k))), (0, .ref (B 8))]) hx hb dX3_inkIn_16 hl (k := 2) rfl (nI_add k 1) (by decide) rfl (fun ls hl => ?_)
        refine lv_goto (tgt := 4) hx hb dX3_inkIn_19 (by decide) ?_
        exact ih_4 (k + 1) (sumN (F 8) k + ((F 8) k)) (nI (k + 1)) (by grind [sumN]) rfl (by omega) (by omega) ls (lv_sub hl [2, 1, 0] rfl)
  exact loop_4 ((10 - 0) + 1) 0 (0 : Int32) (0 : Int32) rfl rfl (by omega) (by omega) ls (lv_sub hl [2, 1, 0] rfl)
set_option maxHeartbeats 1000000 in
set_option maxRecDepth 100000 in
theorem c_X3_inkIn_5 (l : Launch) (D : va_G) (cI cB cS : ClassId) {B : Nat → Nat} {I : Nat → Int32} {F : Nat → Nat → Int32} : Met l yX3_inkIn (Wm yX3_inkIn cX3_inkIn 3 (some .int)) ({ frames := 0, cells := 0, slots := 0, locals := 0 }) (va_Pc [.ref (B 5)] (PR D (TYS cI cB cS) (wsB B cI cS I F))) (QcV (some (.int (sumN (F 5) 10)))) 0 0 (fun _ => False) := by
  refine metR (by decide) [.ref (B 5)] (Nat.le_of_ble_eq_true rfl) ?_
  intro p e s m args below meth c hx hb hml hr hlk hown hts hKK hP ls hl
  obtain ⟨hK, hN⟩ := id hKK
  have hl : lv_has ls 3 [(0, .ref (B 5))] := hl
  refine lv_iconst (v := (0 : Int32)) hx hb dX3_inkIn_0 (by decide) ?_
  refine lv_istore_n (lv' := [(1, .int (0 : Int32)), (0, .ref (B 5))]) hx hb dX3_inkIn_1 rfl hl (by decide) rfl (fun ls hl => ?_)
  refine lv_iconst (v := (0 : Int32)) hx hb dX3_inkIn_2 (by decide) ?_
  refine lv_istore_n (lv' := [(2, .int (0 : Int32)), (1, .int (0 : Int32)), (0, .ref (B 5))]) hx hb dX3_inkIn_3 rfl hl (by decide) rfl (fun ls hl => ?_)
  have loop_4 : ∀ (z : Nat) (k : Nat) (x1 : Int32) (x2 : Int32), x1 = sumN (F 5) k → x2 = nI k → (k ≤ 10) → 10 - k < z → ∀ (ls : Array Slot), lv_has ls 3 [(0, .ref (B 5)), (1, .int x1), (2, .int x2)] → W p l e ({ frames := 0, cells := 0, slots := 0, locals := 0 } : Room) s m args below meth c s.heap [] 0 0 (MQ below (QcV (some (.int (sumN (F 5) 10)))) args s 0 0 (fun _ => False)) (F0 m 4 ls []) := by
    intro z
    induction z with
    | zero =>
      intro k x1 x2 ex1 ex2 hk hz
      exact absurd hz (Nat.not_lt_zero _)
    | succ z ih_4 =>
      intro k x1 x2 ex1 ex2 hk hz ls hl
      subst ex1
      subst ex2
      refine lv_iload_n hx hb dX3_inkIn_4 rfl (lv_at hl 2 rfl) ?_
      refine lv_aload_n hx hb dX3_inkIn_5 rfl (lv_at hl 0 rfl) ?_
      refine va_alen (D := D) hx hb hK hP 5 0 rfl rfl (v := (10 : Int32)) rfl dX3_inkIn_6 ?_
      refine lv_icmp_ge (tgt := 22) hx hb dX3_inkIn_7 (by decide) (fun c_1 => ?_) (fun c_1 => ?_)
      · have nc_1 : 10 ≤ k := (nI_leI (a := 10) (b := k) (by omega) (by omega)).mp c_1
        refine lv_iload_n hx hb dX3_inkIn_22 rfl (lv_at hl 1 rfl) ?_
        exact retRi hx hb hr hlk dX3_inkIn_23 (by have hkn : k = 10 := (by omega); subst hkn; rfl)
      · have nc_1 : ¬ 10 ≤ k := fun h => c_1 ((nI_leI (a := 10) (b := k) (by omega) (by omega)).mpr h)
        refine lv_iload_n hx hb dX3_inkIn_10 rfl (lv_at hl 1 rfl) ?_
        refine lv_aload_n hx hb dX3_inkIn_11 rfl (lv_at hl 0 rfl) ?_
        refine lv_iload_n hx hb dX3_inkIn_12 rfl (lv_at hl 2 rfl) ?_
        refine va_iald (D := D) hx hb hK hP 5 0 rfl rfl (vp_in_nI (by omega) (by omega)) dX3_inkIn_13 ?_
        refine topE (z := ((F 5) k)) (congrArg _ (nI_clamp (n := k) (by omega))) ?_
        refine lv_iadd hx hb dX3_inkIn_14 ?_
        refine lv_istore_n (lv' := [(1, .int (sumN (F 5) k + ((F 5) k))), (0, .ref (B 5)), (2, .int (nI k))]) hx hb dX3_inkIn_15 rfl hl (by decide) rfl (fun ls hl => ?_)
        refine lv_iinc (v := (nI (k + 1))) (lv' := [(2, .int (nI (k + 1))), (1, .int (sumN (F 5) k + ((F 5) k))), (0, .ref (B 5))]) hx hb dX3_inkIn_16 hl (k := 2) rfl (nI_add k 1) (by decide) rfl (fun ls hl => ?_)
        refine lv_goto (tgt := 4) hx hb dX3_inkIn_19 (by decide) ?_
        exact ih_4 (k + 1) (sumN (F 5) k + ((F 5) k)) (nI (k + 1)) (by grind [sumN]) rfl (by omega) (by omega) ls (lv_sub hl [2, 1, 0] rfl)
  exact loop_4 ((10 - 0) + 1) 0 (0 : Int32) (0 : Int32) rfl rfl (by omega) (by omega) ls (lv_sub hl [2, 1, 0] rfl)
set_option maxHeartbeats 1000000 in
set_option maxRecDepth 100000 in
theorem c_X3_dryIn_8 (l : Launch) (D : va_G) (cI cB cS : ClassId) {B : Nat → Nat} {I : Nat → Int32} {F : Nat → Nat → Int32} : Met l yX3_dryIn (Wm yX3_dryIn cX3_dryIn 3 (some .int)) ({ frames := 0, cells := 0, slots := 0, locals := 0 }) (va_Pc [.ref (B 8)] (PR D (TYS cI cB cS) (wsB B cI cS I F))) (QcV (some (.int (dryN (F 8) 10)))) 0 0 (fun _ => False) := by
  refine metR (by decide) [.ref (B 8)] (Nat.le_of_ble_eq_true rfl) ?_
  intro p e s m args below meth c hx hb hml hr hlk hown hts hKK hP ls hl
  obtain ⟨hK, hN⟩ := id hKK
  have hl : lv_has ls 3 [(0, .ref (B 8))] := hl
  refine lv_iconst (v := (0 : Int32)) hx hb dX3_dryIn_0 (by decide) ?_
  refine lv_istore_n (lv' := [(1, .int (0 : Int32)), (0, .ref (B 8))]) hx hb dX3_dryIn_1 rfl hl (by decide) rfl (fun ls hl => ?_)
  refine lv_iconst (v := (0 : Int32)) hx hb dX3_dryIn_2 (by decide) ?_
  refine lv_istore_n (lv' := [(2, .int (0 : Int32)), (1, .int (0 : Int32)), (0, .ref (B 8))]) hx hb dX3_dryIn_3 rfl hl (by decide) rfl (fun ls hl => ?_)
  have loop_4 : ∀ (z : Nat) (k : Nat) (x1 : Int32) (x2 : Int32), x1 = dryN (F 8) k → x2 = nI k → (k ≤ 10) → 10 - k < z → ∀ (ls : Array Slot), lv_has ls 3 [(0, .ref (B 8)), (1, .int x1), (2, .int x2)] → W p l e ({ frames := 0, cells := 0, slots := 0, locals := 0 } : Room) s m args below meth c s.heap [] 0 0 (MQ below (QcV (some (.int (dryN (F 8) 10)))) args s 0 0 (fun _ => False)) (F0 m 4 ls []) := by
    intro z
    induction z with
    | zero =>
      intro k x1 x2 ex1 ex2 hk hz
      exact absurd hz (Nat.not_lt_zero _)
    | succ z ih_4 =>
      intro k x1 x2 ex1 ex2 hk hz ls hl
      subst ex1
      subst ex2
      refine lv_iload_n hx hb dX3_dryIn_4 rfl (lv_at hl 2 rfl) ?_
      refine lv_aload_n hx hb dX3_dryIn_5 rfl (lv_at hl 0 rfl) ?_
      refine va_alen (D := D) hx hb hK hP 8 0 rfl rfl (v := (10 : Int32)) rfl dX3_dryIn_6 ?_
      refine lv_icmp_ge (tgt := 25) hx hb dX3_dryIn_7 (by decide) (fun c_1 => ?_) (fun c_1 => ?_)
      · have nc_1 : 10 ≤ k := (nI_leI (a := 10) (b := k) (by omega) (by omega)).mp c_1
        refine lv_iload_n hx hb dX3_dryIn_25 rfl (lv_at hl 1 rfl) ?_
        exact retRi hx hb hr hlk dX3_dryIn_26 (by have hkn : k = 10 := (by omega); subst hkn; rfl)
      · have nc_1 : ¬ 10 ≤ k := fun h => c_1 ((nI_leI (a := 10) (b := k) (by omega) (by omega)).mpr h)
        refine lv_aload_n hx hb dX3_dryIn_10 rfl (lv_at hl 0 rfl) ?_
        refine lv_iload_n hx hb dX3_dryIn_11 rfl (lv_at hl 2 rfl) ?_
        refine va_iald (D := D) hx hb hK hP 8 0 rfl rfl (vp_in_nI (by omega) (by omega)) dX3_dryIn_12 ?_
        refine topE (z := ((F 8) k)) (congrArg _ (nI_clamp (n := k) (by omega))) ?_
        refine lv_if_ne (tgt := 19) hx hb dX3_dryIn_13 (by decide) (fun c_2 => ?_) (fun c_2 => ?_)
        · refine lv_iinc (v := (nI (k + 1))) (lv' := [(2, .int (nI (k + 1))), (0, .ref (B 8)), (1, .int (dryN (F 8) k))]) hx hb dX3_dryIn_19 hl (k := 2) rfl (nI_add k 1) (by decide) rfl (fun ls hl => ?_)
          refine lv_goto (tgt := 4) hx hb dX3_dryIn_22 (by decide) ?_
          exact ih_4 (k + 1) (dryN (F 8) k) (nI (k + 1)) (by grind [dryN]) rfl (by omega) (by omega) ls (lv_sub hl [1, 2, 0] rfl)
        · refine lv_iinc (v := (dryN (F 8) k + (1 : Int32))) (lv' := [(1, .int (dryN (F 8) k + (1 : Int32))), (0, .ref (B 8)), (2, .int (nI k))]) hx hb dX3_dryIn_16 hl (k := 1) rfl rfl (by decide) rfl (fun ls hl => ?_)
          refine lv_iinc (v := (nI (k + 1))) (lv' := [(2, .int (nI (k + 1))), (1, .int (dryN (F 8) k + (1 : Int32))), (0, .ref (B 8))]) hx hb dX3_dryIn_19 hl (k := 2) rfl (nI_add k 1) (by decide) rfl (fun ls hl => ?_)
          refine lv_goto (tgt := 4) hx hb dX3_dryIn_22 (by decide) ?_
          exact ih_4 (k + 1) (dryN (F 8) k + (1 : Int32)) (nI (k + 1)) (by grind [dryN]) rfl (by omega) (by omega) ls (lv_sub hl [2, 1, 0] rfl)
  exact loop_4 ((10 - 0) + 1) 0 (0 : Int32) (0 : Int32) rfl rfl (by omega) (by omega) ls (lv_sub hl [2, 1, 0] rfl)
set_option maxHeartbeats 1000000 in
set_option maxRecDepth 100000 in
theorem c_X3_dryIn_5 (l : Launch) (D : va_G) (cI cB cS : ClassId) {B : Nat → Nat} {I : Nat → Int32} {F : Nat → Nat → Int32} : Met l yX3_dryIn (Wm yX3_dryIn cX3_dryIn 3 (some .int)) ({ frames := 0, cells := 0, slots := 0, locals := 0 }) (va_Pc [.ref (B 5)] (PR D (TYS cI cB cS) (wsB B cI cS I F))) (QcV (some (.int (dryN (F 5) 10)))) 0 0 (fun _ => False) := by
  refine metR (by decide) [.ref (B 5)] (Nat.le_of_ble_eq_true rfl) ?_
  intro p e s m args below meth c hx hb hml hr hlk hown hts hKK hP ls hl
  obtain ⟨hK, hN⟩ := id hKK
  have hl : lv_has ls 3 [(0, .ref (B 5))] := hl
  refine lv_iconst (v := (0 : Int32)) hx hb dX3_dryIn_0 (by decide) ?_
  refine lv_istore_n (lv' := [(1, .int (0 : Int32)), (0, .ref (B 5))]) hx hb dX3_dryIn_1 rfl hl (by decide) rfl (fun ls hl => ?_)
  refine lv_iconst (v := (0 : Int32)) hx hb dX3_dryIn_2 (by decide) ?_
  refine lv_istore_n (lv' := [(2, .int (0 : Int32)), (1, .int (0 : Int32)), (0, .ref (B 5))]) hx hb dX3_dryIn_3 rfl hl (by decide) rfl (fun ls hl => ?_)
  have loop_4 : ∀ (z : Nat) (k : Nat) (x1 : Int32) (x2 : Int32), x1 = dryN (F 5) k → x2 = nI k → (k ≤ 10) → 10 - k < z → ∀ (ls : Array Slot), lv_has ls 3 [(0, .ref (B 5)), (1, .int x1), (2, .int x2)] → W p l e ({ frames := 0, cells := 0, slots := 0, locals := 0 } : Room) s m args below meth c s.heap [] 0 0 (MQ below (QcV (some (.int (dryN (F 5) 10)))) args s 0 0 (fun _ => False)) (F0 m 4 ls []) := by
    intro z
    induction z with
    | zero =>
      intro k x1 x2 ex1 ex2 hk hz
      exact absurd hz (Nat.not_lt_zero _)
    | succ z ih_4 =>
      intro k x1 x2 ex1 ex2 hk hz ls hl
      subst ex1
      subst ex2
      refine lv_iload_n hx hb dX3_dryIn_4 rfl (lv_at hl 2 rfl) ?_
      refine lv_aload_n hx hb dX3_dryIn_5 rfl (lv_at hl 0 rfl) ?_
      refine va_alen (D := D) hx hb hK hP 5 0 rfl rfl (v := (10 : Int32)) rfl dX3_dryIn_6 ?_
      refine lv_icmp_ge (tgt := 25) hx hb dX3_dryIn_7 (by decide) (fun c_1 => ?_) (fun c_1 => ?_)
      · have nc_1 : 10 ≤ k := (nI_leI (a := 10) (b := k) (by omega) (by omega)).mp c_1
        refine lv_iload_n hx hb dX3_dryIn_25 rfl (lv_at hl 1 rfl) ?_
        exact retRi hx hb hr hlk dX3_dryIn_26 (by have hkn : k = 10 := (by omega); subst hkn; rfl)
      · have nc_1 : ¬ 10 ≤ k := fun h => c_1 ((nI_leI (a := 10) (b := k) (by omega) (by omega)).mpr h)
        refine lv_aload_n hx hb dX3_dryIn_10 rfl (lv_at hl 0 rfl) ?_
        refine lv_iload_n hx hb dX3_dryIn_11 rfl (lv_at hl 2 rfl) ?_
        refine va_iald (D := D) hx hb hK hP 5 0 rfl rfl (vp_in_nI (by omega) (by omega)) dX3_dryIn_12 ?_
        refine topE (z := ((F 5) k)) (congrArg _ (nI_clamp (n := k) (by omega))) ?_
        refine lv_if_ne (tgt := 19) hx hb dX3_dryIn_13 (by decide) (fun c_2 => ?_) (fun c_2 => ?_)
        · refine lv_iinc (v := (nI (k + 1))) (lv' := [(2, .int (nI (k + 1))), (0, .ref (B 5)), (1, .int (dryN (F 5) k))]) hx hb dX3_dryIn_19 hl (k := 2) rfl (nI_add k 1) (by decide) rfl (fun ls hl => ?_)
          refine lv_goto (tgt := 4) hx hb dX3_dryIn_22 (by decide) ?_
          exact ih_4 (k + 1) (dryN (F 5) k) (nI (k + 1)) (by grind [dryN]) rfl (by omega) (by omega) ls (lv_sub hl [1, 2, 0] rfl)
        · refine lv_iinc (v := (dryN (F 5) k + (1 : Int32))) (lv' := [(1, .int (dryN (F 5) k + (1 : Int32))), (0, .ref (B 5)), (2, .int (nI k))]) hx hb dX3_dryIn_16 hl (k := 1) rfl rfl (by decide) rfl (fun ls hl => ?_)
          refine lv_iinc (v := (nI (k + 1))) (lv' := [(2, .int (nI (k + 1))), (1, .int (dryN (F 5) k + (1 : Int32))), (0, .ref (B 5))]) hx hb dX3_dryIn_19 hl (k := 2) rfl (nI_add k 1) (by decide) rfl (fun ls hl => ?_)
          refine lv_goto (tgt := 4) hx hb dX3_dryIn_22 (by decide) ?_
          exact ih_4 (k + 1) (dryN (F 5) k + (1 : Int32)) (nI (k + 1)) (by grind [dryN]) rfl (by omega) (by omega) ls (lv_sub hl [2, 1, 0] rfl)
  exact loop_4 ((10 - 0) + 1) 0 (0 : Int32) (0 : Int32) rfl rfl (by omega) (by omega) ls (lv_sub hl [2, 1, 0] rfl)
set_option maxHeartbeats 1000000 in
set_option maxRecDepth 100000 in
theorem c_X3_seedAfter (l : Launch) (D : va_G) (cI cB cS : ClassId) {ws : va_W} (p0 : Int32) : Met l yX3_seedAfter (Wm yX3_seedAfter cX3_seedAfter 1 (some .int)) ({ frames := 0, cells := 0, slots := 0, locals := 0 }) (va_Pc [.int p0] (PR D (TYS cI cB cS) ws)) (QcV (some (.int (cSd p0)))) 0 0 (fun _ => False) := by
  refine metR (by decide) [.int p0] (Nat.le_of_ble_eq_true rfl) ?_
  intro p e s m args below meth c hx hb hml hr hlk hown hts hKK hP ls hl
  obtain ⟨hK, hN⟩ := id hKK
  have hl : lv_has ls 1 [(0, .int p0)] := hl
  refine lv_ldc2 (v := (1103515245 : Int64)) hx hb hown (hts _ kw_548) dX3_seedAfter_0 ?_
  refine lv_iload_n hx hb dX3_seedAfter_3 rfl (lv_at hl 0 rfl) ?_
  refine lv_i2l (v := ((p0).toInt64)) hx hb dX3_seedAfter_4 rfl ?_
  refine lv_lmul hx hb dX3_seedAfter_5 ?_
  refine lv_ldc2 (v := (12345 : Int64)) hx hb hown (hts _ kw_549) dX3_seedAfter_6 ?_
  refine lv_ladd hx hb dX3_seedAfter_9 ?_
  refine lv_ldc2 (v := (2147483648 : Int64)) hx hb hown (hts _ kw_550) dX3_seedAfter_10 ?_
  refine lv_lrem hx hb dX3_seedAfter_13 (by decide) ?_
  refine lv_l2i (v := (((((1103515245 : Int64) * ((p0).toInt64)) + (12345 : Int64)) - (((1103515245 : Int64) * ((p0).toInt64)) + (12345 : Int64)) / (2147483648 : Int64) * (2147483648 : Int64)).toInt32)) hx hb dX3_seedAfter_14 rfl ?_
  exact retRi hx hb hr hlk dX3_seedAfter_15 rfl
set_option maxHeartbeats 1000000 in
set_option maxRecDepth 100000 in
theorem c_X3_years (l : Launch) (D : va_G) (cI cB cS : ClassId) {B : Nat → Nat} {I : Nat → Int32} {F : Nat → Nat → Int32} {n : Nat} (hn : n ≤ 6) (h3 : I 3 = nI n) (p0 p1 p2 : Int32) : Met l yX3_years (Wm yX3_years cX3_years 6 (some .int)) ({ frames := 5, cells := 0, slots := 0, locals := 121 }) (va_Pc [.ref (B 0), .int p0, .int p1, .int p2] (PW D (TYS cI cB cS) (wsB B cI cS I F))) (QcW D (some (.int (cYears n (cYRow F (I 4) n (rowN (F 8) (F 5) 10) p1 p0.toNatClampNeg) (cSeeds p1 p0.toNatClampNeg) p0 p1 p2))) (wsB B cI cS I F) (if okY p0 p1 p2 ∧ 0 < n then wsB B cI cS I (va_up F 5 (cYRow F (I 4) n (rowN (F 8) (F 5) 10) p1 p0.toNatClampNeg)) else wsB B cI cS I F)) 0 0 (FPw (wsB B cI cS I F)) := by
  refine metW (by decide) [.ref (B 0), .int p0, .int p1, .int p2] (Nat.le_of_ble_eq_true rfl) ?_
  intro p e s m args below meth c hx hb hml hr hlk hown hts hKK hP hD hS ls hl
  obtain ⟨hK, hN⟩ := id hKK
  have hl : lv_has ls 6 [(0, .ref (B 0)), (1, .int p0), (2, .int p1), (3, .int p2)] := hl
  refine lv_iload_n hx hb dX3_years_0 rfl (lv_at hl 1 rfl) ?_
  refine lv_iconst (v := (1 : Int32)) hx hb dX3_years_1 (by decide) ?_
  refine lv_icmp_lt (tgt := 24) hx hb dX3_years_2 (by decide) (fun c_1 => ?_) (fun c_1 => ?_)
  · refine lv_bipush (v := (-102 : Int32)) hx hb dX3_years_24 (by decide) ?_
    exact retWi hx hb hr hlk hP hS dX3_years_26 (by grind [cYears]) (by exact (if_neg (by grind)).symm)
  · refine lv_iload_n hx hb dX3_years_5 rfl (lv_at hl 1 rfl) ?_
    refine lv_bipush (v := (60 : Int32)) hx hb dX3_years_6 (by decide) ?_
    refine lv_icmp_gt (tgt := 24) hx hb dX3_years_8 (by decide) (fun c_2 => ?_) (fun c_2 => ?_)
    · refine lv_bipush (v := (-102 : Int32)) hx hb dX3_years_24 (by decide) ?_
      exact retWi hx hb hr hlk hP hS dX3_years_26 (by grind [cYears]) (by exact (if_neg (by grind)).symm)
    · refine lv_iload_n hx hb dX3_years_11 rfl (lv_at hl 2 rfl) ?_
      refine lv_if_lt (tgt := 24) hx hb dX3_years_12 (by decide) (fun c_3 => ?_) (fun c_3 => ?_)
      · refine lv_bipush (v := (-102 : Int32)) hx hb dX3_years_24 (by decide) ?_
        exact retWi hx hb hr hlk hP hS dX3_years_26 (by grind [cYears]) (by exact (if_neg (by grind)).symm)
      · refine lv_iload_n hx hb dX3_years_15 rfl (lv_at hl 3 rfl) ?_
        refine lv_if_lt (tgt := 24) hx hb dX3_years_16 (by decide) (fun c_4 => ?_) (fun c_4 => ?_)
        · refine lv_bipush (v := (-102 : Int32)) hx hb dX3_years_24 (by decide) ?_
          exact retWi hx hb hr hlk hP hS dX3_years_26 (by grind [cYears]) (by exact (if_neg (by grind)).symm)
        · refine lv_iload_n hx hb dX3_years_19 rfl (lv_at hl 3 rfl) ?_
          refine lv_iconst (v := (2 : Int32)) hx hb dX3_years_20 (by decide) ?_
          refine lv_icmp_le (tgt := 27) hx hb dX3_years_21 (by decide) (fun c_5 => ?_) (fun c_5 => ?_)
          · obtain ⟨ym, hym, hp0⟩ := yrs_nat c_1 c_2
            have hkc : p0.toNatClampNeg = ym := by rw [hp0]; exact nI_clamp (by omega)
            refine lv_aload_n hx hb dX3_years_27 rfl (lv_at hl 0 rfl) ?_
            refine rcVi (As := []) (rest := []) hx hb hml hown hts hKK hP (c_X3_hasLeaf l D cI cB cS hn h3 ) (cwV2 0 hts kw_353 kw_3 kw_350 kw_351 kw_352 rfl rfl (by decide +kernel) ⟨Nat.le_of_ble_eq_true rfl, Nat.le_of_ble_eq_true rfl⟩) 0 rfl rfl rfl rfl hl.1 rfl (Nat.le_of_ble_eq_true rfl) ⟨Nat.zero_le _, Nat.zero_le _⟩ dX3_years_28 ?_
            refine lv_if_ne (tgt := 37) hx hb dX3_years_31 (by decide) (fun c_6 => ?_) (fun c_6 => ?_)
            · have c_6 := b2_nz c_6
              refine lv_aload_n hx hb dX3_years_37 rfl (lv_at hl 0 rfl) ?_
              refine va_get (D := D) (ci := 3) (v := .ref (B 3)) (C := RX3) (T := TX3) (N := 8) hx hb hts inlX3 hown hK hP 0 rfl rfl 2 (by decide) (hts _ kw_21) (fun _ h9 => h9) rfl dX3_years_38 ?_
              refine va_getN (D := D) (ci := 1) (v := .ref (B 8)) (C := RX1) (T := TX1) (N := 8) hx hb hts inlX1 hown hK hP 3 rfl rfl 4 (by decide) (nfF_5 hN) (fun _ h9 => h9) rfl dX3_years_41 ?_
              refine lv_aload_n hx hb dX3_years_44 rfl (lv_at hl 0 rfl) ?_
              refine va_get (D := D) (ci := 3) (v := .ref (B 5)) (C := RX3) (T := TX3) (N := 8) hx hb hts inlX3 hown hK hP 0 rfl rfl 6 (by decide) (hts _ kw_26) (fun _ h9 => h9) rfl dX3_years_45 ?_
              refine wcSv (As := [.ref (B 8), .ref (B 5)]) (rest := []) hx hb hml hown hts hKK hP hD hS (c_X3_copyRow_8_5 l D cI cB cS ) (cwS2 2 hts kw_544 kw_3 kw_542 kw_543 rfl rfl (by decide +kernel) ⟨Nat.le_of_ble_eq_true rfl, Nat.le_of_ble_eq_true rfl⟩) rfl hl.1 rfl (Nat.le_of_ble_eq_true rfl) ⟨Nat.zero_le _, Nat.zero_le _⟩ dX3_years_48 (fun H locs hP hS => ?_)
              have hP : va_P D vwCl (wsB B cI cS I (va_up F 5 (rowN (F 8) (F 5) 10))) H := hP
              have hD : va_D (FPw (wsB B cI cS I F)) (wsB B cI cS I (va_up F 5 (rowN (F 8) (F 5) 10))) := va_D_addr (ws := (wsB B cI cS I F)) rfl hD
              refine lv_iload_n hx hb dX3_years_51 rfl (lv_at hl 2 rfl) ?_
              refine lv_istore (lv' := [(4, .int p1), (0, .ref (B 0)), (1, .int p0), (2, .int p1), (3, .int p2)]) hx hb dX3_years_52 hl (by decide) rfl (fun ls hl => ?_)
              refine lv_iconst (v := (0 : Int32)) hx hb dX3_years_54 (by decide) ?_
              refine lv_istore (lv' := [(5, .int (0 : Int32)), (4, .int p1), (0, .ref (B 0)), (1, .int p0), (2, .int p1), (3, .int p2)]) hx hb dX3_years_55 hl (by decide) rfl (fun ls hl => ?_)
              have loop_57 : ∀ (z : Nat) (k : Nat) (x4 : Int32) (x5 : Int32), x4 = cSeeds p1 k → x5 = nI k → (k ≤ ym) → ym - k < z → ∀ (H : Heap) (locs : List Loc), va_P D vwCl (wsB B cI cS I (va_up F 5 (cYRow F (I 4) n (rowN (F 8) (F 5) 10) p1 k))) H → va_S (FPw (wsB B cI cS I F)) s.heap H locs → ∀ (ls : Array Slot), lv_has ls 6 [(0, .ref (B 0)), (1, .int p0), (2, .int p1), (3, .int p2), (4, .int x4), (5, .int x5)] → W p l e ({ frames := 5, cells := 0, slots := 0, locals := 121 } : Room) s m args below meth c H locs 0 0 (MQ below (QcW D (some (.int (cYears n (cYRow F (I 4) n (rowN (F 8) (F 5) 10) p1 p0.toNatClampNeg) (cSeeds p1 p0.toNatClampNeg) p0 p1 p2))) (wsB B cI cS I F) (if okY p0 p1 p2 ∧ 0 < n then wsB B cI cS I (va_up F 5 (cYRow F (I 4) n (rowN (F 8) (F 5) 10) p1 p0.toNatClampNeg)) else wsB B cI cS I F)) args s 0 0 (FPw (wsB B cI cS I F))) (F0 m 57 ls []) := by
                intro z
                induction z with
                | zero =>
                  intro k x4 x5 ex4 ex5 hk hz
                  exact absurd hz (Nat.not_lt_zero _)
                | succ z ih_57 =>
                  intro k x4 x5 ex4 ex5 hk hz H locs hP hS ls hl
                  subst ex4
                  subst ex5
                  have hD := va_D_addr (ws := (wsB B cI cS I (va_up F 5 (rowN (F 8) (F 5) 10)))) (ws' := (wsB B cI cS I (va_up F 5 (cYRow F (I 4) n (rowN (F 8) (F 5) 10) p1 k)))) rfl hD
                  refine lv_iload hx hb dX3_years_57 (lv_at hl 5 rfl) ?_
                  refine lv_iload_n hx hb dX3_years_59 rfl (lv_at hl 1 rfl) ?_
                  refine topE (z := (nI ym)) (by exact hp0) ?_
                  refine lv_icmp_ge (tgt := 93) hx hb dX3_years_60 (by decide) (fun c_7 => ?_) (fun c_7 => ?_)
                  · have nc_7 : ym ≤ k := (nI_leI (a := ym) (b := k) (by omega) (by omega)).mp c_7
                    refine lv_iload_n hx hb dX3_years_93 rfl (lv_at hl 3 rfl) ?_
                    by_cases e_8 : p2 = (0 : Int32)
                    · refine topE e_8 ?_
                      refine lv_lookup (off := 26) (tgt := 120) hx hb dX3_years_94 (by decide +kernel) (by decide) (by decide) ?_
                      refine lv_aload_n hx hb dX3_years_120 rfl (lv_at hl 0 rfl) ?_
                      refine va_get (D := D) (ci := 3) (v := .ref (B 5)) (C := RX3) (T := TX3) (N := 8) hx hb hts inlX3 hown hK hP 0 rfl rfl 6 (by decide) (hts _ kw_26) (fun _ h9 => h9) rfl dX3_years_121 ?_
                      refine rcSi (As := [.ref (B 5)]) (rest := []) hx hb hml hown hts hKK hP (c_X3_inkIn_5 l D cI cB cS ) (cwS2 1 hts kw_553 kw_3 kw_551 kw_552 rfl rfl (by decide +kernel) ⟨Nat.le_of_ble_eq_true rfl, Nat.le_of_ble_eq_true rfl⟩) rfl hl.1 rfl (Nat.le_of_ble_eq_true rfl) ⟨Nat.zero_le _, Nat.zero_le _⟩ dX3_years_124 ?_
                      refine topE (z := (sumN (cYRow F (I 4) n (rowN (F 8) (F 5) 10) p1 k) 10)) rfl ?_
                      exact retWi hx hb hr hlk hP hS dX3_years_127 (by have hkn : k = ym := (by omega); subst hkn; rw [hkc]; grind [cYears]) (by have hkn : k = ym := (by omega); subst hkn; rw [hkc]; exact (if_pos (by grind)).symm)
                    by_cases e_9 : p2 = (1 : Int32)
                    · refine topE e_9 ?_
                      refine lv_lookup (off := 34) (tgt := 128) hx hb dX3_years_94 (by decide +kernel) (by decide) (by decide) ?_
                      refine lv_aload_n hx hb dX3_years_128 rfl (lv_at hl 0 rfl) ?_
                      refine va_get (D := D) (ci := 3) (v := .ref (B 5)) (C := RX3) (T := TX3) (N := 8) hx hb hts inlX3 hown hK hP 0 rfl rfl 6 (by decide) (hts _ kw_26) (fun _ h9 => h9) rfl dX3_years_129 ?_
                      refine rcSi (As := [.ref (B 5)]) (rest := []) hx hb hml hown hts hKK hP (c_X3_dryIn_5 l D cI cB cS ) (cwS2 1 hts kw_556 kw_3 kw_554 kw_555 rfl rfl (by decide +kernel) ⟨Nat.le_of_ble_eq_true rfl, Nat.le_of_ble_eq_true rfl⟩) rfl hl.1 rfl (Nat.le_of_ble_eq_true rfl) ⟨Nat.zero_le _, Nat.zero_le _⟩ dX3_years_132 ?_
                      refine topE (z := (dryN (cYRow F (I 4) n (rowN (F 8) (F 5) 10) p1 k) 10)) rfl ?_
                      exact retWi hx hb hr hlk hP hS dX3_years_135 (by have hkn : k = ym := (by omega); subst hkn; rw [hkc]; grind [cYears]) (by have hkn : k = ym := (by omega); subst hkn; rw [hkc]; exact (if_pos (by grind)).symm)
                    refine lv_lookup (off := 42) (tgt := 136) hx hb dX3_years_94 (by decide +kernel) (by show Op.lookupswitch.offset [(0, 26), (1, 34)] 42 p2.toInt = 42; rw [lv_osw (a := 0) e_8 rfl]; rw [lv_osw (a := 1) e_9 rfl]; rfl) (by decide) ?_
                    refine lv_iload hx hb dX3_years_136 (lv_at hl 4 rfl) ?_
                    exact retWi hx hb hr hlk hP hS dX3_years_138 (by have hkn : k = ym := (by omega); subst hkn; rw [hkc]; grind [cYears]) (by have hkn : k = ym := (by omega); subst hkn; rw [hkc]; exact (if_pos (by grind)).symm)
                  · have nc_7 : ¬ ym ≤ k := fun h => c_7 ((nI_leI (a := ym) (b := k) (by omega) (by omega)).mpr h)
                    refine lv_iload hx hb dX3_years_63 (lv_at hl 4 rfl) ?_
                    refine rcSi (As := [.int (cSeeds p1 k)]) (rest := []) hx hb hml hown hts hKK hP (c_X3_seedAfter l D cI cB cS (cSeeds p1 k)) (cwS2 1 hts kw_547 kw_3 kw_545 kw_546 rfl rfl (by decide +kernel) ⟨Nat.le_of_ble_eq_true rfl, Nat.le_of_ble_eq_true rfl⟩) rfl hl.1 rfl (Nat.le_of_ble_eq_true rfl) ⟨Nat.zero_le _, Nat.zero_le _⟩ dX3_years_65 ?_
                    refine lv_istore (lv' := [(4, .int (cSd (cSeeds p1 k))), (0, .ref (B 0)), (1, .int p0), (2, .int p1), (3, .int p2), (5, .int (nI k))]) hx hb dX3_years_68 hl (by decide) rfl (fun ls hl => ?_)
                    refine lv_aload_n hx hb dX3_years_70 rfl (lv_at hl 1 rfl) ?_
                    refine lv_aload_n hx hb dX3_years_71 rfl (lv_at hl 1 rfl) ?_
                    refine va_get (D := D) (ci := 3) (v := .ref (B 5)) (C := RX3) (T := TX3) (N := 8) hx hb hts inlX3 hown hK hP 0 rfl rfl 6 (by decide) (hts _ kw_26) (fun _ h9 => h9) rfl dX3_years_72 ?_
                    refine lv_iload hx hb dX3_years_75 (lv_at hl 0 rfl) ?_
                    refine lv_ldc (v := (65536 : Int32)) hx hb hown (hts _ kw_541) dX3_years_77 ?_
                    refine lv_idiv hx hb dX3_years_79 (by decide) ?_
                    refine lv_bipush (v := (21 : Int32)) hx hb dX3_years_80 (by decide) ?_
                    refine lv_irem hx hb dX3_years_82 (by decide) ?_
                    refine wcVi (As := [.ref (B 5), .int (((cSd (cSeeds p1 k)) / (65536 : Int32)) - ((cSd (cSeeds p1 k)) / (65536 : Int32)) / (21 : Int32) * (21 : Int32))]) (rest := []) hx hb hml hown hts hKK hP hD hS (c_X3_pressOff_5 l D cI cB cS hn h3 (((cSd (cSeeds p1 k)) / (65536 : Int32)) - ((cSd (cSeeds p1 k)) / (65536 : Int32)) / (21 : Int32) * (21 : Int32))) (cwV2 2 hts kw_419 kw_3 kw_416 kw_417 kw_418 rfl rfl (by decide +kernel) ⟨Nat.le_of_ble_eq_true rfl, Nat.le_of_ble_eq_true rfl⟩) 0 rfl rfl rfl rfl hl.1 rfl (Nat.le_of_ble_eq_true rfl) ⟨Nat.zero_le _, Nat.zero_le _⟩ dX3_years_83 (fun H locs hP hS => ?_)
                    have hP : va_P D vwCl (wsB B cI cS I (va_up F 5 (rowN (cPress F (I 4) n (((cSd (cSeeds p1 k)) / (65536 : Int32)) - ((cSd (cSeeds p1 k)) / (65536 : Int32)) / (21 : Int32) * (21 : Int32)) (cYRow F (I 4) n (rowN (F 8) (F 5) 10) p1 k)) (cYRow F (I 4) n (rowN (F 8) (F 5) 10) p1 k) 10))) H := hP
                    have hD : va_D (FPw (wsB B cI cS I F)) (wsB B cI cS I (va_up F 5 (rowN (cPress F (I 4) n (((cSd (cSeeds p1 k)) / (65536 : Int32)) - ((cSd (cSeeds p1 k)) / (65536 : Int32)) / (21 : Int32) * (21 : Int32)) (cYRow F (I 4) n (rowN (F 8) (F 5) 10) p1 k)) (cYRow F (I 4) n (rowN (F 8) (F 5) 10) p1 k) 10))) := va_D_addr (ws := (wsB B cI cS I (va_up F 5 (cYRow F (I 4) n (rowN (F 8) (F 5) 10) p1 k)))) rfl hD
                    refine topE (z := (sumN (fun c => cNow F (I 4) n (nI c) (((cSd (cSeeds p1 k)) / (65536 : Int32)) - ((cSd (cSeeds p1 k)) / (65536 : Int32)) / (21 : Int32) * (21 : Int32))) 10)) rfl ?_
                    refine lv_pop hx hb dX3_years_86 rfl ?_
                    refine lv_iinc (v := (nI (k + 1))) (lv' := [(5, .int (nI (k + 1))), (4, .int (cSd (cSeeds p1 k))), (0, .ref (B 0)), (1, .int p0), (2, .int p1), (3, .int p2)]) hx hb dX3_years_87 hl (k := 5) rfl (nI_add k 1) (by decide) rfl (fun ls hl => ?_)
                    refine lv_goto (tgt := 57) hx hb dX3_years_90 (by decide) ?_
                    have hP9 : va_P D vwCl (wsB B cI cS I (va_up F 5 (cYRow F (I 4) n (rowN (F 8) (F 5) 10) p1 (k + 1)))) H := by exact hP
                    exact ih_57 (k + 1) (cSd (cSeeds p1 k)) (nI (k + 1)) rfl rfl (by omega) (by omega) H locs hP9 hS ls (lv_sub hl [2, 3, 4, 5, 1, 0] rfl)
              have hP9 : va_P D vwCl (wsB B cI cS I (va_up F 5 (cYRow F (I 4) n (rowN (F 8) (F 5) 10) p1 0))) H := by exact hP
              exact loop_57 ((ym - 0) + 1) 0 p1 (0 : Int32) rfl rfl (by omega) (by omega) H locs hP9 hS ls (lv_sub hl [2, 3, 4, 5, 1, 0] rfl)
            · have c_6 := b2_z c_6
              refine lv_bipush (v := (-103 : Int32)) hx hb dX3_years_34 (by decide) ?_
              exact retWi hx hb hr hlk hP hS dX3_years_36 (by grind [cYears]) (by exact (if_neg (by grind)).symm)
          · refine lv_bipush (v := (-102 : Int32)) hx hb dX3_years_24 (by decide) ?_
            exact retWi hx hb hr hlk hP hS dX3_years_26 (by grind [cYears]) (by exact (if_neg (by grind)).symm)
set_option maxHeartbeats 1000000 in
set_option maxRecDepth 100000 in
theorem c_X3_look (l : Launch) (D : va_G) (cI cB cS : ClassId) {B : Nat → Nat} {I : Nat → Int32} {F : Nat → Nat → Int32} {n : Nat} (hn : n ≤ 6) (h3 : I 3 = nI n) {fd : Nat} (hfd : fd ≤ 6) (h6 : I 6 = nI fd) (p0 p1 : Int32) : Met l yX3_look (Wm yX3_look cX3_look 8 (some .int)) ({ frames := 5, cells := 0, slots := 0, locals := 120 }) (va_Pc [.ref (B 0), .int p0, .int p1] (PW D (TYS cI cB cS) (wsB B cI cS I F))) (QcW D (some (.int (cLook F (I 4) n fd p0 p1))) (wsB B cI cS I F) (wsB B cI cS I (va_up F 6 (cLookF F (I 4) n fd p0 p1 (F 6))))) 0 0 (FPw (wsB B cI cS I F)) := by
  refine metW (by decide) [.ref (B 0), .int p0, .int p1] (Nat.le_of_ble_eq_true rfl) ?_
  intro p e s m args below meth c hx hb hml hr hlk hown hts hKK hP hD hS ls hl
  obtain ⟨hK, hN⟩ := id hKK
  have hl : lv_has ls 8 [(0, .ref (B 0)), (1, .int p0), (2, .int p1)] := hl
  refine lv_aload_n hx hb dX3_look_0 rfl (lv_at hl 0 rfl) ?_
  refine lv_iload_n hx hb dX3_look_1 rfl (lv_at hl 1 rfl) ?_
  refine rcVi (As := [.int p0]) (rest := []) hx hb hml hown hts hKK hP (c_X3_isStroke l D cI cB cS hn h3 p0) (cwV2 1 hts kw_266 kw_3 kw_263 kw_264 kw_265 rfl rfl (by decide +kernel) ⟨Nat.le_of_ble_eq_true rfl, Nat.le_of_ble_eq_true rfl⟩) 0 rfl rfl rfl rfl hl.1 rfl (Nat.le_of_ble_eq_true rfl) ⟨Nat.zero_le _, Nat.zero_le _⟩ dX3_look_2 ?_
  refine lv_if_ne (tgt := 11) hx hb dX3_look_5 (by decide) (fun c_1 => ?_) (fun c_1 => ?_)
  · have c_1 := b2_nz c_1
    refine lv_iload_n hx hb dX3_look_11 rfl (lv_at hl 2 rfl) ?_
    refine rcSi (As := [.int p1]) (rest := []) hx hb hml hown hts hKK hP (c_X3_isMinute l D cI cB cS p1) (cwS2 1 hts kw_376 kw_3 kw_374 kw_375 rfl rfl (by decide +kernel) ⟨Nat.le_of_ble_eq_true rfl, Nat.le_of_ble_eq_true rfl⟩) rfl hl.1 rfl (Nat.le_of_ble_eq_true rfl) ⟨Nat.zero_le _, Nat.zero_le _⟩ dX3_look_12 ?_
    refine lv_if_ne (tgt := 21) hx hb dX3_look_15 (by decide) (fun c_2 => ?_) (fun c_2 => ?_)
    · have c_2 := b2_nz c_2
      refine lv_aload_n hx hb dX3_look_21 rfl (lv_at hl 0 rfl) ?_
      refine lv_iload_n hx hb dX3_look_22 rfl (lv_at hl 1 rfl) ?_
      refine rcVi (As := [.int p0]) (rest := []) hx hb hml hown hts hKK hP (c_X3_heavy l D cI cB cS hn h3 hfd h6 p0) (cwV2 1 hts kw_274 kw_3 kw_271 kw_272 kw_273 rfl rfl (by decide +kernel) ⟨Nat.le_of_ble_eq_true rfl, Nat.le_of_ble_eq_true rfl⟩) 0 rfl rfl rfl rfl hl.1 rfl (Nat.le_of_ble_eq_true rfl) ⟨Nat.zero_le _, Nat.zero_le _⟩ dX3_look_23 ?_
      refine topE (z := (cHeavy F (I 4) n fd p0)) rfl ?_
      refine lv_istore_n (lv' := [(3, .int (cHeavy F (I 4) n fd p0)), (0, .ref (B 0)), (1, .int p0), (2, .int p1)]) hx hb dX3_look_26 rfl hl (by decide) rfl (fun ls hl => ?_)
      refine lv_iload_n hx hb dX3_look_27 rfl (lv_at hl 0 rfl) ?_
      refine lv_if_ne (tgt := 33) hx hb dX3_look_28 (by decide) (fun c_3 => ?_) (fun c_3 => ?_)
      · refine lv_iconst (v := (-1 : Int32)) hx hb dX3_look_33 (by decide) ?_
        refine lv_istore (lv' := [(4, .int (-1 : Int32)), (3, .int (cHeavy F (I 4) n fd p0)), (0, .ref (B 0)), (1, .int p0), (2, .int p1)]) hx hb dX3_look_34 hl (by decide) rfl (fun ls hl => ?_)
        refine lv_bipush (v := (10 : Int32)) hx hb dX3_look_36 (by decide) ?_
        refine lv_istore (lv' := [(5, .int (10 : Int32)), (4, .int (-1 : Int32)), (3, .int (cHeavy F (I 4) n fd p0)), (0, .ref (B 0)), (1, .int p0), (2, .int p1)]) hx hb dX3_look_38 hl (by decide) rfl (fun ls hl => ?_)
        refine lv_iconst (v := (0 : Int32)) hx hb dX3_look_40 (by decide) ?_
        refine lv_istore (lv' := [(6, .int (0 : Int32)), (5, .int (10 : Int32)), (4, .int (-1 : Int32)), (3, .int (cHeavy F (I 4) n fd p0)), (0, .ref (B 0)), (1, .int p0), (2, .int p1)]) hx hb dX3_look_41 hl (by decide) rfl (fun ls hl => ?_)
        have loop_43 : ∀ (z : Nat) (j : Nat) (x4 : Int32) (x5 : Int32) (x6 : Int32), x4 = cBest (cLkW F (I 4) n p0 p1 (cHeavy F (I 4) n fd p0)) j → x5 = cFew (cLkW F (I 4) n p0 p1 (cHeavy F (I 4) n fd p0)) j → x6 = nI j → (j ≤ 10) → 10 - j < z → ∀ (H : Heap) (locs : List Loc), va_P D vwCl (wsB B cI cS I (va_up F 6 (cScr F (I 4) n p0 p1 (F 6) j))) H → va_S (FPw (wsB B cI cS I F)) s.heap H locs → ∀ (ls : Array Slot), lv_has ls 8 [(0, .ref (B 0)), (1, .int p0), (2, .int p1), (3, .int (cHeavy F (I 4) n fd p0)), (4, .int x4), (5, .int x5), (6, .int x6)] → W p l e ({ frames := 5, cells := 0, slots := 0, locals := 120 } : Room) s m args below meth c H locs 0 0 (MQ below (QcW D (some (.int (cLook F (I 4) n fd p0 p1))) (wsB B cI cS I F) (wsB B cI cS I (va_up F 6 (cLookF F (I 4) n fd p0 p1 (F 6))))) args s 0 0 (FPw (wsB B cI cS I F))) (F0 m 43 ls []) := by
          intro z
          induction z with
          | zero =>
            intro j x4 x5 x6 ex4 ex5 ex6 hj hz
            exact absurd hz (Nat.not_lt_zero _)
          | succ z ih_43 =>
            intro j x4 x5 x6 ex4 ex5 ex6 hj hz H locs hP hS ls hl
            subst ex4
            subst ex5
            subst ex6
            have hD := va_D_addr (ws := (wsB B cI cS I F)) (ws' := (wsB B cI cS I (va_up F 6 (cScr F (I 4) n p0 p1 (F 6) j)))) rfl hD
            refine lv_iload hx hb dX3_look_43 (lv_at hl 6 rfl) ?_
            refine lv_bipush (v := (10 : Int32)) hx hb dX3_look_45 (by decide) ?_
            refine lv_icmp_ge (tgt := 82) hx hb dX3_look_47 (by decide) (fun c_4 => ?_) (fun c_4 => ?_)
            · have nc_4 : 10 ≤ j := (nI_leI (a := 10) (b := j) (by omega) (by omega)).mp c_4
              refine lv_iload hx hb dX3_look_82 (lv_at hl 4 rfl) ?_
              exact retWi hx hb hr hlk hP hS dX3_look_84 (by have hjn : j = 10 := (by omega); subst hjn; grind [cLook]) (by have hjn : j = 10 := (by omega); subst hjn; rw [cLookF, if_pos (by grind)])
            · have nc_4 : ¬ 10 ≤ j := fun h => c_4 ((nI_leI (a := 10) (b := j) (by omega) (by omega)).mpr h)
              refine lv_aload_n hx hb dX3_look_50 rfl (lv_at hl 0 rfl) ?_
              refine lv_iload hx hb dX3_look_51 (lv_at hl 6 rfl) ?_
              refine lv_iload_n hx hb dX3_look_53 rfl (lv_at hl 2 rfl) ?_
              refine lv_iload_n hx hb dX3_look_54 rfl (lv_at hl 1 rfl) ?_
              refine lv_iload_n hx hb dX3_look_55 rfl (lv_at hl 3 rfl) ?_
              refine wcVi (As := [.int (nI j), .int p1, .int p0, .int (cHeavy F (I 4) n fd p0)]) (rest := []) hx hb hml hown hts hKK hP hD hS (c_X3_leftAtWorst l D cI cB cS hn h3 (nI j) p1 p0 (cHeavy F (I 4) n fd p0)) (cwV2 4 hts kw_514 kw_3 kw_511 kw_512 kw_513 rfl rfl (by decide +kernel) ⟨Nat.le_of_ble_eq_true rfl, Nat.le_of_ble_eq_true rfl⟩) 0 rfl rfl rfl rfl hl.1 rfl (Nat.le_of_ble_eq_true rfl) ⟨Nat.zero_le _, Nat.zero_le _⟩ dX3_look_56 (fun H locs hP hS => ?_)
              have hP : va_P D vwCl (wsB B cI cS I (va_up F 6 (rowF (cByP F (I 4) n (nI j) p1 p0) (cScr F (I 4) n p0 p1 (F 6) j) 1 10))) H := hP
              have hD : va_D (FPw (wsB B cI cS I F)) (wsB B cI cS I (va_up F 6 (rowF (cByP F (I 4) n (nI j) p1 p0) (cScr F (I 4) n p0 p1 (F 6) j) 1 10))) := va_D_addr (ws := (wsB B cI cS I (va_up F 6 (cScr F (I 4) n p0 p1 (F 6) j)))) rfl hD
              refine topE (z := (cWorst (cByP F (I 4) n (nI j) p1 p0) (cHeavy F (I 4) n fd p0) 9)) rfl ?_
              refine lv_istore (lv' := [(7, .int (cWorst (cByP F (I 4) n (nI j) p1 p0) (cHeavy F (I 4) n fd p0) 9)), (0, .ref (B 0)), (1, .int p0), (2, .int p1), (3, .int (cHeavy F (I 4) n fd p0)), (4, .int (cBest (cLkW F (I 4) n p0 p1 (cHeavy F (I 4) n fd p0)) j)), (5, .int (cFew (cLkW F (I 4) n p0 p1 (cHeavy F (I 4) n fd p0)) j)), (6, .int (nI j))]) hx hb dX3_look_59 hl (by decide) rfl (fun ls hl => ?_)
              refine lv_iload hx hb dX3_look_61 (lv_at hl 0 rfl) ?_
              refine lv_iload hx hb dX3_look_63 (lv_at hl 6 rfl) ?_
              refine lv_icmp_ge (tgt := 76) hx hb dX3_look_65 (by decide) (fun c_5 => ?_) (fun c_5 => ?_)
              · refine lv_iinc (v := (nI (j + 1))) (lv' := [(6, .int (nI (j + 1))), (7, .int (cWorst (cByP F (I 4) n (nI j) p1 p0) (cHeavy F (I 4) n fd p0) 9)), (0, .ref (B 0)), (1, .int p0), (2, .int p1), (3, .int (cHeavy F (I 4) n fd p0)), (4, .int (cBest (cLkW F (I 4) n p0 p1 (cHeavy F (I 4) n fd p0)) j)), (5, .int (cFew (cLkW F (I 4) n p0 p1 (cHeavy F (I 4) n fd p0)) j))]) hx hb dX3_look_76 hl (k := 7) rfl (nI_add j 1) (by decide) rfl (fun ls hl => ?_)
                refine lv_goto (tgt := 43) hx hb dX3_look_79 (by decide) ?_
                have hP9 : va_P D vwCl (wsB B cI cS I (va_up F 6 (cScr F (I 4) n p0 p1 (F 6) (j + 1)))) H := by exact hP
                exact ih_43 (j + 1) (cBest (cLkW F (I 4) n p0 p1 (cHeavy F (I 4) n fd p0)) j) (cFew (cLkW F (I 4) n p0 p1 (cHeavy F (I 4) n fd p0)) j) (nI (j + 1)) (by grind [cBest]) (by grind [cFew]) rfl (by omega) (by omega) H locs hP9 hS ls (lv_sub hl [2, 3, 4, 5, 6, 7, 0] rfl)
              · refine lv_iload hx hb dX3_look_68 (lv_at hl 0 rfl) ?_
                refine lv_istore (lv' := [(5, .int (cWorst (cByP F (I 4) n (nI j) p1 p0) (cHeavy F (I 4) n fd p0) 9)), (7, .int (cWorst (cByP F (I 4) n (nI j) p1 p0) (cHeavy F (I 4) n fd p0) 9)), (0, .ref (B 0)), (1, .int p0), (2, .int p1), (3, .int (cHeavy F (I 4) n fd p0)), (4, .int (cBest (cLkW F (I 4) n p0 p1 (cHeavy F (I 4) n fd p0)) j)), (6, .int (nI j))]) hx hb dX3_look_70 hl (by decide) rfl (fun ls hl => ?_)
                refine lv_iload hx hb dX3_look_72 (lv_at hl 7 rfl) ?_
                refine lv_istore (lv' := [(4, .int (nI j)), (5, .int (cWorst (cByP F (I 4) n (nI j) p1 p0) (cHeavy F (I 4) n fd p0) 9)), (7, .int (cWorst (cByP F (I 4) n (nI j) p1 p0) (cHeavy F (I 4) n fd p0) 9)), (0, .ref (B 0)), (1, .int p0), (2, .int p1), (3, .int (cHeavy F (I 4) n fd p0)), (6, .int (nI j))]) hx hb dX3_look_74 hl (by decide) rfl (fun ls hl => ?_)
                refine lv_iinc (v := (nI (j + 1))) (lv' := [(6, .int (nI (j + 1))), (4, .int (nI j)), (5, .int (cWorst (cByP F (I 4) n (nI j) p1 p0) (cHeavy F (I 4) n fd p0) 9)), (7, .int (cWorst (cByP F (I 4) n (nI j) p1 p0) (cHeavy F (I 4) n fd p0) 9)), (0, .ref (B 0)), (1, .int p0), (2, .int p1), (3, .int (cHeavy F (I 4) n fd p0))]) hx hb dX3_look_76 hl (k := 7) rfl (nI_add j 1) (by decide) rfl (fun ls hl => ?_)
                refine lv_goto (tgt := 43) hx hb dX3_look_79 (by decide) ?_
                have hP9 : va_P D vwCl (wsB B cI cS I (va_up F 6 (cScr F (I 4) n p0 p1 (F 6) (j + 1)))) H := by exact hP
                exact ih_43 (j + 1) (nI j) (cWorst (cByP F (I 4) n (nI j) p1 p0) (cHeavy F (I 4) n fd p0) 9) (nI (j + 1)) (by grind [cBest]) (by grind [cFew]) rfl (by omega) (by omega) H locs hP9 hS ls (lv_sub hl [4, 5, 6, 7, 1, 2, 0] rfl)
        have hP9 : va_P D vwCl (wsB B cI cS I (va_up F 6 (cScr F (I 4) n p0 p1 (F 6) 0))) s.heap := by exact hP
        exact loop_43 ((10 - 0) + 1) 0 (-1 : Int32) (10 : Int32) (0 : Int32) rfl rfl rfl (by omega) (by omega) s.heap [] hP9 hS ls (lv_sub hl [4, 5, 6, 3, 2, 1, 0] rfl)
      · refine lv_iconst (v := (-1 : Int32)) hx hb dX3_look_31 (by decide) ?_
        exact retWi hx hb hr hlk hP hS dX3_look_32 (by grind [cLook]) (by exact wsB_6 (if_neg (by grind)))
    · have c_2 := b2_z c_2
      refine lv_bipush (v := (-102 : Int32)) hx hb dX3_look_18 (by decide) ?_
      exact retWi hx hb hr hlk hP hS dX3_look_20 (by grind [cLook]) (by exact wsB_6 (if_neg (by grind)))
  · have c_1 := b2_z c_1
    refine lv_bipush (v := (-101 : Int32)) hx hb dX3_look_8 (by decide) ?_
    exact retWi hx hb hr hlk hP hS dX3_look_10 (by grind [cLook]) (by exact wsB_6 (if_neg (by grind)))
set_option maxHeartbeats 1000000 in
set_option maxRecDepth 100000 in
theorem c_X1_addFound_a (l : Launch) (D : va_G) (cI cB cS : ClassId) {B : Nat → Nat} {I : Nat → Int32} {F : Nat → Nat → Int32} {n : Nat} (hn : n ≤ 6) (h3 : I 3 = nI n) {fd : Nat} (hfd : fd ≤ 6) (h6 : I 6 = nI fd) (hv : fd < 6) (p0 p1 p2 : Int32) : Met l yX1_addFound (Wm yX1_addFound cX1_addFound 4 (some .boolean)) ({ frames := 0, cells := 0, slots := 0, locals := 0 }) (va_Pc [.ref (B 3), .int p0, .int p1, .int p2] (PW D (TYS cI cB cS) (wsB B cI cS I F))) (QcW D (some (.int (b2 (fd < 6)))) (wsB B cI cS I F) (wsB B cI cS (upd I 6 (nI (fd + 1))) (va_up (va_up (va_up F 9 (upd (F 9) fd p0)) 10 (upd (F 10) fd p1)) 11 (upd (F 11) fd p2)))) 0 0 (FPw (wsB B cI cS I F)) := by
  refine metW (by decide) [.ref (B 3), .int p0, .int p1, .int p2] (Nat.le_of_ble_eq_true rfl) ?_
  intro p e s m args below meth c hx hb hml hr hlk hown hts hKK hP hD hS ls hl
  obtain ⟨hK, hN⟩ := id hKK
  have hl : lv_has ls 4 [(0, .ref (B 3)), (1, .int p0), (2, .int p1), (3, .int p2)] := hl
  refine lv_aload_n hx hb dX1_addFound_0 rfl (lv_at hl 0 rfl) ?_
  refine va_get (D := D) (ci := 1) (v := .int (I 6)) (C := RX1) (T := TX1) (N := 8) hx hb hts inlX1 hown hK hP 3 rfl rfl 3 (by decide) (hts _ kw_41) (fun _ h9 => h9) rfl dX1_addFound_1 ?_
  refine topE (z := (nI fd)) h6 ?_
  refine lv_if_lt (tgt := 16) hx hb dX1_addFound_4 (by decide) (fun c_1 => ?_) (fun c_1 => ?_)
  · have nc_1 : fd < 0 := (nI_ltI (a := fd) (b := 0) (by omega) (by omega)).mp c_1
    exfalso; omega
  · have nc_1 : ¬ fd < 0 := fun h => c_1 ((nI_ltI (a := fd) (b := 0) (by omega) (by omega)).mpr h)
    refine lv_aload_n hx hb dX1_addFound_7 rfl (lv_at hl 0 rfl) ?_
    refine va_get (D := D) (ci := 1) (v := .int (I 6)) (C := RX1) (T := TX1) (N := 8) hx hb hts inlX1 hown hK hP 3 rfl rfl 3 (by decide) (hts _ kw_41) (fun _ h9 => h9) rfl dX1_addFound_8 ?_
    refine topE (z := (nI fd)) h6 ?_
    refine lv_bipush (v := (6 : Int32)) hx hb dX1_addFound_11 (by decide) ?_
    refine lv_icmp_lt (tgt := 18) hx hb dX1_addFound_13 (by decide) (fun c_2 => ?_) (fun c_2 => ?_)
    · have nc_2 : fd < 6 := (nI_ltI (a := fd) (b := 6) (by omega) (by omega)).mp c_2
      refine lv_aload_n hx hb dX1_addFound_18 rfl (lv_at hl 0 rfl) ?_
      refine va_get (D := D) (ci := 1) (v := .ref (B 9)) (C := RX1) (T := TX1) (N := 8) hx hb hts inlX1 hown hK hP 3 rfl rfl 5 (by decide) (hts _ kw_43) (fun _ h9 => h9) rfl dX1_addFound_19 ?_
      refine lv_aload_n hx hb dX1_addFound_22 rfl (lv_at hl 0 rfl) ?_
      refine va_get (D := D) (ci := 1) (v := .int (I 6)) (C := RX1) (T := TX1) (N := 8) hx hb hts inlX1 hown hK hP 3 rfl rfl 3 (by decide) (hts _ kw_41) (fun _ h9 => h9) rfl dX1_addFound_23 ?_
      refine topE (z := (nI fd)) h6 ?_
      refine lv_iload_n hx hb dX1_addFound_26 rfl (lv_at hl 1 rfl) ?_
      refine va_iast (D := D) hx hb hK hP hD hS 9 0 rfl rfl (vp_in_nI (by omega) (by omega)) dX1_addFound_27 (fun H locs hP hD hS => ?_)
      rw [nI_clamp (n := fd) (by omega)] at hP hD
      have hP : va_P D vwCl (wsB B cI cS I (va_up F 9 (upd (F 9) fd p0))) H := hP
      have hD : va_D (FPw (wsB B cI cS I F)) (wsB B cI cS I (va_up F 9 (upd (F 9) fd p0))) := hD
      refine lv_aload_n hx hb dX1_addFound_28 rfl (lv_at hl 0 rfl) ?_
      refine va_get (D := D) (ci := 1) (v := .ref (B 10)) (C := RX1) (T := TX1) (N := 8) hx hb hts inlX1 hown hK hP 3 rfl rfl 6 (by decide) (hts _ kw_44) (fun _ h9 => h9) rfl dX1_addFound_29 ?_
      refine lv_aload_n hx hb dX1_addFound_32 rfl (lv_at hl 0 rfl) ?_
      refine va_get (D := D) (ci := 1) (v := .int (I 6)) (C := RX1) (T := TX1) (N := 8) hx hb hts inlX1 hown hK hP 3 rfl rfl 3 (by decide) (hts _ kw_41) (fun _ h9 => h9) rfl dX1_addFound_33 ?_
      refine topE (z := (nI fd)) h6 ?_
      refine lv_iload_n hx hb dX1_addFound_36 rfl (lv_at hl 2 rfl) ?_
      refine va_iast (D := D) hx hb hK hP hD hS 10 0 rfl rfl (vp_in_nI (by omega) (by omega)) dX1_addFound_37 (fun H locs hP hD hS => ?_)
      rw [nI_clamp (n := fd) (by omega)] at hP hD
      have hP : va_P D vwCl (wsB B cI cS I (va_up (va_up F 9 (upd (F 9) fd p0)) 10 (upd (F 10) fd p1))) H := hP
      have hD : va_D (FPw (wsB B cI cS I F)) (wsB B cI cS I (va_up (va_up F 9 (upd (F 9) fd p0)) 10 (upd (F 10) fd p1))) := hD
      refine lv_aload_n hx hb dX1_addFound_38 rfl (lv_at hl 0 rfl) ?_
      refine va_get (D := D) (ci := 1) (v := .ref (B 11)) (C := RX1) (T := TX1) (N := 8) hx hb hts inlX1 hown hK hP 3 rfl rfl 7 (by decide) (hts _ kw_45) (fun _ h9 => h9) rfl dX1_addFound_39 ?_
      refine lv_aload_n hx hb dX1_addFound_42 rfl (lv_at hl 0 rfl) ?_
      refine va_get (D := D) (ci := 1) (v := .int (I 6)) (C := RX1) (T := TX1) (N := 8) hx hb hts inlX1 hown hK hP 3 rfl rfl 3 (by decide) (hts _ kw_41) (fun _ h9 => h9) rfl dX1_addFound_43 ?_
      refine topE (z := (nI fd)) h6 ?_
      refine lv_iload_n hx hb dX1_addFound_46 rfl (lv_at hl 3 rfl) ?_
      refine va_iast (D := D) hx hb hK hP hD hS 11 0 rfl rfl (vp_in_nI (by omega) (by omega)) dX1_addFound_47 (fun H locs hP hD hS => ?_)
      rw [nI_clamp (n := fd) (by omega)] at hP hD
      have hP : va_P D vwCl (wsB B cI cS I (va_up (va_up (va_up F 9 (upd (F 9) fd p0)) 10 (upd (F 10) fd p1)) 11 (upd (F 11) fd p2))) H := hP
      have hD : va_D (FPw (wsB B cI cS I F)) (wsB B cI cS I (va_up (va_up (va_up F 9 (upd (F 9) fd p0)) 10 (upd (F 10) fd p1)) 11 (upd (F 11) fd p2))) := hD
      refine lv_aload_n hx hb dX1_addFound_48 rfl (lv_at hl 0 rfl) ?_
      refine lv_dup hx hb dX1_addFound_49 rfl ?_
      refine va_get (D := D) (ci := 1) (v := .int (I 6)) (C := RX1) (T := TX1) (N := 8) hx hb hts inlX1 hown hK hP 3 rfl rfl 3 (by decide) (hts _ kw_41) (fun _ h9 => h9) rfl dX1_addFound_50 ?_
      refine topE (z := (nI fd)) h6 ?_
      refine lv_iconst (v := (1 : Int32)) hx hb dX1_addFound_53 (by decide) ?_
      refine lv_iadd hx hb dX1_addFound_54 ?_
      refine topE (z := (nI (fd + 1))) (nI_add fd 1) ?_
      refine va_put (D := D) (ci := 1) (v := .int (nI (fd + 1))) (ty := tyX1 3) (C := RX1) (T := TX1) (N := 8) hx hb hts inlX1 tyX1 tyX1_ok nmX1 hown hK hP hD hS 3 rfl rfl 3 (by decide) (hts _ kw_41) (fun _ h9 => h9) rfl (tyX1_ok 3 (by decide)) rfl rfl (Nat.le_of_ble_eq_true rfl) dX1_addFound_55 (fun H locs hP hD hS => ?_)
      have hP : va_P D vwCl (wsB B cI cS (upd I 6 (nI (fd + 1))) (va_up (va_up (va_up F 9 (upd (F 9) fd p0)) 10 (upd (F 10) fd p1)) 11 (upd (F 11) fd p2))) H := hP
      have hD : va_D (FPw (wsB B cI cS I F)) (wsB B cI cS (upd I 6 (nI (fd + 1))) (va_up (va_up (va_up F 9 (upd (F 9) fd p0)) 10 (upd (F 10) fd p1)) 11 (upd (F 11) fd p2))) := hD
      refine lv_iconst (v := (1 : Int32)) hx hb dX1_addFound_58 (by decide) ?_
      exact retWz hx hb hr hlk hP hS dX1_addFound_59 (by grind [b2]) rfl
    · have nc_2 : ¬ fd < 6 := fun h => c_2 ((nI_ltI (a := fd) (b := 6) (by omega) (by omega)).mpr h)
      exfalso; omega
set_option maxHeartbeats 1000000 in
set_option maxRecDepth 100000 in
theorem c_X1_addFound_b (l : Launch) (D : va_G) (cI cB cS : ClassId) {B : Nat → Nat} {I : Nat → Int32} {F : Nat → Nat → Int32} {n : Nat} (hn : n ≤ 6) (h3 : I 3 = nI n) {fd : Nat} (hfd : fd ≤ 6) (h6 : I 6 = nI fd) (hv : ¬ fd < 6) (p0 p1 p2 : Int32) : Met l yX1_addFound (Wm yX1_addFound cX1_addFound 4 (some .boolean)) ({ frames := 0, cells := 0, slots := 0, locals := 0 }) (va_Pc [.ref (B 3), .int p0, .int p1, .int p2] (PW D (TYS cI cB cS) (wsB B cI cS I F))) (QcW D (some (.int (b2 (fd < 6)))) (wsB B cI cS I F) (wsB B cI cS I F)) 0 0 (FPw (wsB B cI cS I F)) := by
  refine metW (by decide) [.ref (B 3), .int p0, .int p1, .int p2] (Nat.le_of_ble_eq_true rfl) ?_
  intro p e s m args below meth c hx hb hml hr hlk hown hts hKK hP hD hS ls hl
  obtain ⟨hK, hN⟩ := id hKK
  have hl : lv_has ls 4 [(0, .ref (B 3)), (1, .int p0), (2, .int p1), (3, .int p2)] := hl
  refine lv_aload_n hx hb dX1_addFound_0 rfl (lv_at hl 0 rfl) ?_
  refine va_get (D := D) (ci := 1) (v := .int (I 6)) (C := RX1) (T := TX1) (N := 8) hx hb hts inlX1 hown hK hP 3 rfl rfl 3 (by decide) (hts _ kw_41) (fun _ h9 => h9) rfl dX1_addFound_1 ?_
  refine topE (z := (nI fd)) h6 ?_
  refine lv_if_lt (tgt := 16) hx hb dX1_addFound_4 (by decide) (fun c_1 => ?_) (fun c_1 => ?_)
  · have nc_1 : fd < 0 := (nI_ltI (a := fd) (b := 0) (by omega) (by omega)).mp c_1
    exfalso; omega
  · have nc_1 : ¬ fd < 0 := fun h => c_1 ((nI_ltI (a := fd) (b := 0) (by omega) (by omega)).mpr h)
    refine lv_aload_n hx hb dX1_addFound_7 rfl (lv_at hl 0 rfl) ?_
    refine va_get (D := D) (ci := 1) (v := .int (I 6)) (C := RX1) (T := TX1) (N := 8) hx hb hts inlX1 hown hK hP 3 rfl rfl 3 (by decide) (hts _ kw_41) (fun _ h9 => h9) rfl dX1_addFound_8 ?_
    refine topE (z := (nI fd)) h6 ?_
    refine lv_bipush (v := (6 : Int32)) hx hb dX1_addFound_11 (by decide) ?_
    refine lv_icmp_lt (tgt := 18) hx hb dX1_addFound_13 (by decide) (fun c_2 => ?_) (fun c_2 => ?_)
    · have nc_2 : fd < 6 := (nI_ltI (a := fd) (b := 6) (by omega) (by omega)).mp c_2
      exfalso; omega
    · have nc_2 : ¬ fd < 6 := fun h => c_2 ((nI_ltI (a := fd) (b := 6) (by omega) (by omega)).mpr h)
      refine lv_iconst (v := (0 : Int32)) hx hb dX1_addFound_16 (by decide) ?_
      exact retWz hx hb hr hlk hP hS dX1_addFound_17 (by grind [b2]) rfl
set_option maxHeartbeats 1000000 in
set_option maxRecDepth 100000 in
theorem c_X3_found (l : Launch) (D : va_G) (cI cB cS : ClassId) {B : Nat → Nat} {I : Nat → Int32} {F : Nat → Nat → Int32} {n : Nat} (hn : n ≤ 6) (h3 : I 3 = nI n) {fd : Nat} (hfd : fd ≤ 6) (h6 : I 6 = nI fd) (p0 p1 p2 : Int32) : Met l yX3_found (Wm yX3_found cX3_found 4 (some .int)) ({ frames := 2, cells := 0, slots := 0, locals := 41 }) (va_Pc [.ref (B 0), .int p0, .int p1, .int p2] (PW D (TYS cI cB cS) (wsB B cI cS I F))) (QcW D (some (.int (cFound n fd p0 p1 p2))) (wsB B cI cS I F) (if 0 < n ∧ okCell p0 ∧ okMin p1 ∧ okMuch p2 ∧ fd < 6 then wsB B cI cS (upd I 6 (nI (fd + 1))) (va_up (va_up (va_up F 9 (upd (F 9) fd p0)) 10 (upd (F 10) fd p1)) 11 (upd (F 11) fd p2)) else wsB B cI cS I F)) 0 0 (FPw (wsB B cI cS I F)) := by
  refine metW (by decide) [.ref (B 0), .int p0, .int p1, .int p2] (Nat.le_of_ble_eq_true rfl) ?_
  intro p e s m args below meth c hx hb hml hr hlk hown hts hKK hP hD hS ls hl
  obtain ⟨hK, hN⟩ := id hKK
  have hl : lv_has ls 4 [(0, .ref (B 0)), (1, .int p0), (2, .int p1), (3, .int p2)] := hl
  refine lv_aload_n hx hb dX3_found_0 rfl (lv_at hl 0 rfl) ?_
  refine lv_iload_n hx hb dX3_found_1 rfl (lv_at hl 1 rfl) ?_
  refine rcVi (As := [.int p0]) (rest := []) hx hb hml hown hts hKK hP (c_X3_isLand l D cI cB cS hn h3 p0) (cwV2 1 hts kw_391 kw_3 kw_388 kw_389 kw_390 rfl rfl (by decide +kernel) ⟨Nat.le_of_ble_eq_true rfl, Nat.le_of_ble_eq_true rfl⟩) 0 rfl rfl rfl rfl hl.1 rfl (Nat.le_of_ble_eq_true rfl) ⟨Nat.zero_le _, Nat.zero_le _⟩ dX3_found_2 ?_
  refine lv_if_ne (tgt := 11) hx hb dX3_found_5 (by decide) (fun c_1 => ?_) (fun c_1 => ?_)
  · have c_1 := b2_nz c_1
    refine lv_iload_n hx hb dX3_found_11 rfl (lv_at hl 2 rfl) ?_
    refine rcSi (As := [.int p1]) (rest := []) hx hb hml hown hts hKK hP (c_X3_isMinute l D cI cB cS p1) (cwS2 1 hts kw_376 kw_3 kw_374 kw_375 rfl rfl (by decide +kernel) ⟨Nat.le_of_ble_eq_true rfl, Nat.le_of_ble_eq_true rfl⟩) rfl hl.1 rfl (Nat.le_of_ble_eq_true rfl) ⟨Nat.zero_le _, Nat.zero_le _⟩ dX3_found_12 ?_
    refine lv_if_eq (tgt := 25) hx hb dX3_found_15 (by decide) (fun c_2 => ?_) (fun c_2 => ?_)
    · have c_2 := b2_z c_2
      refine lv_bipush (v := (-102 : Int32)) hx hb dX3_found_25 (by decide) ?_
      exact retWi hx hb hr hlk hP hS dX3_found_27 (by grind [cFound]) (by first | exact (if_pos (by grind)).symm | exact (if_neg (by grind)).symm)
    · have c_2 := b2_nz c_2
      refine lv_iload_n hx hb dX3_found_18 rfl (lv_at hl 3 rfl) ?_
      refine rcSi (As := [.int p2]) (rest := []) hx hb hml hown hts hKK hP (c_X3_isMuch l D cI cB cS p2) (cwS2 1 hts kw_447 kw_3 kw_445 kw_446 rfl rfl (by decide +kernel) ⟨Nat.le_of_ble_eq_true rfl, Nat.le_of_ble_eq_true rfl⟩) rfl hl.1 rfl (Nat.le_of_ble_eq_true rfl) ⟨Nat.zero_le _, Nat.zero_le _⟩ dX3_found_19 ?_
      refine lv_if_ne (tgt := 28) hx hb dX3_found_22 (by decide) (fun c_3 => ?_) (fun c_3 => ?_)
      · have c_3 := b2_nz c_3
        refine lv_aload_n hx hb dX3_found_28 rfl (lv_at hl 0 rfl) ?_
        rcases Decidable.em (fd < 6) with hf | hf
        · refine va_get (D := D) (ci := 3) (v := .ref (B 3)) (C := RX3) (T := TX3) (N := 8) hx hb hts inlX3 hown hK hP 0 rfl rfl 2 (by decide) (hts _ kw_21) (fun _ h9 => h9) rfl dX3_found_29 ?_
          refine lv_iload_n hx hb dX3_found_32 rfl (lv_at hl 1 rfl) ?_
          refine lv_iload_n hx hb dX3_found_33 rfl (lv_at hl 2 rfl) ?_
          refine lv_iload_n hx hb dX3_found_34 rfl (lv_at hl 3 rfl) ?_
          refine wcVi (As := [.int p0, .int p1, .int p2]) (rest := []) hx hb hml hown hts hKK hP hD hS (c_X1_addFound_a l D cI cB cS hn h3 hfd h6 hf p0 p1 p2) (cwV2 3 hts kw_494 kw_20 kw_491 kw_492 kw_493 rfl rfl (by decide +kernel) ⟨Nat.le_of_ble_eq_true rfl, Nat.le_of_ble_eq_true rfl⟩) 3 rfl rfl rfl rfl hl.1 rfl (Nat.le_of_ble_eq_true rfl) ⟨Nat.zero_le _, Nat.zero_le _⟩ dX3_found_35 (fun H locs hP hS => ?_)
          have hP : va_P D vwCl (wsB B cI cS (upd I 6 (nI (fd + 1))) (va_up (va_up (va_up F 9 (upd (F 9) fd p0)) 10 (upd (F 10) fd p1)) 11 (upd (F 11) fd p2))) H := hP
          have hD : va_D (FPw (wsB B cI cS I F)) (wsB B cI cS (upd I 6 (nI (fd + 1))) (va_up (va_up (va_up F 9 (upd (F 9) fd p0)) 10 (upd (F 10) fd p1)) 11 (upd (F 11) fd p2))) := va_D_addr (ws := (wsB B cI cS I F)) rfl hD
          refine lv_if_eq (tgt := 51) hx hb dX3_found_38 (by decide) (fun c_4 => ?_) (fun c_4 => ?_)
          · have c_4 := b2_z c_4
            exact absurd hf c_4
          · have c_4 := b2_nz c_4
            refine lv_aload_n hx hb dX3_found_41 rfl (lv_at hl 0 rfl) ?_
            refine va_get (D := D) (ci := 3) (v := .ref (B 3)) (C := RX3) (T := TX3) (N := 8) hx hb hts inlX3 hown hK hP 0 rfl rfl 2 (by decide) (hts _ kw_21) (fun _ h9 => h9) rfl dX3_found_42 ?_
            refine va_getN (D := D) (ci := 1) (v := .int (nI (fd + 1))) (C := RX1) (T := TX1) (N := 8) hx hb hts inlX1 hown hK hP 3 rfl rfl 3 (by decide) (nfF_4 hN) (fun _ h9 => h9) rfl dX3_found_45 ?_
            refine lv_goto (tgt := 53) hx hb dX3_found_48 (by decide) ?_
            exact retWi hx hb hr hlk hP hS dX3_found_53 (by grind [cFound]) (by first | exact (if_pos (by grind)).symm | exact (if_neg (by grind)).symm)
        · refine va_get (D := D) (ci := 3) (v := .ref (B 3)) (C := RX3) (T := TX3) (N := 8) hx hb hts inlX3 hown hK hP 0 rfl rfl 2 (by decide) (hts _ kw_21) (fun _ h9 => h9) rfl dX3_found_29 ?_
          refine lv_iload_n hx hb dX3_found_32 rfl (lv_at hl 1 rfl) ?_
          refine lv_iload_n hx hb dX3_found_33 rfl (lv_at hl 2 rfl) ?_
          refine lv_iload_n hx hb dX3_found_34 rfl (lv_at hl 3 rfl) ?_
          refine wcVi (As := [.int p0, .int p1, .int p2]) (rest := []) hx hb hml hown hts hKK hP hD hS (c_X1_addFound_b l D cI cB cS hn h3 hfd h6 hf p0 p1 p2) (cwV2 3 hts kw_494 kw_20 kw_491 kw_492 kw_493 rfl rfl (by decide +kernel) ⟨Nat.le_of_ble_eq_true rfl, Nat.le_of_ble_eq_true rfl⟩) 3 rfl rfl rfl rfl hl.1 rfl (Nat.le_of_ble_eq_true rfl) ⟨Nat.zero_le _, Nat.zero_le _⟩ dX3_found_35 (fun H locs hP hS => ?_)
          have hP : va_P D vwCl (wsB B cI cS I F) H := hP
          have hD : va_D (FPw (wsB B cI cS I F)) (wsB B cI cS I F) := va_D_addr (ws := (wsB B cI cS I F)) rfl hD
          refine lv_if_eq (tgt := 51) hx hb dX3_found_38 (by decide) (fun c_5 => ?_) (fun c_5 => ?_)
          · have c_5 := b2_z c_5
            refine lv_bipush (v := (-104 : Int32)) hx hb dX3_found_51 (by decide) ?_
            exact retWi hx hb hr hlk hP hS dX3_found_53 (by grind [cFound]) (by first | exact (if_pos (by grind)).symm | exact (if_neg (by grind)).symm)
          · have c_5 := b2_nz c_5
            exact absurd c_5 hf
      · have c_3 := b2_z c_3
        refine lv_bipush (v := (-102 : Int32)) hx hb dX3_found_25 (by decide) ?_
        exact retWi hx hb hr hlk hP hS dX3_found_27 (by grind [cFound]) (by first | exact (if_pos (by grind)).symm | exact (if_neg (by grind)).symm)
  · have c_1 := b2_z c_1
    refine lv_bipush (v := (-101 : Int32)) hx hb dX3_found_8 (by decide) ?_
    exact retWi hx hb hr hlk hP hS dX3_found_10 (by grind [cFound]) (by first | exact (if_pos (by grind)).symm | exact (if_neg (by grind)).symm)
set_option maxHeartbeats 1000000 in
set_option maxRecDepth 100000 in
theorem c_X3_blank (l : Launch) (D : va_G) (cI cB cS : ClassId) {B : Nat → Nat} {I : Nat → Int32} {F : Nat → Nat → Int32} : Met l yX3_blank (Wm yX3_blank cX3_blank 2 (some .int)) ({ frames := 0, cells := 0, slots := 0, locals := 0 }) (va_Pc [.ref (B 0)] (PW D (TYS cI cB cS) (wsB B cI cS I F))) (QcW D (some (.int (I 2))) (wsB B cI cS I F) (wsB B cI cS (upd I 2 0) F)) 0 0 (FPw (wsB B cI cS I F)) := by
  refine metW (by decide) [.ref (B 0)] (Nat.le_of_ble_eq_true rfl) ?_
  intro p e s m args below meth c hx hb hml hr hlk hown hts hKK hP hD hS ls hl
  obtain ⟨hK, hN⟩ := id hKK
  have hl : lv_has ls 2 [(0, .ref (B 0))] := hl
  refine lv_aload_n hx hb dX3_blank_0 rfl (lv_at hl 0 rfl) ?_
  refine va_get (D := D) (ci := 3) (v := .ref (B 1)) (C := RX3) (T := TX3) (N := 8) hx hb hts inlX3 hown hK hP 0 rfl rfl 0 (by decide) (hts _ kw_15) (fun _ h9 => h9) rfl dX3_blank_1 ?_
  refine va_getN (D := D) (ci := 0) (v := .int (I 2)) (C := RX0) (T := TX0) (N := 2) hx hb hts inlX0 hown hK hP 1 rfl rfl 1 (by decide) (nfF_0 hN) (fun _ h9 => h9) rfl dX3_blank_4 ?_
  refine lv_istore_n (lv' := [(1, .int (I 2)), (0, .ref (B 0))]) hx hb dX3_blank_7 rfl hl (by decide) rfl (fun ls hl => ?_)
  refine lv_aload_n hx hb dX3_blank_8 rfl (lv_at hl 1 rfl) ?_
  refine va_get (D := D) (ci := 3) (v := .ref (B 1)) (C := RX3) (T := TX3) (N := 8) hx hb hts inlX3 hown hK hP 0 rfl rfl 0 (by decide) (hts _ kw_15) (fun _ h9 => h9) rfl dX3_blank_9 ?_
  refine lv_iconst (v := (0 : Int32)) hx hb dX3_blank_12 (by decide) ?_
  refine va_putN (D := D) (ci := 0) (v := .int (0 : Int32)) (ty := tyX0 1) (C := RX0) (T := TX0) (N := 2) hx hb hts inlX0 tyX0 tyX0_ok nmX0 hown hK hP hD hS 1 rfl rfl 1 (by decide) (nfF_0 hN) (fun _ h9 => h9) rfl (tyX0_ok 1 (by decide)) rfl rfl (Nat.le_of_ble_eq_true rfl) dX3_blank_13 (fun H locs hP hD hS => ?_)
  have hP : va_P D vwCl (wsB B cI cS (upd I 2 (0 : Int32)) F) H := hP
  have hD : va_D (FPw (wsB B cI cS I F)) (wsB B cI cS (upd I 2 (0 : Int32)) F) := hD
  refine lv_iload_n hx hb dX3_blank_16 rfl (lv_at hl 0 rfl) ?_
  exact retWi hx hb hr hlk hP hS dX3_blank_17 rfl rfl
set_option maxHeartbeats 1000000 in
set_option maxRecDepth 100000 in
theorem c_X3_forget (l : Launch) (D : va_G) (cI cB cS : ClassId) {B : Nat → Nat} {I : Nat → Int32} {F : Nat → Nat → Int32} : Met l yX3_forget (Wm yX3_forget cX3_forget 2 (some .int)) ({ frames := 0, cells := 0, slots := 0, locals := 0 }) (va_Pc [.ref (B 0)] (PW D (TYS cI cB cS) (wsB B cI cS I F))) (QcW D (some (.int (I 6))) (wsB B cI cS I F) (wsB B cI cS (upd I 6 0) F)) 0 0 (FPw (wsB B cI cS I F)) := by
  refine metW (by decide) [.ref (B 0)] (Nat.le_of_ble_eq_true rfl) ?_
  intro p e s m args below meth c hx hb hml hr hlk hown hts hKK hP hD hS ls hl
  obtain ⟨hK, hN⟩ := id hKK
  have hl : lv_has ls 2 [(0, .ref (B 0))] := hl
  refine lv_aload_n hx hb dX3_forget_0 rfl (lv_at hl 0 rfl) ?_
  refine va_get (D := D) (ci := 3) (v := .ref (B 3)) (C := RX3) (T := TX3) (N := 8) hx hb hts inlX3 hown hK hP 0 rfl rfl 2 (by decide) (hts _ kw_21) (fun _ h9 => h9) rfl dX3_forget_1 ?_
  refine va_getN (D := D) (ci := 1) (v := .int (I 6)) (C := RX1) (T := TX1) (N := 8) hx hb hts inlX1 hown hK hP 3 rfl rfl 3 (by decide) (nfF_4 hN) (fun _ h9 => h9) rfl dX3_forget_4 ?_
  refine lv_istore_n (lv' := [(1, .int (I 6)), (0, .ref (B 0))]) hx hb dX3_forget_7 rfl hl (by decide) rfl (fun ls hl => ?_)
  refine lv_aload_n hx hb dX3_forget_8 rfl (lv_at hl 1 rfl) ?_
  refine va_get (D := D) (ci := 3) (v := .ref (B 3)) (C := RX3) (T := TX3) (N := 8) hx hb hts inlX3 hown hK hP 0 rfl rfl 2 (by decide) (hts _ kw_21) (fun _ h9 => h9) rfl dX3_forget_9 ?_
  refine lv_iconst (v := (0 : Int32)) hx hb dX3_forget_12 (by decide) ?_
  refine va_putN (D := D) (ci := 1) (v := .int (0 : Int32)) (ty := tyX1 3) (C := RX1) (T := TX1) (N := 8) hx hb hts inlX1 tyX1 tyX1_ok nmX1 hown hK hP hD hS 3 rfl rfl 3 (by decide) (nfF_4 hN) (fun _ h9 => h9) rfl (tyX1_ok 3 (by decide)) rfl rfl (Nat.le_of_ble_eq_true rfl) dX3_forget_13 (fun H locs hP hD hS => ?_)
  have hP : va_P D vwCl (wsB B cI cS (upd I 6 (0 : Int32)) F) H := hP
  have hD : va_D (FPw (wsB B cI cS I F)) (wsB B cI cS (upd I 6 (0 : Int32)) F) := hD
  refine lv_iload_n hx hb dX3_forget_16 rfl (lv_at hl 0 rfl) ?_
  exact retWi hx hb hr hlk hP hS dX3_forget_17 rfl rfl
set_option maxHeartbeats 1000000 in
set_option maxRecDepth 100000 in
theorem c_X3_image (l : Launch) (D : va_G) (cI cB cS : ClassId) {B : Nat → Nat} {I : Nat → Int32} {F : Nat → Nat → Int32} {n : Nat} (hn : n ≤ 6) (h3 : I 3 = nI n) : Met l yX3_image (Wm yX3_image cX3_image 1 (some .int)) ({ frames := 2, cells := 0, slots := 0, locals := 43 }) (va_Pc [.ref (B 0)] (PW D (TYS cI cB cS) (wsB B cI cS I F))) (QcW D (some (.int (if 0 < n then I 5 else -103))) (wsB B cI cS I F) (if 0 < n then wsB B cI cS (upd (upd (upd (upd (upd I 7 (I 3)) 8 (I 4)) 9 (I 5)) 10 (I 6)) 0 1) (va_up (va_up (va_up (va_up F 12 (rowN (F 8) (F 12) 10)) 13 (rowN (F 9) (F 13) 6)) 14 (rowN (F 10) (F 14) 6)) 15 (rowN (F 11) (F 15) 6)) else wsB B cI cS I F)) 0 0 (FPw (wsB B cI cS I F)) := by
  refine metW (by decide) [.ref (B 0)] (Nat.le_of_ble_eq_true rfl) ?_
  intro p e s m args below meth c hx hb hml hr hlk hown hts hKK hP hD hS ls hl
  obtain ⟨hK, hN⟩ := id hKK
  have hl : lv_has ls 1 [(0, .ref (B 0))] := hl
  refine lv_aload_n hx hb dX3_image_0 rfl (lv_at hl 0 rfl) ?_
  refine rcVi (As := []) (rest := []) hx hb hml hown hts hKK hP (c_X3_hasLeaf l D cI cB cS hn h3 ) (cwV2 0 hts kw_353 kw_3 kw_350 kw_351 kw_352 rfl rfl (by decide +kernel) ⟨Nat.le_of_ble_eq_true rfl, Nat.le_of_ble_eq_true rfl⟩) 0 rfl rfl rfl rfl hl.1 rfl (Nat.le_of_ble_eq_true rfl) ⟨Nat.zero_le _, Nat.zero_le _⟩ dX3_image_1 ?_
  refine lv_if_ne (tgt := 10) hx hb dX3_image_4 (by decide) (fun c_1 => ?_) (fun c_1 => ?_)
  · have c_1 := b2_nz c_1
    refine lv_aload_n hx hb dX3_image_10 rfl (lv_at hl 0 rfl) ?_
    refine va_get (D := D) (ci := 3) (v := .ref (B 4)) (C := RX3) (T := TX3) (N := 8) hx hb hts inlX3 hown hK hP 0 rfl rfl 3 (by decide) (hts _ kw_22) (fun _ h9 => h9) rfl dX3_image_11 ?_
    refine lv_aload_n hx hb dX3_image_14 rfl (lv_at hl 0 rfl) ?_
    refine va_get (D := D) (ci := 3) (v := .ref (B 3)) (C := RX3) (T := TX3) (N := 8) hx hb hts inlX3 hown hK hP 0 rfl rfl 2 (by decide) (hts _ kw_21) (fun _ h9 => h9) rfl dX3_image_15 ?_
    refine wcVv (As := [.ref (B 3)]) (rest := []) hx hb hml hown hts hKK hP hD hS (c_X1_copyFrom_kept l D cI cB cS ) (cwV2 1 hts kw_589 kw_20 kw_586 kw_587 kw_588 rfl rfl (by decide +kernel) ⟨Nat.le_of_ble_eq_true rfl, Nat.le_of_ble_eq_true rfl⟩) 4 rfl rfl rfl rfl hl.1 rfl (Nat.le_of_ble_eq_true rfl) ⟨Nat.zero_le _, Nat.zero_le _⟩ dX3_image_18 (fun H locs hP hS => ?_)
    have hP : va_P D vwCl (wsB B cI cS (upd (upd (upd (upd I 7 (I 3)) 8 (I 4)) 9 (I 5)) 10 (I 6)) (va_up (va_up (va_up (va_up F 12 (rowN (F 8) (F 12) 10)) 13 (rowN (F 9) (F 13) 6)) 14 (rowN (F 10) (F 14) 6)) 15 (rowN (F 11) (F 15) 6))) H := hP
    have hD : va_D (FPw (wsB B cI cS I F)) (wsB B cI cS (upd (upd (upd (upd I 7 (I 3)) 8 (I 4)) 9 (I 5)) 10 (I 6)) (va_up (va_up (va_up (va_up F 12 (rowN (F 8) (F 12) 10)) 13 (rowN (F 9) (F 13) 6)) 14 (rowN (F 10) (F 14) 6)) 15 (rowN (F 11) (F 15) 6))) := va_D_addr (ws := (wsB B cI cS I F)) rfl hD
    refine lv_aload_n hx hb dX3_image_21 rfl (lv_at hl 0 rfl) ?_
    refine lv_iconst (v := (1 : Int32)) hx hb dX3_image_22 (by decide) ?_
    refine va_put (D := D) (ci := 3) (v := .int (1 : Int32)) (ty := tyX3 4) (C := RX3) (T := TX3) (N := 8) hx hb hts inlX3 tyX3 tyX3_ok nmX3 hown hK hP hD hS 0 rfl rfl 4 (by decide) (hts _ kw_23) (fun _ h9 => h9) rfl (tyX3_ok 4 (by decide)) rfl rfl (Nat.le_of_ble_eq_true rfl) dX3_image_23 (fun H locs hP hD hS => ?_)
    have hP : va_P D vwCl (wsB B cI cS (upd (upd (upd (upd (upd I 7 (I 3)) 8 (I 4)) 9 (I 5)) 10 (I 6)) 0 (1 : Int32)) (va_up (va_up (va_up (va_up F 12 (rowN (F 8) (F 12) 10)) 13 (rowN (F 9) (F 13) 6)) 14 (rowN (F 10) (F 14) 6)) 15 (rowN (F 11) (F 15) 6))) H := hP
    have hD : va_D (FPw (wsB B cI cS I F)) (wsB B cI cS (upd (upd (upd (upd (upd I 7 (I 3)) 8 (I 4)) 9 (I 5)) 10 (I 6)) 0 (1 : Int32)) (va_up (va_up (va_up (va_up F 12 (rowN (F 8) (F 12) 10)) 13 (rowN (F 9) (F 13) 6)) 14 (rowN (F 10) (F 14) 6)) 15 (rowN (F 11) (F 15) 6))) := hD
    refine lv_aload_n hx hb dX3_image_26 rfl (lv_at hl 0 rfl) ?_
    refine va_get (D := D) (ci := 3) (v := .ref (B 3)) (C := RX3) (T := TX3) (N := 8) hx hb hts inlX3 hown hK hP 0 rfl rfl 2 (by decide) (hts _ kw_21) (fun _ h9 => h9) rfl dX3_image_27 ?_
    refine va_getN (D := D) (ci := 1) (v := .int (I 5)) (C := RX1) (T := TX1) (N := 8) hx hb hts inlX1 hown hK hP 3 rfl rfl 2 (by decide) (nfF_3 hN) (fun _ h9 => h9) rfl dX3_image_30 ?_
    exact retWi hx hb hr hlk hP hS dX3_image_33 (by first | exact (if_pos (by grind)).symm | exact (if_neg (by grind)).symm) (by first | exact (if_pos (by grind)).symm | exact (if_neg (by grind)).symm)
  · have c_1 := b2_z c_1
    refine lv_bipush (v := (-103 : Int32)) hx hb dX3_image_7 (by decide) ?_
    exact retWi hx hb hr hlk hP hS dX3_image_9 (by first | exact (if_pos (by grind)).symm | exact (if_neg (by grind)).symm) (by first | exact (if_pos (by grind)).symm | exact (if_neg (by grind)).symm)
set_option maxHeartbeats 1000000 in
set_option maxRecDepth 100000 in
theorem c_X3_restore (l : Launch) (D : va_G) (cI cB cS : ClassId) {B : Nat → Nat} {I : Nat → Int32} {F : Nat → Nat → Int32} : Met l yX3_restore (Wm yX3_restore cX3_restore 1 (some .int)) ({ frames := 2, cells := 0, slots := 0, locals := 43 }) (va_Pc [.ref (B 0)] (PW D (TYS cI cB cS) (wsB B cI cS I F))) (QcW D (some (.int (if ¬ I 0 = 0 then I 9 else -103))) (wsB B cI cS I F) (if ¬ I 0 = 0 then wsB B cI cS (upd (upd (upd (upd I 3 (I 7)) 4 (I 8)) 5 (I 9)) 6 (I 10)) (va_up (va_up (va_up (va_up F 8 (rowN (F 12) (F 8) 10)) 9 (rowN (F 13) (F 9) 6)) 10 (rowN (F 14) (F 10) 6)) 11 (rowN (F 15) (F 11) 6)) else wsB B cI cS I F)) 0 0 (FPw (wsB B cI cS I F)) := by
  refine metW (by decide) [.ref (B 0)] (Nat.le_of_ble_eq_true rfl) ?_
  intro p e s m args below meth c hx hb hml hr hlk hown hts hKK hP hD hS ls hl
  obtain ⟨hK, hN⟩ := id hKK
  have hl : lv_has ls 1 [(0, .ref (B 0))] := hl
  refine lv_aload_n hx hb dX3_restore_0 rfl (lv_at hl 0 rfl) ?_
  refine va_get (D := D) (ci := 3) (v := .int (I 0)) (C := RX3) (T := TX3) (N := 8) hx hb hts inlX3 hown hK hP 0 rfl rfl 4 (by decide) (hts _ kw_23) (fun _ h9 => h9) rfl dX3_restore_1 ?_
  refine lv_if_ne (tgt := 10) hx hb dX3_restore_4 (by decide) (fun c_1 => ?_) (fun c_1 => ?_)
  · refine lv_aload_n hx hb dX3_restore_10 rfl (lv_at hl 0 rfl) ?_
    refine va_get (D := D) (ci := 3) (v := .ref (B 3)) (C := RX3) (T := TX3) (N := 8) hx hb hts inlX3 hown hK hP 0 rfl rfl 2 (by decide) (hts _ kw_21) (fun _ h9 => h9) rfl dX3_restore_11 ?_
    refine lv_aload_n hx hb dX3_restore_14 rfl (lv_at hl 0 rfl) ?_
    refine va_get (D := D) (ci := 3) (v := .ref (B 4)) (C := RX3) (T := TX3) (N := 8) hx hb hts inlX3 hown hK hP 0 rfl rfl 3 (by decide) (hts _ kw_22) (fun _ h9 => h9) rfl dX3_restore_15 ?_
    refine wcVv (As := [.ref (B 4)]) (rest := []) hx hb hml hown hts hKK hP hD hS (c_X1_copyFrom_now l D cI cB cS ) (cwV2 1 hts kw_589 kw_20 kw_586 kw_587 kw_588 rfl rfl (by decide +kernel) ⟨Nat.le_of_ble_eq_true rfl, Nat.le_of_ble_eq_true rfl⟩) 3 rfl rfl rfl rfl hl.1 rfl (Nat.le_of_ble_eq_true rfl) ⟨Nat.zero_le _, Nat.zero_le _⟩ dX3_restore_18 (fun H locs hP hS => ?_)
    have hP : va_P D vwCl (wsB B cI cS (upd (upd (upd (upd I 3 (I 7)) 4 (I 8)) 5 (I 9)) 6 (I 10)) (va_up (va_up (va_up (va_up F 8 (rowN (F 12) (F 8) 10)) 9 (rowN (F 13) (F 9) 6)) 10 (rowN (F 14) (F 10) 6)) 11 (rowN (F 15) (F 11) 6))) H := hP
    have hD : va_D (FPw (wsB B cI cS I F)) (wsB B cI cS (upd (upd (upd (upd I 3 (I 7)) 4 (I 8)) 5 (I 9)) 6 (I 10)) (va_up (va_up (va_up (va_up F 8 (rowN (F 12) (F 8) 10)) 9 (rowN (F 13) (F 9) 6)) 10 (rowN (F 14) (F 10) 6)) 11 (rowN (F 15) (F 11) 6))) := va_D_addr (ws := (wsB B cI cS I F)) rfl hD
    refine lv_aload_n hx hb dX3_restore_21 rfl (lv_at hl 0 rfl) ?_
    refine va_get (D := D) (ci := 3) (v := .ref (B 3)) (C := RX3) (T := TX3) (N := 8) hx hb hts inlX3 hown hK hP 0 rfl rfl 2 (by decide) (hts _ kw_21) (fun _ h9 => h9) rfl dX3_restore_22 ?_
    refine va_getN (D := D) (ci := 1) (v := .int (I 9)) (C := RX1) (T := TX1) (N := 8) hx hb hts inlX1 hown hK hP 3 rfl rfl 2 (by decide) (nfF_3 hN) (fun _ h9 => h9) rfl dX3_restore_25 ?_
    exact retWi hx hb hr hlk hP hS dX3_restore_28 (by first | exact (if_pos (by grind)).symm | exact (if_neg (by grind)).symm) (by first | exact (if_pos (by grind)).symm | exact (if_neg (by grind)).symm)
  · refine lv_bipush (v := (-103 : Int32)) hx hb dX3_restore_7 (by decide) ?_
    exact retWi hx hb hr hlk hP hS dX3_restore_9 (by first | exact (if_pos (by grind)).symm | exact (if_neg (by grind)).symm) (by first | exact (if_pos (by grind)).symm | exact (if_neg (by grind)).symm)
set_option maxHeartbeats 1000000 in
set_option maxRecDepth 100000 in
theorem c_X3_count (l : Launch) (D : va_G) (cI cB cS : ClassId) {B : Nat → Nat} {I : Nat → Int32} {F : Nat → Nat → Int32} {n : Nat} (hn : n ≤ 6) (h3 : I 3 = nI n) (p0 : Int32) : Met l yX3_count (Wm yX3_count cX3_count 2 (some .int)) ({ frames := 1, cells := 0, slots := 0, locals := 22 }) (va_Pc [.ref (B 0), .int p0] (PR D (TYS cI cB cS) (wsB B cI cS I F))) (QcV (some (.int (cCount I (F 8) n p0)))) 0 0 (fun _ => False) := by
  refine metR (by decide) [.ref (B 0), .int p0] (Nat.le_of_ble_eq_true rfl) ?_
  intro p e s m args below meth c hx hb hml hr hlk hown hts hKK hP ls hl
  obtain ⟨hK, hN⟩ := id hKK
  have hl : lv_has ls 2 [(0, .ref (B 0)), (1, .int p0)] := hl
  refine lv_iload_n hx hb dX3_count_0 rfl (lv_at hl 1 rfl) ?_
  by_cases e_1 : p0 = (0 : Int32)
  · refine topE e_1 ?_
    refine lv_tableIn (off := 47) (tgt := 48) hx hb dX3_count_1 (by decide) (by decide) rfl (by decide) ?_
    refine lv_aload_n hx hb dX3_count_48 rfl (lv_at hl 0 rfl) ?_
    refine va_get (D := D) (ci := 3) (v := .ref (B 3)) (C := RX3) (T := TX3) (N := 8) hx hb hts inlX3 hown hK hP 0 rfl rfl 2 (by decide) (hts _ kw_21) (fun _ h9 => h9) rfl dX3_count_49 ?_
    refine va_getN (D := D) (ci := 1) (v := .int (I 3)) (C := RX1) (T := TX1) (N := 8) hx hb hts inlX1 hown hK hP 3 rfl rfl 0 (by decide) (nfF_1 hN) (fun _ h9 => h9) rfl dX3_count_52 ?_
    refine topE (z := (nI n)) h3 ?_
    exact retRi hx hb hr hlk dX3_count_55 (by grind [cCount])
  by_cases e_2 : p0 = (1 : Int32)
  · refine topE e_2 ?_
    refine lv_tableIn (off := 55) (tgt := 56) hx hb dX3_count_1 (by decide) (by decide) rfl (by decide) ?_
    refine lv_aload_n hx hb dX3_count_56 rfl (lv_at hl 0 rfl) ?_
    refine va_get (D := D) (ci := 3) (v := .ref (B 3)) (C := RX3) (T := TX3) (N := 8) hx hb hts inlX3 hown hK hP 0 rfl rfl 2 (by decide) (hts _ kw_21) (fun _ h9 => h9) rfl dX3_count_57 ?_
    refine va_getN (D := D) (ci := 1) (v := .int (I 4)) (C := RX1) (T := TX1) (N := 8) hx hb hts inlX1 hown hK hP 3 rfl rfl 1 (by decide) (nfF_2 hN) (fun _ h9 => h9) rfl dX3_count_60 ?_
    refine rcSi (As := [.int (I 4)]) (rest := []) hx hb hml hown hts hKK hP (c_J6_bitCount_0f7a4 l D cI cB cS (I 4)) (cwS2 1 hts kw_468 kw_467 kw_465 kw_466 rfl rfl (by decide +kernel) ⟨Nat.le_of_ble_eq_true rfl, Nat.le_of_ble_eq_true rfl⟩) rfl hl.1 rfl (Nat.le_of_ble_eq_true rfl) ⟨Nat.zero_le _, Nat.zero_le _⟩ dX3_count_63 ?_
    exact retRi hx hb hr hlk dX3_count_66 (by grind [cCount])
  by_cases e_3 : p0 = (2 : Int32)
  · refine topE e_3 ?_
    refine lv_tableIn (off := 66) (tgt := 67) hx hb dX3_count_1 (by decide) (by decide) rfl (by decide) ?_
    refine lv_aload_n hx hb dX3_count_67 rfl (lv_at hl 0 rfl) ?_
    refine va_get (D := D) (ci := 3) (v := .ref (B 3)) (C := RX3) (T := TX3) (N := 8) hx hb hts inlX3 hown hK hP 0 rfl rfl 2 (by decide) (hts _ kw_21) (fun _ h9 => h9) rfl dX3_count_68 ?_
    refine va_getN (D := D) (ci := 1) (v := .int (I 5)) (C := RX1) (T := TX1) (N := 8) hx hb hts inlX1 hown hK hP 3 rfl rfl 2 (by decide) (nfF_3 hN) (fun _ h9 => h9) rfl dX3_count_71 ?_
    exact retRi hx hb hr hlk dX3_count_74 (by grind [cCount])
  by_cases e_4 : p0 = (3 : Int32)
  · refine topE e_4 ?_
    refine lv_tableIn (off := 74) (tgt := 75) hx hb dX3_count_1 (by decide) (by decide) rfl (by decide) ?_
    refine lv_aload_n hx hb dX3_count_75 rfl (lv_at hl 0 rfl) ?_
    refine va_get (D := D) (ci := 3) (v := .ref (B 3)) (C := RX3) (T := TX3) (N := 8) hx hb hts inlX3 hown hK hP 0 rfl rfl 2 (by decide) (hts _ kw_21) (fun _ h9 => h9) rfl dX3_count_76 ?_
    refine va_getN (D := D) (ci := 1) (v := .ref (B 8)) (C := RX1) (T := TX1) (N := 8) hx hb hts inlX1 hown hK hP 3 rfl rfl 4 (by decide) (nfF_5 hN) (fun _ h9 => h9) rfl dX3_count_79 ?_
    refine rcSi (As := [.ref (B 8)]) (rest := []) hx hb hml hown hts hKK hP (c_X3_inkIn_8 l D cI cB cS ) (cwS2 1 hts kw_553 kw_3 kw_551 kw_552 rfl rfl (by decide +kernel) ⟨Nat.le_of_ble_eq_true rfl, Nat.le_of_ble_eq_true rfl⟩) rfl hl.1 rfl (Nat.le_of_ble_eq_true rfl) ⟨Nat.zero_le _, Nat.zero_le _⟩ dX3_count_82 ?_
    refine topE (z := (sumN (F 8) 10)) rfl ?_
    exact retRi hx hb hr hlk dX3_count_85 (by grind [cCount])
  by_cases e_5 : p0 = (4 : Int32)
  · refine topE e_5 ?_
    refine lv_tableIn (off := 85) (tgt := 86) hx hb dX3_count_1 (by decide) (by decide) rfl (by decide) ?_
    refine lv_aload_n hx hb dX3_count_86 rfl (lv_at hl 0 rfl) ?_
    refine rcVi (As := []) (rest := []) hx hb hml hown hts hKK hP (c_X3_hasLeaf l D cI cB cS hn h3 ) (cwV2 0 hts kw_353 kw_3 kw_350 kw_351 kw_352 rfl rfl (by decide +kernel) ⟨Nat.le_of_ble_eq_true rfl, Nat.le_of_ble_eq_true rfl⟩) 0 rfl rfl rfl rfl hl.1 rfl (Nat.le_of_ble_eq_true rfl) ⟨Nat.zero_le _, Nat.zero_le _⟩ dX3_count_87 ?_
    refine lv_if_eq (tgt := 106) hx hb dX3_count_90 (by decide) (fun c_6 => ?_) (fun c_6 => ?_)
    · have c_6 := b2_z c_6
      refine lv_iconst (v := (0 : Int32)) hx hb dX3_count_106 (by decide) ?_
      exact retRi hx hb hr hlk dX3_count_107 (by grind [cCount])
    · have c_6 := b2_nz c_6
      refine lv_aload_n hx hb dX3_count_93 rfl (lv_at hl 0 rfl) ?_
      refine va_get (D := D) (ci := 3) (v := .ref (B 3)) (C := RX3) (T := TX3) (N := 8) hx hb hts inlX3 hown hK hP 0 rfl rfl 2 (by decide) (hts _ kw_21) (fun _ h9 => h9) rfl dX3_count_94 ?_
      refine va_getN (D := D) (ci := 1) (v := .ref (B 8)) (C := RX1) (T := TX1) (N := 8) hx hb hts inlX1 hown hK hP 3 rfl rfl 4 (by decide) (nfF_5 hN) (fun _ h9 => h9) rfl dX3_count_97 ?_
      refine rcSi (As := [.ref (B 8)]) (rest := []) hx hb hml hown hts hKK hP (c_X3_dryIn_8 l D cI cB cS ) (cwS2 1 hts kw_556 kw_3 kw_554 kw_555 rfl rfl (by decide +kernel) ⟨Nat.le_of_ble_eq_true rfl, Nat.le_of_ble_eq_true rfl⟩) rfl hl.1 rfl (Nat.le_of_ble_eq_true rfl) ⟨Nat.zero_le _, Nat.zero_le _⟩ dX3_count_100 ?_
      refine topE (z := (dryN (F 8) 10)) rfl ?_
      refine lv_goto (tgt := 107) hx hb dX3_count_103 (by decide) ?_
      exact retRi hx hb hr hlk dX3_count_107 (by grind [cCount])
  by_cases e_7 : p0 = (5 : Int32)
  · refine topE e_7 ?_
    refine lv_tableIn (off := 107) (tgt := 108) hx hb dX3_count_1 (by decide) (by decide) rfl (by decide) ?_
    refine lv_aload_n hx hb dX3_count_108 rfl (lv_at hl 0 rfl) ?_
    refine va_get (D := D) (ci := 3) (v := .ref (B 3)) (C := RX3) (T := TX3) (N := 8) hx hb hts inlX3 hown hK hP 0 rfl rfl 2 (by decide) (hts _ kw_21) (fun _ h9 => h9) rfl dX3_count_109 ?_
    refine va_getN (D := D) (ci := 1) (v := .int (I 6)) (C := RX1) (T := TX1) (N := 8) hx hb hts inlX1 hown hK hP 3 rfl rfl 3 (by decide) (nfF_4 hN) (fun _ h9 => h9) rfl dX3_count_112 ?_
    exact retRi hx hb hr hlk dX3_count_115 (by grind [cCount])
  by_cases e_8 : p0 = (6 : Int32)
  · refine topE e_8 ?_
    refine lv_tableIn (off := 115) (tgt := 116) hx hb dX3_count_1 (by decide) (by decide) rfl (by decide) ?_
    refine lv_aload_n hx hb dX3_count_116 rfl (lv_at hl 0 rfl) ?_
    refine va_get (D := D) (ci := 3) (v := .ref (B 1)) (C := RX3) (T := TX3) (N := 8) hx hb hts inlX3 hown hK hP 0 rfl rfl 0 (by decide) (hts _ kw_15) (fun _ h9 => h9) rfl dX3_count_117 ?_
    refine va_getN (D := D) (ci := 0) (v := .int (I 2)) (C := RX0) (T := TX0) (N := 2) hx hb hts inlX0 hown hK hP 1 rfl rfl 1 (by decide) (nfF_0 hN) (fun _ h9 => h9) rfl dX3_count_120 ?_
    exact retRi hx hb hr hlk dX3_count_123 (by grind [cCount])
  by_cases e_9 : p0 = (7 : Int32)
  · refine topE e_9 ?_
    refine lv_tableIn (off := 123) (tgt := 124) hx hb dX3_count_1 (by decide) (by decide) rfl (by decide) ?_
    refine lv_aload_n hx hb dX3_count_124 rfl (lv_at hl 0 rfl) ?_
    refine va_get (D := D) (ci := 3) (v := .int (I 1)) (C := RX3) (T := TX3) (N := 8) hx hb hts inlX3 hown hK hP 0 rfl rfl 5 (by decide) (hts _ kw_24) (fun _ h9 => h9) rfl dX3_count_125 ?_
    exact retRi hx hb hr hlk dX3_count_128 (by grind [cCount])
  have t_10 := lv_neT e_1 (a := 0) rfl
  have t_11 := lv_neT e_2 (a := 1) rfl
  have t_12 := lv_neT e_3 (a := 2) rfl
  have t_13 := lv_neT e_4 (a := 3) rfl
  have t_14 := lv_neT e_5 (a := 4) rfl
  have t_15 := lv_neT e_7 (a := 5) rfl
  have t_16 := lv_neT e_8 (a := 6) rfl
  have t_17 := lv_neT e_9 (a := 7) rfl
  refine lv_tableOut (tgt := 129) hx hb dX3_count_1 (by omega) (by decide) ?_
  refine lv_bipush (v := (-102 : Int32)) hx hb dX3_count_129 (by decide) ?_
  exact retRi hx hb hr hlk dX3_count_131 (by grind [cCount])
set_option maxHeartbeats 1000000 in
set_option maxRecDepth 100000 in
theorem c_X3_mixed (l : Launch) (D : va_G) (cI cB cS : ClassId) {ws : va_W} (p0 p1 : Int64) : Met l yX3_mixed (Wm yX3_mixed cX3_mixed 4 (some .long)) ({ frames := 0, cells := 0, slots := 0, locals := 0 }) (va_Pc [.long p0, .long p1] (PR D (TYS cI cB cS) ws)) (QcV (some (.long ((31 : Int64) * p0 + p1)))) 0 0 (fun _ => False) := by
  refine metR (by decide) [.long p0, .long p1] (Nat.le_of_ble_eq_true rfl) ?_
  intro p e s m args below meth c hx hb hml hr hlk hown hts hKK hP ls hl
  obtain ⟨hK, hN⟩ := id hKK
  have hl : lv_has ls 4 [(0, .long p0), (2, .long p1)] := hl
  refine lv_ldc2 (v := (31 : Int64)) hx hb hown (hts _ kw_629) dX3_mixed_0 ?_
  refine lv_lload_n hx hb dX3_mixed_3 rfl (lv_at hl 0 rfl) ?_
  refine lv_lmul hx hb dX3_mixed_4 ?_
  refine lv_lload_n hx hb dX3_mixed_5 rfl (lv_at hl 1 rfl) ?_
  refine lv_ladd hx hb dX3_mixed_6 ?_
  exact retRl hx hb hr hlk dX3_mixed_7 rfl
set_option maxHeartbeats 1000000 in
set_option maxRecDepth 100000 in
theorem c_X3_withLand (l : Launch) (D : va_G) (cI cB cS : ClassId) {B : Nat → Nat} {I : Nat → Int32} {F : Nat → Nat → Int32} {n : Nat} (hn : n ≤ 6) (h3 : I 3 = nI n) (p0 : Int64) : Met l yX3_withLand (Wm yX3_withLand cX3_withLand 6 (some .long)) ({ frames := 5, cells := 0, slots := 0, locals := 118 }) (va_Pc [.ref (B 0), .long p0] (PR D (TYS cI cB cS) (wsB B cI cS I F))) (QcV (some (.long (cLand F (I 4) n p0)))) 0 0 (fun _ => False) := by
  refine metR (by decide) [.ref (B 0), .long p0] (Nat.le_of_ble_eq_true rfl) ?_
  intro p e s m args below meth c hx hb hml hr hlk hown hts hKK hP ls hl
  obtain ⟨hK, hN⟩ := id hKK
  have hl : lv_has ls 6 [(0, .ref (B 0)), (1, .long p0)] := hl
  refine lv_lload_n hx hb dX3_withLand_0 rfl (lv_at hl 1 rfl) ?_
  refine lv_lstore_n (lv' := [(3, .long p0), (0, .ref (B 0)), (1, .long p0)]) hx hb dX3_withLand_1 rfl hl (by decide) rfl (fun ls hl => ?_)
  refine lv_iconst (v := (0 : Int32)) hx hb dX3_withLand_2 (by decide) ?_
  refine lv_istore (lv' := [(5, .int (0 : Int32)), (3, .long p0), (0, .ref (B 0)), (1, .long p0)]) hx hb dX3_withLand_3 hl (by decide) rfl (fun ls hl => ?_)
  have loop_5 : ∀ (z : Nat) (k : Nat) (x3 : Int64) (x5 : Int32), x3 = mix2 (fun c => cInk (F 8) n (nI c)) (fun c => cComesS F (I 4) n (nI c) 4) p0 k → x5 = nI k → (k ≤ 10) → 10 - k < z → ∀ (ls : Array Slot), lv_has ls 6 [(0, .ref (B 0)), (1, .long p0), (3, .long x3), (5, .int x5)] → W p l e ({ frames := 5, cells := 0, slots := 0, locals := 118 } : Room) s m args below meth c s.heap [] 0 0 (MQ below (QcV (some (.long (cLand F (I 4) n p0)))) args s 0 0 (fun _ => False)) (F0 m 5 ls []) := by
    intro z
    induction z with
    | zero =>
      intro k x3 x5 ex3 ex5 hk hz
      exact absurd hz (Nat.not_lt_zero _)
    | succ z ih_5 =>
      intro k x3 x5 ex3 ex5 hk hz ls hl
      subst ex3
      subst ex5
      refine lv_iload hx hb dX3_withLand_5 (lv_at hl 3 rfl) ?_
      refine lv_bipush (v := (10 : Int32)) hx hb dX3_withLand_7 (by decide) ?_
      refine lv_icmp_ge (tgt := 43) hx hb dX3_withLand_9 (by decide) (fun c_1 => ?_) (fun c_1 => ?_)
      · have nc_1 : 10 ≤ k := (nI_leI (a := 10) (b := k) (by omega) (by omega)).mp c_1
        refine lv_lload_n hx hb dX3_withLand_43 rfl (lv_at hl 2 rfl) ?_
        refine lv_aload_n hx hb dX3_withLand_44 rfl (lv_at hl 0 rfl) ?_
        refine lv_iconst (v := (5 : Int32)) hx hb dX3_withLand_45 (by decide) ?_
        refine rcVi (As := [.int (5 : Int32)]) (rest := [.long (mix2 (fun c => cInk (F 8) n (nI c)) (fun c => cComesS F (I 4) n (nI c) 4) p0 k)]) hx hb hml hown hts hKK hP (c_X3_hills l D cI cB cS hn h3 (5 : Int32)) (cwV2 1 hts kw_432 kw_3 kw_637 kw_430 kw_431 rfl rfl (by decide +kernel) ⟨Nat.le_of_ble_eq_true rfl, Nat.le_of_ble_eq_true rfl⟩) 0 rfl rfl rfl rfl hl.1 rfl (Nat.le_of_ble_eq_true rfl) ⟨Nat.zero_le _, Nat.zero_le _⟩ dX3_withLand_46 ?_
        refine topE (z := (cHills (F 8) n (5 : Int32))) rfl ?_
        refine lv_i2l (v := ((cHills (F 8) n (5 : Int32)).toInt64)) hx hb dX3_withLand_49 rfl ?_
        refine rcSl (As := [.long (mix2 (fun c => cInk (F 8) n (nI c)) (fun c => cComesS F (I 4) n (nI c) 4) p0 k), .long ((cHills (F 8) n (5 : Int32)).toInt64)]) (rest := []) hx hb hml hown hts hKK hP (c_X3_mixed l D cI cB cS (mix2 (fun c => cInk (F 8) n (nI c)) (fun c => cComesS F (I 4) n (nI c) 4) p0 k) ((cHills (F 8) n (5 : Int32)).toInt64)) (cwS2 2 hts kw_628 kw_3 kw_626 kw_627 rfl rfl (by decide +kernel) ⟨Nat.le_of_ble_eq_true rfl, Nat.le_of_ble_eq_true rfl⟩) rfl hl.1 rfl (Nat.le_of_ble_eq_true rfl) ⟨Nat.zero_le _, Nat.zero_le _⟩ dX3_withLand_50 ?_
        refine topL (z := (mx (mix2 (fun c => cInk (F 8) n (nI c)) (fun c => cComesS F (I 4) n (nI c) 4) p0 k) (cHills (F 8) n (5 : Int32)))) rfl ?_
        refine lv_lstore_n (lv' := [(3, .long (mx (mix2 (fun c => cInk (F 8) n (nI c)) (fun c => cComesS F (I 4) n (nI c) 4) p0 k) (cHills (F 8) n (5 : Int32)))), (0, .ref (B 0)), (1, .long p0), (5, .int (nI k))]) hx hb dX3_withLand_53 rfl hl (by decide) rfl (fun ls hl => ?_)
        refine lv_lload_n hx hb dX3_withLand_54 rfl (lv_at hl 0 rfl) ?_
        refine lv_aload_n hx hb dX3_withLand_55 rfl (lv_at hl 1 rfl) ?_
        refine lv_iconst (v := (4 : Int32)) hx hb dX3_withLand_56 (by decide) ?_
        refine lv_sipush (v := (1023 : Int32)) hx hb dX3_withLand_57 (by decide) ?_
        refine lv_iconst (v := (0 : Int32)) hx hb dX3_withLand_60 (by decide) ?_
        refine rcVi (As := [.int (4 : Int32), .int (1023 : Int32), .int (0 : Int32)]) (rest := [.long (mx (mix2 (fun c => cInk (F 8) n (nI c)) (fun c => cComesS F (I 4) n (nI c) 4) p0 k) (cHills (F 8) n (5 : Int32)))]) hx hb hml hown hts hKK hP (c_X3_toSand l D cI cB cS hn h3 (4 : Int32) (1023 : Int32) (0 : Int32)) (cwV2 3 hts kw_459 kw_3 kw_638 kw_457 kw_458 rfl rfl (by decide +kernel) ⟨Nat.le_of_ble_eq_true rfl, Nat.le_of_ble_eq_true rfl⟩) 0 rfl rfl rfl rfl hl.1 rfl (Nat.le_of_ble_eq_true rfl) ⟨Nat.zero_le _, Nat.zero_le _⟩ dX3_withLand_61 ?_
        refine topE (z := (cToSand F (I 4) n (4 : Int32) (1023 : Int32) (0 : Int32))) rfl ?_
        refine lv_i2l (v := ((cToSand F (I 4) n (4 : Int32) (1023 : Int32) (0 : Int32)).toInt64)) hx hb dX3_withLand_64 rfl ?_
        refine rcSl (As := [.long (mx (mix2 (fun c => cInk (F 8) n (nI c)) (fun c => cComesS F (I 4) n (nI c) 4) p0 k) (cHills (F 8) n (5 : Int32))), .long ((cToSand F (I 4) n (4 : Int32) (1023 : Int32) (0 : Int32)).toInt64)]) (rest := []) hx hb hml hown hts hKK hP (c_X3_mixed l D cI cB cS (mx (mix2 (fun c => cInk (F 8) n (nI c)) (fun c => cComesS F (I 4) n (nI c) 4) p0 k) (cHills (F 8) n (5 : Int32))) ((cToSand F (I 4) n (4 : Int32) (1023 : Int32) (0 : Int32)).toInt64)) (cwS2 2 hts kw_628 kw_3 kw_626 kw_627 rfl rfl (by decide +kernel) ⟨Nat.le_of_ble_eq_true rfl, Nat.le_of_ble_eq_true rfl⟩) rfl hl.1 rfl (Nat.le_of_ble_eq_true rfl) ⟨Nat.zero_le _, Nat.zero_le _⟩ dX3_withLand_65 ?_
        refine topL (z := (mx (mx (mix2 (fun c => cInk (F 8) n (nI c)) (fun c => cComesS F (I 4) n (nI c) 4) p0 k) (cHills (F 8) n (5 : Int32))) (cToSand F (I 4) n (4 : Int32) (1023 : Int32) (0 : Int32)))) rfl ?_
        refine lv_lstore_n (lv' := [(3, .long (mx (mx (mix2 (fun c => cInk (F 8) n (nI c)) (fun c => cComesS F (I 4) n (nI c) 4) p0 k) (cHills (F 8) n (5 : Int32))) (cToSand F (I 4) n (4 : Int32) (1023 : Int32) (0 : Int32)))), (0, .ref (B 0)), (1, .long p0), (5, .int (nI k))]) hx hb dX3_withLand_68 rfl hl (by decide) rfl (fun ls hl => ?_)
        refine lv_lload_n hx hb dX3_withLand_69 rfl (lv_at hl 0 rfl) ?_
        refine lv_aload_n hx hb dX3_withLand_70 rfl (lv_at hl 1 rfl) ?_
        refine lv_iconst (v := (4 : Int32)) hx hb dX3_withLand_71 (by decide) ?_
        refine lv_sipush (v := (1023 : Int32)) hx hb dX3_withLand_72 (by decide) ?_
        refine lv_iconst (v := (1 : Int32)) hx hb dX3_withLand_75 (by decide) ?_
        refine rcVi (As := [.int (4 : Int32), .int (1023 : Int32), .int (1 : Int32)]) (rest := [.long (mx (mx (mix2 (fun c => cInk (F 8) n (nI c)) (fun c => cComesS F (I 4) n (nI c) 4) p0 k) (cHills (F 8) n (5 : Int32))) (cToSand F (I 4) n (4 : Int32) (1023 : Int32) (0 : Int32)))]) hx hb hml hown hts hKK hP (c_X3_toSand l D cI cB cS hn h3 (4 : Int32) (1023 : Int32) (1 : Int32)) (cwV2 3 hts kw_459 kw_3 kw_638 kw_457 kw_458 rfl rfl (by decide +kernel) ⟨Nat.le_of_ble_eq_true rfl, Nat.le_of_ble_eq_true rfl⟩) 0 rfl rfl rfl rfl hl.1 rfl (Nat.le_of_ble_eq_true rfl) ⟨Nat.zero_le _, Nat.zero_le _⟩ dX3_withLand_76 ?_
        refine topE (z := (cToSand F (I 4) n (4 : Int32) (1023 : Int32) (1 : Int32))) rfl ?_
        refine lv_i2l (v := ((cToSand F (I 4) n (4 : Int32) (1023 : Int32) (1 : Int32)).toInt64)) hx hb dX3_withLand_79 rfl ?_
        refine rcSl (As := [.long (mx (mx (mix2 (fun c => cInk (F 8) n (nI c)) (fun c => cComesS F (I 4) n (nI c) 4) p0 k) (cHills (F 8) n (5 : Int32))) (cToSand F (I 4) n (4 : Int32) (1023 : Int32) (0 : Int32))), .long ((cToSand F (I 4) n (4 : Int32) (1023 : Int32) (1 : Int32)).toInt64)]) (rest := []) hx hb hml hown hts hKK hP (c_X3_mixed l D cI cB cS (mx (mx (mix2 (fun c => cInk (F 8) n (nI c)) (fun c => cComesS F (I 4) n (nI c) 4) p0 k) (cHills (F 8) n (5 : Int32))) (cToSand F (I 4) n (4 : Int32) (1023 : Int32) (0 : Int32))) ((cToSand F (I 4) n (4 : Int32) (1023 : Int32) (1 : Int32)).toInt64)) (cwS2 2 hts kw_628 kw_3 kw_626 kw_627 rfl rfl (by decide +kernel) ⟨Nat.le_of_ble_eq_true rfl, Nat.le_of_ble_eq_true rfl⟩) rfl hl.1 rfl (Nat.le_of_ble_eq_true rfl) ⟨Nat.zero_le _, Nat.zero_le _⟩ dX3_withLand_80 ?_
        refine topL (z := (mx (mx (mx (mix2 (fun c => cInk (F 8) n (nI c)) (fun c => cComesS F (I 4) n (nI c) 4) p0 k) (cHills (F 8) n (5 : Int32))) (cToSand F (I 4) n (4 : Int32) (1023 : Int32) (0 : Int32))) (cToSand F (I 4) n (4 : Int32) (1023 : Int32) (1 : Int32)))) rfl ?_
        exact retRl hx hb hr hlk dX3_withLand_83 (by have hkn : k = 10 := (by omega); subst hkn; rfl)
      · have nc_1 : ¬ 10 ≤ k := fun h => c_1 ((nI_leI (a := 10) (b := k) (by omega) (by omega)).mpr h)
        refine lv_lload_n hx hb dX3_withLand_12 rfl (lv_at hl 2 rfl) ?_
        refine lv_aload_n hx hb dX3_withLand_13 rfl (lv_at hl 0 rfl) ?_
        refine lv_iload hx hb dX3_withLand_14 (lv_at hl 3 rfl) ?_
        refine rcVi (As := [.int (nI k)]) (rest := [.long (mix2 (fun c => cInk (F 8) n (nI c)) (fun c => cComesS F (I 4) n (nI c) 4) p0 k)]) hx hb hml hown hts hKK hP (c_X3_ink l D cI cB cS hn h3 (nI k)) (cwV2 1 hts kw_387 kw_3 kw_635 kw_385 kw_386 rfl rfl (by decide +kernel) ⟨Nat.le_of_ble_eq_true rfl, Nat.le_of_ble_eq_true rfl⟩) 0 rfl rfl rfl rfl hl.1 rfl (Nat.le_of_ble_eq_true rfl) ⟨Nat.zero_le _, Nat.zero_le _⟩ dX3_withLand_16 ?_
        refine topE (z := (cInk (F 8) n (nI k))) rfl ?_
        refine lv_i2l (v := ((cInk (F 8) n (nI k)).toInt64)) hx hb dX3_withLand_19 rfl ?_
        refine rcSl (As := [.long (mix2 (fun c => cInk (F 8) n (nI c)) (fun c => cComesS F (I 4) n (nI c) 4) p0 k), .long ((cInk (F 8) n (nI k)).toInt64)]) (rest := []) hx hb hml hown hts hKK hP (c_X3_mixed l D cI cB cS (mix2 (fun c => cInk (F 8) n (nI c)) (fun c => cComesS F (I 4) n (nI c) 4) p0 k) ((cInk (F 8) n (nI k)).toInt64)) (cwS2 2 hts kw_628 kw_3 kw_626 kw_627 rfl rfl (by decide +kernel) ⟨Nat.le_of_ble_eq_true rfl, Nat.le_of_ble_eq_true rfl⟩) rfl hl.1 rfl (Nat.le_of_ble_eq_true rfl) ⟨Nat.zero_le _, Nat.zero_le _⟩ dX3_withLand_20 ?_
        refine topL (z := (mx (mix2 (fun c => cInk (F 8) n (nI c)) (fun c => cComesS F (I 4) n (nI c) 4) p0 k) (cInk (F 8) n (nI k)))) rfl ?_
        refine lv_lstore_n (lv' := [(3, .long (mx (mix2 (fun c => cInk (F 8) n (nI c)) (fun c => cComesS F (I 4) n (nI c) 4) p0 k) (cInk (F 8) n (nI k)))), (0, .ref (B 0)), (1, .long p0), (5, .int (nI k))]) hx hb dX3_withLand_23 rfl hl (by decide) rfl (fun ls hl => ?_)
        refine lv_lload_n hx hb dX3_withLand_24 rfl (lv_at hl 0 rfl) ?_
        refine lv_aload_n hx hb dX3_withLand_25 rfl (lv_at hl 1 rfl) ?_
        refine lv_iload hx hb dX3_withLand_26 (lv_at hl 3 rfl) ?_
        refine lv_iconst (v := (4 : Int32)) hx hb dX3_withLand_28 (by decide) ?_
        refine rcVi (As := [.int (nI k), .int (4 : Int32)]) (rest := [.long (mx (mix2 (fun c => cInk (F 8) n (nI c)) (fun c => cComesS F (I 4) n (nI c) 4) p0 k) (cInk (F 8) n (nI k)))]) hx hb hml hown hts hKK hP (c_X3_comes l D cI cB cS hn h3 (nI k) (4 : Int32)) (cwV2 2 hts kw_403 kw_3 kw_636 kw_401 kw_402 rfl rfl (by decide +kernel) ⟨Nat.le_of_ble_eq_true rfl, Nat.le_of_ble_eq_true rfl⟩) 0 rfl rfl rfl rfl hl.1 rfl (Nat.le_of_ble_eq_true rfl) ⟨Nat.zero_le _, Nat.zero_le _⟩ dX3_withLand_29 ?_
        refine topE (z := (cComesS F (I 4) n (nI k) (4 : Int32))) rfl ?_
        refine lv_i2l (v := ((cComesS F (I 4) n (nI k) (4 : Int32)).toInt64)) hx hb dX3_withLand_32 rfl ?_
        refine rcSl (As := [.long (mx (mix2 (fun c => cInk (F 8) n (nI c)) (fun c => cComesS F (I 4) n (nI c) 4) p0 k) (cInk (F 8) n (nI k))), .long ((cComesS F (I 4) n (nI k) (4 : Int32)).toInt64)]) (rest := []) hx hb hml hown hts hKK hP (c_X3_mixed l D cI cB cS (mx (mix2 (fun c => cInk (F 8) n (nI c)) (fun c => cComesS F (I 4) n (nI c) 4) p0 k) (cInk (F 8) n (nI k))) ((cComesS F (I 4) n (nI k) (4 : Int32)).toInt64)) (cwS2 2 hts kw_628 kw_3 kw_626 kw_627 rfl rfl (by decide +kernel) ⟨Nat.le_of_ble_eq_true rfl, Nat.le_of_ble_eq_true rfl⟩) rfl hl.1 rfl (Nat.le_of_ble_eq_true rfl) ⟨Nat.zero_le _, Nat.zero_le _⟩ dX3_withLand_33 ?_
        refine topL (z := (mx (mx (mix2 (fun c => cInk (F 8) n (nI c)) (fun c => cComesS F (I 4) n (nI c) 4) p0 k) (cInk (F 8) n (nI k))) (cComesS F (I 4) n (nI k) (4 : Int32)))) rfl ?_
        refine lv_lstore_n (lv' := [(3, .long (mx (mx (mix2 (fun c => cInk (F 8) n (nI c)) (fun c => cComesS F (I 4) n (nI c) 4) p0 k) (cInk (F 8) n (nI k))) (cComesS F (I 4) n (nI k) (4 : Int32)))), (0, .ref (B 0)), (1, .long p0), (5, .int (nI k))]) hx hb dX3_withLand_36 rfl hl (by decide) rfl (fun ls hl => ?_)
        refine lv_iinc (v := (nI (k + 1))) (lv' := [(5, .int (nI (k + 1))), (3, .long (mx (mx (mix2 (fun c => cInk (F 8) n (nI c)) (fun c => cComesS F (I 4) n (nI c) 4) p0 k) (cInk (F 8) n (nI k))) (cComesS F (I 4) n (nI k) (4 : Int32)))), (0, .ref (B 0)), (1, .long p0)]) hx hb dX3_withLand_37 hl (k := 3) rfl (nI_add k 1) (by decide) rfl (fun ls hl => ?_)
        refine lv_goto (tgt := 5) hx hb dX3_withLand_40 (by decide) ?_
        exact ih_5 (k + 1) (mx (mx (mix2 (fun c => cInk (F 8) n (nI c)) (fun c => cComesS F (I 4) n (nI c) 4) p0 k) (cInk (F 8) n (nI k))) (cComesS F (I 4) n (nI k) (4 : Int32))) (nI (k + 1)) rfl rfl (by omega) (by omega) ls (lv_sub hl [2, 3, 1, 0] rfl)
  exact loop_5 ((10 - 0) + 1) 0 p0 (0 : Int32) rfl rfl (by omega) (by omega) ls (lv_sub hl [2, 3, 1, 0] rfl)
set_option maxHeartbeats 1000000 in
set_option maxRecDepth 100000 in
theorem c_X0_codeAt (l : Launch) (D : va_G) (cI cB cS : ClassId) {B : Nat → Nat} {I : Nat → Int32} {F : Nat → Nat → Int32} {k : Nat} (hk : k < 21) : Met l yX0_codeAt (Wm yX0_codeAt cX0_codeAt 2 (some .int)) ({ frames := 0, cells := 0, slots := 0, locals := 0 }) (va_Pc [.ref (B 1), .int (nI k)] (PR D (TYS cI cB cS) (wsB B cI cS I F))) (QcV (some (.int (F 7 k)))) 0 0 (fun _ => False) := by
  refine metR (by decide) [.ref (B 1), .int (nI k)] (Nat.le_of_ble_eq_true rfl) ?_
  intro p e s m args below meth c hx hb hml hr hlk hown hts hKK hP ls hl
  obtain ⟨hK, hN⟩ := id hKK
  have hl : lv_has ls 2 [(0, .ref (B 1)), (1, .int (nI k))] := hl
  refine lv_iload_n hx hb dX0_codeAt_0 rfl (lv_at hl 1 rfl) ?_
  refine lv_if_lt (tgt := 22) hx hb dX0_codeAt_1 (by decide) (fun c_1 => ?_) (fun c_1 => ?_)
  · have nc_1 : k < 0 := (nI_ltI (a := k) (b := 0) (by omega) (by omega)).mp c_1
    exfalso; omega
  · have nc_1 : ¬ k < 0 := fun h => c_1 ((nI_ltI (a := k) (b := 0) (by omega) (by omega)).mpr h)
    refine lv_iload_n hx hb dX0_codeAt_4 rfl (lv_at hl 1 rfl) ?_
    refine lv_aload_n hx hb dX0_codeAt_5 rfl (lv_at hl 0 rfl) ?_
    refine va_get (D := D) (ci := 0) (v := .ref (B 7)) (C := RX0) (T := TX0) (N := 2) hx hb hts inlX0 hown hK hP 1 rfl rfl 0 (by decide) (hts _ kw_33) (fun _ h9 => h9) rfl dX0_codeAt_6 ?_
    refine va_alen (D := D) hx hb hK hP 7 0 rfl rfl (v := (21 : Int32)) rfl dX0_codeAt_9 ?_
    refine lv_icmp_ge (tgt := 22) hx hb dX0_codeAt_10 (by decide) (fun c_2 => ?_) (fun c_2 => ?_)
    · have nc_2 : 21 ≤ k := (nI_leI (a := 21) (b := k) (by omega) (by omega)).mp c_2
      exfalso; omega
    · have nc_2 : ¬ 21 ≤ k := fun h => c_2 ((nI_leI (a := 21) (b := k) (by omega) (by omega)).mpr h)
      refine lv_aload_n hx hb dX0_codeAt_13 rfl (lv_at hl 0 rfl) ?_
      refine va_get (D := D) (ci := 0) (v := .ref (B 7)) (C := RX0) (T := TX0) (N := 2) hx hb hts inlX0 hown hK hP 1 rfl rfl 0 (by decide) (hts _ kw_33) (fun _ h9 => h9) rfl dX0_codeAt_14 ?_
      refine lv_iload_n hx hb dX0_codeAt_17 rfl (lv_at hl 1 rfl) ?_
      refine va_iald (D := D) hx hb hK hP 7 0 rfl rfl (vp_in_nI (by omega) (by omega)) dX0_codeAt_18 ?_
      refine topE (z := ((F 7) k)) (congrArg _ (nI_clamp (n := k) (by omega))) ?_
      refine lv_goto (tgt := 23) hx hb dX0_codeAt_19 (by decide) ?_
      exact retRi hx hb hr hlk dX0_codeAt_23 rfl
set_option maxHeartbeats 1000000 in
set_option maxRecDepth 100000 in
theorem c_X0_digitAt (l : Launch) (D : va_G) (cI cB cS : ClassId) {B : Nat → Nat} {I : Nat → Int32} {F : Nat → Nat → Int32} {k : Nat} (hk : k < 21) : Met l yX0_digitAt (Wm yX0_digitAt cX0_digitAt 2 (some .int)) ({ frames := 1, cells := 0, slots := 0, locals := 21 }) (va_Pc [.ref (B 1), .int (nI k)] (PR D (TYS cI cB cS) (wsB B cI cS I F))) (QcV (some (.int (F 7 k - 48)))) 0 0 (fun _ => False) := by
  refine metR (by decide) [.ref (B 1), .int (nI k)] (Nat.le_of_ble_eq_true rfl) ?_
  intro p e s m args below meth c hx hb hml hr hlk hown hts hKK hP ls hl
  obtain ⟨hK, hN⟩ := id hKK
  have hl : lv_has ls 2 [(0, .ref (B 1)), (1, .int (nI k))] := hl
  refine lv_aload_n hx hb dX0_digitAt_0 rfl (lv_at hl 0 rfl) ?_
  refine lv_iload_n hx hb dX0_digitAt_1 rfl (lv_at hl 1 rfl) ?_
  refine rcVi (As := [.int (nI k)]) (rest := []) hx hb hml hown hts hKK hP (c_X0_codeAt l D cI cB cS (k := k) (by omega)) (cwV2 1 hts kw_118 kw_14 kw_115 kw_116 kw_117 rfl rfl (by decide +kernel) ⟨Nat.le_of_ble_eq_true rfl, Nat.le_of_ble_eq_true rfl⟩) 1 rfl rfl rfl rfl hl.1 rfl (Nat.le_of_ble_eq_true rfl) ⟨Nat.zero_le _, Nat.zero_le _⟩ dX0_digitAt_2 ?_
  refine topE (z := ((F 7) k)) rfl ?_
  refine lv_bipush (v := (48 : Int32)) hx hb dX0_digitAt_5 (by decide) ?_
  refine lv_isub hx hb dX0_digitAt_7 ?_
  exact retRi hx hb hr hlk dX0_digitAt_8 rfl
