/-! the worlds: the class's 22 cells, the reference's 16; what a state is: I its ints, J its longs, F its rows -/
abbrev TYS (cI cB cS : ClassId) : List (ClassId × FieldType) := [(cI, .int), (cB, .byte), (cS, .object RX2)]
def wsB (B : Nat → Nat) (cI cS : ClassId) (I : Nat → Int32) (F : Nat → Nat → Int32) : va_W :=
  [(B 0, .inr (3, [.ref (B 1), .ref (B 2), .ref (B 3), .ref (B 4), .int (I 0), .int (I 1), .ref (B 5), .ref (B 6)])),
   (B 1, .inr (0, [.ref (B 7), .int (I 2)])),
   (B 2, .inl (cS, 6, .inr (.inr (.inr (.inr (fun i => some (B (16 + i)))))))),
   (B 3, .inr (1, [.int (I 3), .int (I 4), .int (I 5), .int (I 6), .ref (B 8), .ref (B 9), .ref (B 10), .ref (B 11)])),
   (B 4, .inr (1, [.int (I 7), .int (I 8), .int (I 9), .int (I 10), .ref (B 12), .ref (B 13), .ref (B 14), .ref (B 15)])),
   (B 5, .inl (cI, 10, .inl (F 5))), (B 6, .inl (cI, 10, .inl (F 6))), (B 7, .inl (cI, 21, .inl (F 7))),
   (B 8, .inl (cI, 10, .inl (F 8))), (B 9, .inl (cI, 6, .inl (F 9))), (B 10, .inl (cI, 6, .inl (F 10))), (B 11, .inl (cI, 6, .inl (F 11))),
   (B 12, .inl (cI, 10, .inl (F 12))), (B 13, .inl (cI, 6, .inl (F 13))), (B 14, .inl (cI, 6, .inl (F 14))), (B 15, .inl (cI, 6, .inl (F 15))),
   (B 16, .inr (2, [.int (nI 0), .int (F 16 0), .int (F 17 0), .int (F 18 0), .int (F 19 0)])),
   (B 17, .inr (2, [.int (nI 1), .int (F 16 1), .int (F 17 1), .int (F 18 1), .int (F 19 1)])),
   (B 18, .inr (2, [.int (nI 2), .int (F 16 2), .int (F 17 2), .int (F 18 2), .int (F 19 2)])),
   (B 19, .inr (2, [.int (nI 3), .int (F 16 3), .int (F 17 3), .int (F 18 3), .int (F 19 3)])),
   (B 20, .inr (2, [.int (nI 4), .int (F 16 4), .int (F 17 4), .int (F 18 4), .int (F 19 4)])),
   (B 21, .inr (2, [.int (nI 5), .int (F 16 5), .int (F 17 5), .int (F 18 5), .int (F 19 5)]))]
theorem wsB_st {B : Nat → Nat} {cI cS : ClassId} {I : Nat → Int32} {F : Nat → Nat → Int32} {k : Nat} (h : k < 6) : (wsB B cI cS I F)[16 + k]? = some (B (16 + k), .inr (2, [.int (nI k), .int (F 16 k), .int (F 17 k), .int (F 18 k), .int (F 19 k)])) := by
  match k, h with
  | 0, _ => rfl
  | 1, _ => rfl
  | 2, _ => rfl
  | 3, _ => rfl
  | 4, _ => rfl
  | 5, _ => rfl
  | k + 6, h => exact absurd h (by omega)
theorem wsB_set {B : Nat → Nat} {cI cS : ClassId} {I : Nat → Int32} {F : Nat → Nat → Int32} {k : Nat} (h : k < 6) (a b c d : Int32) : (wsB B cI cS I F).set (16 + k) (B (16 + k), .inr (2, [.int (nI k), .int a, .int b, .int c, .int d])) = wsB B cI cS I (va_up (va_up (va_up (va_up F 16 (upd (F 16) k a)) 17 (upd (F 17) k b)) 18 (upd (F 18) k c)) 19 (upd (F 19) k d)) := by
  match k, h with
  | 0, _ => rfl
  | 1, _ => rfl
  | 2, _ => rfl
  | 3, _ => rfl
  | 4, _ => rfl
  | 5, _ => rfl
  | k + 6, h => exact absurd h (by omega)
def wsM (A : Nat → Nat) (cI cB : ClassId) (I : Nat → Int32) (J : Nat → Int64) (F : Nat → Nat → Int32) : va_W :=
  [(A 0, .inr (4, [.int (I 0), .int (I 1), .ref (A 2), .ref (A 3), .ref (A 4), .ref (A 5), .int (I 6), .ref (A 7), .int (I 8), .int (I 9), .ref (A 10), .ref (A 11), .ref (A 12), .int (I 13), .ref (A 14), .ref (A 15), .long (J 16), .ref (A 17), .int (I 18), .int (I 19), .int (I 20), .int (I 21), .int (I 22), .int (I 23), .ref (A 24), .ref (A 25), .ref (A 26), .ref (A 27), .long (J 28)])),
   (A 2, .inl (cI, 6, .inl (F 2))), (A 3, .inl (cI, 6, .inl (F 3))), (A 4, .inl (cI, 6, .inl (F 4))), (A 5, .inl (cI, 6, .inl (F 5))),
   (A 7, .inl (cI, 10, .inl (F 7))), (A 10, .inl (cI, 6, .inl (F 10))), (A 11, .inl (cI, 6, .inl (F 11))), (A 12, .inl (cI, 6, .inl (F 12))),
   (A 14, .inl (cB, 21, .inl (F 14))), (A 15, .inl (cI, 90, .inl (F 15))), (A 17, .inl (cI, 10, .inl (F 17))),
   (A 24, .inl (cI, 10, .inl (F 24))), (A 25, .inl (cI, 6, .inl (F 25))), (A 26, .inl (cI, 6, .inl (F 26))), (A 27, .inl (cI, 6, .inl (F 27)))]
theorem gs_same {ws : va_W} {q : Nat} {x y : Nat × va_E} (h : ws[q]? = some x) : (ws.set q y)[q]? = some y := by
  rw [List.getElem?_set_self (List.getElem?_eq_some_iff.mp h).1]
theorem gs_ne {ws : va_W} {q q2 : Nat} {x y : Nat × va_E} (hn : q ≠ q2) (h : ws[q2]? = some x) : (ws.set q y)[q2]? = some x := by
  rw [List.getElem?_set_ne hn]; exact h
/-- a sum over the places below n -/
def sumN (f : Nat → Int32) : Nat → Int32
  | 0 => 0
  | n + 1 => sumN f n + f n
/-! what the class's own methods answer, in its own words -/
def cWet (wr kd minute pressed : Int32) : Int32 :=
  if ¬ 0 ≤ minute - wr then 0
  else if kd = 2 then (if (0 : Int32) < pressed - (minute - wr) / 2 then pressed - (minute - wr) / 2 else 0)
  else if kd = 3 then (if (0 : Int32) < pressed - 3 * (minute - wr) then pressed - 3 * (minute - wr) else 0)
  else if kd = 4 then (if (0 : Int32) < pressed + 3 - (minute - wr) then pressed + 3 - (minute - wr) else 0)
  else (if (0 : Int32) < pressed - (minute - wr) then pressed - (minute - wr) else 0)
abbrev cIsA (kd asked : Int32) : Prop := asked = 0 ∨ asked = kd ∨ (asked = 1 ∧ kd = 4)
def cGives (bg cn kd cell wetness : Int32) : Int32 :=
  if ¬ cell < bg ∧ ¬ bg + cn ≤ cell then wetness
  else if (cell = bg - 1 ∨ cell = bg + cn) ∧ cIsA kd 1 then wetness / 2 else 0
set_option maxHeartbeats 1000000 in
set_option maxRecDepth 100000 in
/-- Stroke.isA(asked) -/
theorem c_X2_isA (l : Launch) (D : va_G) (cI cB cS : ClassId) {ws : va_W} {q b : Nat} {wr kd bg cn pr : Int32} (h0 : ws[q]? = some (b, .inr (2, [.int wr, .int kd, .int bg, .int cn, .int pr]))) (p0 : Int32) : Met l yX2_isA (Wm yX2_isA cX2_isA 2 (some .boolean)) ({ frames := 0, cells := 0, slots := 0, locals := 0 }) (va_Pc [.ref b, .int p0] (PR D (TYS cI cB cS) ws)) (QcV (some (.int (b2 (cIsA kd p0))))) 0 0 (fun _ => False) := by
  refine metR (by decide) [.ref b, .int p0] (Nat.le_of_ble_eq_true rfl) ?_
  intro p e s m args below meth c hx hb hml hr hlk hown hts hKK hP ls hl
  obtain ⟨hK, hN⟩ := id hKK
  have hl : lv_has ls 2 [(0, .ref b), (1, .int p0)] := hl
  refine lv_iload_n hx hb dX2_isA_0 rfl (lv_at hl 1 rfl) ?_
  refine lv_if_eq (tgt := 25) hx hb dX2_isA_1 (by decide) (fun c_1 => ?_) (fun c_1 => ?_)
  · refine lv_iconst (v := (1 : Int32)) hx hb dX2_isA_25 (by decide) ?_
    refine lv_goto (tgt := 30) hx hb dX2_isA_26 (by decide) ?_
    exact retRz hx hb hr hlk dX2_isA_30 (by grind [b2])
  · refine lv_iload_n hx hb dX2_isA_4 rfl (lv_at hl 1 rfl) ?_
    refine lv_aload_n hx hb dX2_isA_5 rfl (lv_at hl 0 rfl) ?_
    refine va_get (D := D) (ci := 2) (v := .int kd) (C := RX2) (T := TX2) (N := 5) hx hb hts inlX2 hown hK hP q h0 rfl 1 (by decide) (hts _ kw_50) (fun _ h9 => h9) rfl dX2_isA_6 ?_
    refine lv_icmp_eq (tgt := 25) hx hb dX2_isA_9 (by decide) (fun c_2 => ?_) (fun c_2 => ?_)
    · refine lv_iconst (v := (1 : Int32)) hx hb dX2_isA_25 (by decide) ?_
      refine lv_goto (tgt := 30) hx hb dX2_isA_26 (by decide) ?_
      exact retRz hx hb hr hlk dX2_isA_30 (by grind [b2])
    · refine lv_iload_n hx hb dX2_isA_12 rfl (lv_at hl 1 rfl) ?_
      refine lv_iconst (v := (1 : Int32)) hx hb dX2_isA_13 (by decide) ?_
      refine lv_icmp_ne (tgt := 29) hx hb dX2_isA_14 (by decide) (fun c_3 => ?_) (fun c_3 => ?_)
      · refine lv_iconst (v := (0 : Int32)) hx hb dX2_isA_29 (by decide) ?_
        exact retRz hx hb hr hlk dX2_isA_30 (by grind [b2])
      · refine lv_aload_n hx hb dX2_isA_17 rfl (lv_at hl 0 rfl) ?_
        refine va_get (D := D) (ci := 2) (v := .int kd) (C := RX2) (T := TX2) (N := 5) hx hb hts inlX2 hown hK hP q h0 rfl 1 (by decide) (hts _ kw_50) (fun _ h9 => h9) rfl dX2_isA_18 ?_
        refine lv_iconst (v := (4 : Int32)) hx hb dX2_isA_21 (by decide) ?_
        refine lv_icmp_ne (tgt := 29) hx hb dX2_isA_22 (by decide) (fun c_4 => ?_) (fun c_4 => ?_)
        · refine lv_iconst (v := (0 : Int32)) hx hb dX2_isA_29 (by decide) ?_
          exact retRz hx hb hr hlk dX2_isA_30 (by grind [b2])
        · refine lv_iconst (v := (1 : Int32)) hx hb dX2_isA_25 (by decide) ?_
          refine lv_goto (tgt := 30) hx hb dX2_isA_26 (by decide) ?_
          exact retRz hx hb hr hlk dX2_isA_30 (by grind [b2])
set_option maxHeartbeats 1000000 in
set_option maxRecDepth 100000 in
/-- Stroke.wetAt(minute, pressed) -/
theorem c_X2_wetAt (l : Launch) (D : va_G) (cI cB cS : ClassId) {ws : va_W} {q b : Nat} {wr kd bg cn pr : Int32} (h0 : ws[q]? = some (b, .inr (2, [.int wr, .int kd, .int bg, .int cn, .int pr]))) (p0 p1 : Int32) : Met l yX2_wetAt (Wm yX2_wetAt cX2_wetAt 4 (some .int)) ({ frames := 1, cells := 0, slots := 0, locals := 21 }) (va_Pc [.ref b, .int p0, .int p1] (PR D (TYS cI cB cS) ws)) (QcV (some (.int (cWet wr kd p0 p1)))) 0 0 (fun _ => False) := by
  refine metR (by decide) [.ref b, .int p0, .int p1] (Nat.le_of_ble_eq_true rfl) ?_
  intro p e s m args below meth c hx hb hml hr hlk hown hts hKK hP ls hl
  obtain ⟨hK, hN⟩ := id hKK
  have hl : lv_has ls 4 [(0, .ref b), (1, .int p0), (2, .int p1)] := hl
  refine lv_iload_n hx hb dX2_wetAt_0 rfl (lv_at hl 1 rfl) ?_
  refine lv_aload_n hx hb dX2_wetAt_1 rfl (lv_at hl 0 rfl) ?_
  refine va_get (D := D) (ci := 2) (v := .int wr) (C := RX2) (T := TX2) (N := 5) hx hb hts inlX2 hown hK hP q h0 rfl 0 (by decide) (hts _ kw_54) (fun _ h9 => h9) rfl dX2_wetAt_2 ?_
  refine lv_isub hx hb dX2_wetAt_5 ?_
  refine lv_istore_n (lv' := [(3, .int (p0 - wr)), (0, .ref b), (1, .int p0), (2, .int p1)]) hx hb dX2_wetAt_6 rfl hl (by decide) rfl (fun ls hl => ?_)
  refine lv_iload_n hx hb dX2_wetAt_7 rfl (lv_at hl 0 rfl) ?_
  refine lv_if_ge (tgt := 13) hx hb dX2_wetAt_8 (by decide) (fun c_1 => ?_) (fun c_1 => ?_)
  · refine lv_aload_n hx hb dX2_wetAt_13 rfl (lv_at hl 1 rfl) ?_
    refine va_get (D := D) (ci := 2) (v := .int kd) (C := RX2) (T := TX2) (N := 5) hx hb hts inlX2 hown hK hP q h0 rfl 1 (by decide) (hts _ kw_50) (fun _ h9 => h9) rfl dX2_wetAt_14 ?_
    by_cases e_2 : kd = (2 : Int32)
    · refine topE e_2 ?_
      refine lv_tableIn (off := 27) (tgt := 44) hx hb dX2_wetAt_17 (by decide) (by decide) rfl (by decide) ?_
      refine lv_iconst (v := (0 : Int32)) hx hb dX2_wetAt_44 (by decide) ?_
      refine lv_iload_n hx hb dX2_wetAt_45 rfl (lv_at hl 3 rfl) ?_
      refine lv_iload_n hx hb dX2_wetAt_46 rfl (lv_at hl 0 rfl) ?_
      refine lv_iconst (v := (2 : Int32)) hx hb dX2_wetAt_47 (by decide) ?_
      refine lv_idiv hx hb dX2_wetAt_48 (by decide) ?_
      refine lv_isub hx hb dX2_wetAt_49 ?_
      refine va_mmax hx hb (hml.trans hl.1.symm) hown (hts _ kw_287) (hts _ kw_152) (hts _ kw_153) (hts _ kw_154) (Nat.le_of_ble_eq_true rfl) (Nat.le_of_ble_eq_true rfl) (Nat.zero_le _) (Nat.zero_le _) dX2_wetAt_50 ?_
      exact retRi hx hb hr hlk dX2_wetAt_53 (by grind [cWet])
    by_cases e_3 : kd = (3 : Int32)
    · refine topE e_3 ?_
      refine lv_tableIn (off := 37) (tgt := 54) hx hb dX2_wetAt_17 (by decide) (by decide) rfl (by decide) ?_
      refine lv_iconst (v := (0 : Int32)) hx hb dX2_wetAt_54 (by decide) ?_
      refine lv_iload_n hx hb dX2_wetAt_55 rfl (lv_at hl 3 rfl) ?_
      refine lv_iconst (v := (3 : Int32)) hx hb dX2_wetAt_56 (by decide) ?_
      refine lv_iload_n hx hb dX2_wetAt_57 rfl (lv_at hl 0 rfl) ?_
      refine lv_imul hx hb dX2_wetAt_58 ?_
      refine lv_isub hx hb dX2_wetAt_59 ?_
      refine va_mmax hx hb (hml.trans hl.1.symm) hown (hts _ kw_287) (hts _ kw_152) (hts _ kw_153) (hts _ kw_154) (Nat.le_of_ble_eq_true rfl) (Nat.le_of_ble_eq_true rfl) (Nat.zero_le _) (Nat.zero_le _) dX2_wetAt_60 ?_
      exact retRi hx hb hr hlk dX2_wetAt_63 (by grind [cWet])
    by_cases e_4 : kd = (4 : Int32)
    · refine topE e_4 ?_
      refine lv_tableIn (off := 47) (tgt := 64) hx hb dX2_wetAt_17 (by decide) (by decide) rfl (by decide) ?_
      refine lv_iconst (v := (0 : Int32)) hx hb dX2_wetAt_64 (by decide) ?_
      refine lv_iload_n hx hb dX2_wetAt_65 rfl (lv_at hl 3 rfl) ?_
      refine lv_iconst (v := (3 : Int32)) hx hb dX2_wetAt_66 (by decide) ?_
      refine lv_iadd hx hb dX2_wetAt_67 ?_
      refine lv_iload_n hx hb dX2_wetAt_68 rfl (lv_at hl 0 rfl) ?_
      refine lv_isub hx hb dX2_wetAt_69 ?_
      refine va_mmax hx hb (hml.trans hl.1.symm) hown (hts _ kw_287) (hts _ kw_152) (hts _ kw_153) (hts _ kw_154) (Nat.le_of_ble_eq_true rfl) (Nat.le_of_ble_eq_true rfl) (Nat.zero_le _) (Nat.zero_le _) dX2_wetAt_70 ?_
      exact retRi hx hb hr hlk dX2_wetAt_73 (by grind [cWet])
    have t_5 := lv_neT e_2 (a := 2) rfl
    have t_6 := lv_neT e_3 (a := 3) rfl
    have t_7 := lv_neT e_4 (a := 4) rfl
    refine lv_tableOut (tgt := 74) hx hb dX2_wetAt_17 (by omega) (by decide) ?_
    refine lv_iconst (v := (0 : Int32)) hx hb dX2_wetAt_74 (by decide) ?_
    refine lv_iload_n hx hb dX2_wetAt_75 rfl (lv_at hl 3 rfl) ?_
    refine lv_iload_n hx hb dX2_wetAt_76 rfl (lv_at hl 0 rfl) ?_
    refine lv_isub hx hb dX2_wetAt_77 ?_
    refine va_mmax hx hb (hml.trans hl.1.symm) hown (hts _ kw_287) (hts _ kw_152) (hts _ kw_153) (hts _ kw_154) (Nat.le_of_ble_eq_true rfl) (Nat.le_of_ble_eq_true rfl) (Nat.zero_le _) (Nat.zero_le _) dX2_wetAt_78 ?_
    exact retRi hx hb hr hlk dX2_wetAt_81 (by grind [cWet])
  · refine lv_iconst (v := (0 : Int32)) hx hb dX2_wetAt_11 (by decide) ?_
    exact retRi hx hb hr hlk dX2_wetAt_12 (by grind [cWet])
set_option maxHeartbeats 1000000 in
set_option maxRecDepth 100000 in
/-- Stroke.givesTo(cell, wetness) -/
theorem c_X2_givesTo (l : Launch) (D : va_G) (cI cB cS : ClassId) {ws : va_W} {q b : Nat} {wr kd bg cn pr : Int32} (h0 : ws[q]? = some (b, .inr (2, [.int wr, .int kd, .int bg, .int cn, .int pr]))) (p0 p1 : Int32) : Met l yX2_givesTo (Wm yX2_givesTo cX2_givesTo 5 (some .int)) ({ frames := 1, cells := 0, slots := 0, locals := 21 }) (va_Pc [.ref b, .int p0, .int p1] (PR D (TYS cI cB cS) ws)) (QcV (some (.int (cGives bg cn kd p0 p1)))) 0 0 (fun _ => False) := by
  refine metR (by decide) [.ref b, .int p0, .int p1] (Nat.le_of_ble_eq_true rfl) ?_
  intro p e s m args below meth c hx hb hml hr hlk hown hts hKK hP ls hl
  obtain ⟨hK, hN⟩ := id hKK
  have hl : lv_has ls 5 [(0, .ref b), (1, .int p0), (2, .int p1)] := hl
  refine lv_aload_n hx hb dX2_givesTo_0 rfl (lv_at hl 0 rfl) ?_
  refine va_get (D := D) (ci := 2) (v := .int bg) (C := RX2) (T := TX2) (N := 5) hx hb hts inlX2 hown hK hP q h0 rfl 2 (by decide) (hts _ kw_51) (fun _ h9 => h9) rfl dX2_givesTo_1 ?_
  refine lv_aload_n hx hb dX2_givesTo_4 rfl (lv_at hl 0 rfl) ?_
  refine va_get (D := D) (ci := 2) (v := .int cn) (C := RX2) (T := TX2) (N := 5) hx hb hts inlX2 hown hK hP q h0 rfl 3 (by decide) (hts _ kw_52) (fun _ h9 => h9) rfl dX2_givesTo_5 ?_
  refine lv_iadd hx hb dX2_givesTo_8 ?_
  refine lv_istore_n (lv' := [(3, .int (bg + cn)), (0, .ref b), (1, .int p0), (2, .int p1)]) hx hb dX2_givesTo_9 rfl hl (by decide) rfl (fun ls hl => ?_)
  refine lv_iload_n hx hb dX2_givesTo_10 rfl (lv_at hl 2 rfl) ?_
  refine lv_aload_n hx hb dX2_givesTo_11 rfl (lv_at hl 1 rfl) ?_
  refine va_get (D := D) (ci := 2) (v := .int bg) (C := RX2) (T := TX2) (N := 5) hx hb hts inlX2 hown hK hP q h0 rfl 2 (by decide) (hts _ kw_51) (fun _ h9 => h9) rfl dX2_givesTo_12 ?_
  refine lv_icmp_lt (tgt := 25) hx hb dX2_givesTo_15 (by decide) (fun c_1 => ?_) (fun c_1 => ?_)
  · refine lv_iload_n hx hb dX2_givesTo_25 rfl (lv_at hl 2 rfl) ?_
    refine lv_aload_n hx hb dX2_givesTo_26 rfl (lv_at hl 1 rfl) ?_
    refine va_get (D := D) (ci := 2) (v := .int bg) (C := RX2) (T := TX2) (N := 5) hx hb hts inlX2 hown hK hP q h0 rfl 2 (by decide) (hts _ kw_51) (fun _ h9 => h9) rfl dX2_givesTo_27 ?_
    refine lv_iconst (v := (1 : Int32)) hx hb dX2_givesTo_30 (by decide) ?_
    refine lv_isub hx hb dX2_givesTo_31 ?_
    refine lv_icmp_eq (tgt := 40) hx hb dX2_givesTo_32 (by decide) (fun c_2 => ?_) (fun c_2 => ?_)
    · refine lv_iconst (v := (1 : Int32)) hx hb dX2_givesTo_40 (by decide) ?_
      refine lv_goto (tgt := 45) hx hb dX2_givesTo_41 (by decide) ?_
      refine lv_istore (lv' := [(4, .int (1 : Int32)), (3, .int (bg + cn)), (0, .ref b), (1, .int p0), (2, .int p1)]) hx hb dX2_givesTo_45 hl (by decide) rfl (fun ls hl => ?_)
      refine lv_iload hx hb dX2_givesTo_47 (lv_at hl 0 rfl) ?_
      refine lv_if_eq (tgt := 66) hx hb dX2_givesTo_49 (by decide) (fun c_3 => ?_) (fun c_3 => ?_)
      · exact absurd c_3 (by decide)
      · refine lv_aload_n hx hb dX2_givesTo_52 rfl (lv_at hl 2 rfl) ?_
        refine lv_iconst (v := (1 : Int32)) hx hb dX2_givesTo_53 (by decide) ?_
        refine rcVi (As := [.int (1 : Int32)]) (rest := []) hx hb hml hown hts hKK hP (c_X2_isA l D cI cB cS h0 (1 : Int32)) (cwV2 1 hts kw_295 kw_29 kw_292 kw_293 kw_294 rfl rfl (by decide +kernel) ⟨Nat.le_of_ble_eq_true rfl, Nat.le_of_ble_eq_true rfl⟩) q (h0) rfl rfl rfl hl.1 rfl (Nat.le_of_ble_eq_true rfl) ⟨Nat.zero_le _, Nat.zero_le _⟩ dX2_givesTo_54 ?_
        refine lv_if_eq (tgt := 66) hx hb dX2_givesTo_57 (by decide) (fun c_4 => ?_) (fun c_4 => ?_)
        · have c_4 := b2_z c_4
          refine lv_iconst (v := (0 : Int32)) hx hb dX2_givesTo_66 (by decide) ?_
          exact retRi hx hb hr hlk dX2_givesTo_67 (by grind [cGives])
        · have c_4 := b2_nz c_4
          refine lv_iload_n hx hb dX2_givesTo_60 rfl (lv_at hl 4 rfl) ?_
          refine lv_iconst (v := (2 : Int32)) hx hb dX2_givesTo_61 (by decide) ?_
          refine lv_idiv hx hb dX2_givesTo_62 (by decide) ?_
          refine lv_goto (tgt := 67) hx hb dX2_givesTo_63 (by decide) ?_
          exact retRi hx hb hr hlk dX2_givesTo_67 (by grind [cGives])
    · refine lv_iload_n hx hb dX2_givesTo_35 rfl (lv_at hl 2 rfl) ?_
      refine lv_iload_n hx hb dX2_givesTo_36 rfl (lv_at hl 0 rfl) ?_
      refine lv_icmp_ne (tgt := 44) hx hb dX2_givesTo_37 (by decide) (fun c_5 => ?_) (fun c_5 => ?_)
      · refine lv_iconst (v := (0 : Int32)) hx hb dX2_givesTo_44 (by decide) ?_
        refine lv_istore (lv' := [(4, .int (0 : Int32)), (3, .int (bg + cn)), (0, .ref b), (1, .int p0), (2, .int p1)]) hx hb dX2_givesTo_45 hl (by decide) rfl (fun ls hl => ?_)
        refine lv_iload hx hb dX2_givesTo_47 (lv_at hl 0 rfl) ?_
        refine lv_if_eq (tgt := 66) hx hb dX2_givesTo_49 (by decide) (fun c_6 => ?_) (fun c_6 => ?_)
        · refine lv_iconst (v := (0 : Int32)) hx hb dX2_givesTo_66 (by decide) ?_
          exact retRi hx hb hr hlk dX2_givesTo_67 (by grind [cGives])
        · exact absurd c_6 (by decide)
      · refine lv_iconst (v := (1 : Int32)) hx hb dX2_givesTo_40 (by decide) ?_
        refine lv_goto (tgt := 45) hx hb dX2_givesTo_41 (by decide) ?_
        refine lv_istore (lv' := [(4, .int (1 : Int32)), (3, .int (bg + cn)), (0, .ref b), (1, .int p0), (2, .int p1)]) hx hb dX2_givesTo_45 hl (by decide) rfl (fun ls hl => ?_)
        refine lv_iload hx hb dX2_givesTo_47 (lv_at hl 0 rfl) ?_
        refine lv_if_eq (tgt := 66) hx hb dX2_givesTo_49 (by decide) (fun c_7 => ?_) (fun c_7 => ?_)
        · exact absurd c_7 (by decide)
        · refine lv_aload_n hx hb dX2_givesTo_52 rfl (lv_at hl 2 rfl) ?_
          refine lv_iconst (v := (1 : Int32)) hx hb dX2_givesTo_53 (by decide) ?_
          refine rcVi (As := [.int (1 : Int32)]) (rest := []) hx hb hml hown hts hKK hP (c_X2_isA l D cI cB cS h0 (1 : Int32)) (cwV2 1 hts kw_295 kw_29 kw_292 kw_293 kw_294 rfl rfl (by decide +kernel) ⟨Nat.le_of_ble_eq_true rfl, Nat.le_of_ble_eq_true rfl⟩) q (h0) rfl rfl rfl hl.1 rfl (Nat.le_of_ble_eq_true rfl) ⟨Nat.zero_le _, Nat.zero_le _⟩ dX2_givesTo_54 ?_
          refine lv_if_eq (tgt := 66) hx hb dX2_givesTo_57 (by decide) (fun c_8 => ?_) (fun c_8 => ?_)
          · have c_8 := b2_z c_8
            refine lv_iconst (v := (0 : Int32)) hx hb dX2_givesTo_66 (by decide) ?_
            exact retRi hx hb hr hlk dX2_givesTo_67 (by grind [cGives])
          · have c_8 := b2_nz c_8
            refine lv_iload_n hx hb dX2_givesTo_60 rfl (lv_at hl 4 rfl) ?_
            refine lv_iconst (v := (2 : Int32)) hx hb dX2_givesTo_61 (by decide) ?_
            refine lv_idiv hx hb dX2_givesTo_62 (by decide) ?_
            refine lv_goto (tgt := 67) hx hb dX2_givesTo_63 (by decide) ?_
            exact retRi hx hb hr hlk dX2_givesTo_67 (by grind [cGives])
  · refine lv_iload_n hx hb dX2_givesTo_18 rfl (lv_at hl 2 rfl) ?_
    refine lv_iload_n hx hb dX2_givesTo_19 rfl (lv_at hl 0 rfl) ?_
    refine lv_icmp_ge (tgt := 25) hx hb dX2_givesTo_20 (by decide) (fun c_9 => ?_) (fun c_9 => ?_)
    · refine lv_iload_n hx hb dX2_givesTo_25 rfl (lv_at hl 2 rfl) ?_
      refine lv_aload_n hx hb dX2_givesTo_26 rfl (lv_at hl 1 rfl) ?_
      refine va_get (D := D) (ci := 2) (v := .int bg) (C := RX2) (T := TX2) (N := 5) hx hb hts inlX2 hown hK hP q h0 rfl 2 (by decide) (hts _ kw_51) (fun _ h9 => h9) rfl dX2_givesTo_27 ?_
      refine lv_iconst (v := (1 : Int32)) hx hb dX2_givesTo_30 (by decide) ?_
      refine lv_isub hx hb dX2_givesTo_31 ?_
      refine lv_icmp_eq (tgt := 40) hx hb dX2_givesTo_32 (by decide) (fun c_10 => ?_) (fun c_10 => ?_)
      · refine lv_iconst (v := (1 : Int32)) hx hb dX2_givesTo_40 (by decide) ?_
        refine lv_goto (tgt := 45) hx hb dX2_givesTo_41 (by decide) ?_
        refine lv_istore (lv' := [(4, .int (1 : Int32)), (3, .int (bg + cn)), (0, .ref b), (1, .int p0), (2, .int p1)]) hx hb dX2_givesTo_45 hl (by decide) rfl (fun ls hl => ?_)
        refine lv_iload hx hb dX2_givesTo_47 (lv_at hl 0 rfl) ?_
        refine lv_if_eq (tgt := 66) hx hb dX2_givesTo_49 (by decide) (fun c_11 => ?_) (fun c_11 => ?_)
        · exact absurd c_11 (by decide)
        · refine lv_aload_n hx hb dX2_givesTo_52 rfl (lv_at hl 2 rfl) ?_
          refine lv_iconst (v := (1 : Int32)) hx hb dX2_givesTo_53 (by decide) ?_
          refine rcVi (As := [.int (1 : Int32)]) (rest := []) hx hb hml hown hts hKK hP (c_X2_isA l D cI cB cS h0 (1 : Int32)) (cwV2 1 hts kw_295 kw_29 kw_292 kw_293 kw_294 rfl rfl (by decide +kernel) ⟨Nat.le_of_ble_eq_true rfl, Nat.le_of_ble_eq_true rfl⟩) q (h0) rfl rfl rfl hl.1 rfl (Nat.le_of_ble_eq_true rfl) ⟨Nat.zero_le _, Nat.zero_le _⟩ dX2_givesTo_54 ?_
          refine lv_if_eq (tgt := 66) hx hb dX2_givesTo_57 (by decide) (fun c_12 => ?_) (fun c_12 => ?_)
          · have c_12 := b2_z c_12
            refine lv_iconst (v := (0 : Int32)) hx hb dX2_givesTo_66 (by decide) ?_
            exact retRi hx hb hr hlk dX2_givesTo_67 (by grind [cGives])
          · have c_12 := b2_nz c_12
            refine lv_iload_n hx hb dX2_givesTo_60 rfl (lv_at hl 4 rfl) ?_
            refine lv_iconst (v := (2 : Int32)) hx hb dX2_givesTo_61 (by decide) ?_
            refine lv_idiv hx hb dX2_givesTo_62 (by decide) ?_
            refine lv_goto (tgt := 67) hx hb dX2_givesTo_63 (by decide) ?_
            exact retRi hx hb hr hlk dX2_givesTo_67 (by grind [cGives])
      · refine lv_iload_n hx hb dX2_givesTo_35 rfl (lv_at hl 2 rfl) ?_
        refine lv_iload_n hx hb dX2_givesTo_36 rfl (lv_at hl 0 rfl) ?_
        refine lv_icmp_ne (tgt := 44) hx hb dX2_givesTo_37 (by decide) (fun c_13 => ?_) (fun c_13 => ?_)
        · refine lv_iconst (v := (0 : Int32)) hx hb dX2_givesTo_44 (by decide) ?_
          refine lv_istore (lv' := [(4, .int (0 : Int32)), (3, .int (bg + cn)), (0, .ref b), (1, .int p0), (2, .int p1)]) hx hb dX2_givesTo_45 hl (by decide) rfl (fun ls hl => ?_)
          refine lv_iload hx hb dX2_givesTo_47 (lv_at hl 0 rfl) ?_
          refine lv_if_eq (tgt := 66) hx hb dX2_givesTo_49 (by decide) (fun c_14 => ?_) (fun c_14 => ?_)
          · refine lv_iconst (v := (0 : Int32)) hx hb dX2_givesTo_66 (by decide) ?_
            exact retRi hx hb hr hlk dX2_givesTo_67 (by grind [cGives])
          · exact absurd c_14 (by decide)
        · refine lv_iconst (v := (1 : Int32)) hx hb dX2_givesTo_40 (by decide) ?_
          refine lv_goto (tgt := 45) hx hb dX2_givesTo_41 (by decide) ?_
          refine lv_istore (lv' := [(4, .int (1 : Int32)), (3, .int (bg + cn)), (0, .ref b), (1, .int p0), (2, .int p1)]) hx hb dX2_givesTo_45 hl (by decide) rfl (fun ls hl => ?_)
          refine lv_iload hx hb dX2_givesTo_47 (lv_at hl 0 rfl) ?_
          refine lv_if_eq (tgt := 66) hx hb dX2_givesTo_49 (by decide) (fun c_15 => ?_) (fun c_15 => ?_)
          · exact absurd c_15 (by decide)
          · refine lv_aload_n hx hb dX2_givesTo_52 rfl (lv_at hl 2 rfl) ?_
            refine lv_iconst (v := (1 : Int32)) hx hb dX2_givesTo_53 (by decide) ?_
            refine rcVi (As := [.int (1 : Int32)]) (rest := []) hx hb hml hown hts hKK hP (c_X2_isA l D cI cB cS h0 (1 : Int32)) (cwV2 1 hts kw_295 kw_29 kw_292 kw_293 kw_294 rfl rfl (by decide +kernel) ⟨Nat.le_of_ble_eq_true rfl, Nat.le_of_ble_eq_true rfl⟩) q (h0) rfl rfl rfl hl.1 rfl (Nat.le_of_ble_eq_true rfl) ⟨Nat.zero_le _, Nat.zero_le _⟩ dX2_givesTo_54 ?_
            refine lv_if_eq (tgt := 66) hx hb dX2_givesTo_57 (by decide) (fun c_16 => ?_) (fun c_16 => ?_)
            · have c_16 := b2_z c_16
              refine lv_iconst (v := (0 : Int32)) hx hb dX2_givesTo_66 (by decide) ?_
              exact retRi hx hb hr hlk dX2_givesTo_67 (by grind [cGives])
            · have c_16 := b2_nz c_16
              refine lv_iload_n hx hb dX2_givesTo_60 rfl (lv_at hl 4 rfl) ?_
              refine lv_iconst (v := (2 : Int32)) hx hb dX2_givesTo_61 (by decide) ?_
              refine lv_idiv hx hb dX2_givesTo_62 (by decide) ?_
              refine lv_goto (tgt := 67) hx hb dX2_givesTo_63 (by decide) ?_
              exact retRi hx hb hr hlk dX2_givesTo_67 (by grind [cGives])
    · refine lv_iload_n hx hb dX2_givesTo_23 rfl (lv_at hl 3 rfl) ?_
      exact retRi hx hb hr hlk dX2_givesTo_24 (by grind [cGives])
