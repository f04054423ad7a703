/-! State's, and what the class's readers answer -/
theorem wsB_set16 {B : Nat → Nat} {cI cS : ClassId} {I : Nat → Int32} {F : Nat → Nat → Int32} {k : Nat} (h : k < 6) (a : Int32) : (wsB B cI cS I F).set (16 + k) (B (16 + k), .inr (2, [.int (nI k), .int a, .int (F 17 k), .int (F 18 k), .int (F 19 k)])) = wsB B cI cS I (va_up F 16 (upd (F 16) k a)) := by
  match k, h with
  | 0, _ => rfl
  | 1, _ => rfl
  | 2, _ => rfl
  | 3, _ => rfl
  | 4, _ => rfl
  | 5, _ => rfl
  | k + 6, h => exact absurd h (by omega)
theorem wsB_set17 {B : Nat → Nat} {cI cS : ClassId} {I : Nat → Int32} {F : Nat → Nat → Int32} {k : Nat} (h : k < 6) (a : Int32) : (wsB B cI cS I F).set (16 + k) (B (16 + k), .inr (2, [.int (nI k), .int (F 16 k), .int a, .int (F 18 k), .int (F 19 k)])) = wsB B cI cS I (va_up F 17 (upd (F 17) k a)) := by
  match k, h with
  | 0, _ => rfl
  | 1, _ => rfl
  | 2, _ => rfl
  | 3, _ => rfl
  | 4, _ => rfl
  | 5, _ => rfl
  | k + 6, h => exact absurd h (by omega)
theorem wsB_set18 {B : Nat → Nat} {cI cS : ClassId} {I : Nat → Int32} {F : Nat → Nat → Int32} {k : Nat} (h : k < 6) (a : Int32) : (wsB B cI cS I F).set (16 + k) (B (16 + k), .inr (2, [.int (nI k), .int (F 16 k), .int (F 17 k), .int a, .int (F 19 k)])) = wsB B cI cS I (va_up F 18 (upd (F 18) k a)) := by
  match k, h with
  | 0, _ => rfl
  | 1, _ => rfl
  | 2, _ => rfl
  | 3, _ => rfl
  | 4, _ => rfl
  | 5, _ => rfl
  | k + 6, h => exact absurd h (by omega)
theorem wsB_set19 {B : Nat → Nat} {cI cS : ClassId} {I : Nat → Int32} {F : Nat → Nat → Int32} {k : Nat} (h : k < 6) (a : Int32) : (wsB B cI cS I F).set (16 + k) (B (16 + k), .inr (2, [.int (nI k), .int (F 16 k), .int (F 17 k), .int (F 18 k), .int a])) = wsB B cI cS I (va_up F 19 (upd (F 19) k a)) := by
  match k, h with
  | 0, _ => rfl
  | 1, _ => rfl
  | 2, _ => rfl
  | 3, _ => rfl
  | 4, _ => rfl
  | 5, _ => rfl
  | k + 6, h => exact absurd h (by omega)
/-- a row whose places below i are g's, the others f's -/
def rowN (g f : Nat → Int32) (i : Nat) : Nat → Int32 := fun c => if c < i then g c else f c
theorem rowN_0 {g f : Nat → Int32} : rowN g f 0 = f := by
  funext c
  simp [rowN]
theorem rowN_upd {g f : Nat → Int32} {i : Nat} : upd (rowN g f i) i (g i) = rowN g f (i + 1) := by
  funext c
  unfold upd rowN
  by_cases h : c = i
  · subst h; simp
  · rw [if_neg h]
    by_cases h2 : c < i
    · rw [if_pos h2, if_pos (by omega)]
    · rw [if_neg h2, if_neg (by omega)]
theorem rowN_at {g f : Nat → Int32} {i : Nat} : rowN g f i i = f i := by simp [rowN]
abbrev bitOn (sd x : Int32) : Prop := (sd >>> (x &&& 31)) &&& 1 = 1
def cPut (sd x z : Int32) : Int32 := if z = 0 then sd &&& ((1 <<< (x &&& 31)) ^^^ (-1)) else sd ||| (1 <<< (x &&& 31))
abbrev okS (n : Nat) (x : Int32) : Prop := ¬ x < 0 ∧ ¬ nI n ≤ x
theorem okS_nat {n : Nat} {x : Int32} (hn : n ≤ 6) (h : okS n x) : ∃ k : Nat, k < n ∧ x = nI k := by
  rcases pk_ix x (n := n) (by omega) with h1 | h1 | h1
  · exact absurd h1 h.1
  · exact absurd h1 h.2
  · exact h1
theorem okS_6 {n : Nat} {x : Int32} (hn : n ≤ 6) (h : ¬ nI n ≤ x) : ¬ (6 : Int32) ≤ x := fun h6 => h (Int32.le_trans (nI_le (a := n) (b := 6) hn (by decide)) h6)
abbrev okCell (x : Int32) : Prop := ¬ x < 0 ∧ ¬ (10 : Int32) ≤ x
abbrev okKind (x : Int32) : Prop := ¬ x < 0 ∧ ¬ (4 : Int32) < x
abbrev okMin (x : Int32) : Prop := ¬ x < 0 ∧ ¬ (20 : Int32) < x
abbrev okMuch (x : Int32) : Prop := ¬ x < 0 ∧ ¬ (99 : Int32) < x
def cTerm (F : Nat → Nat → Int32) (sd land minute changed press : Int32) (k : Nat) : Int32 :=
  if bitOn sd (nI k) then 0 else cGives (F 17 k) (F 18 k) (F 16 k) (9 - land) (cWet (nI k) (F 16 k) minute (if nI k = changed then press else F 19 k))
def cComes (F : Nat → Nat → Int32) (sd : Int32) (n : Nat) (land minute changed press : Int32) : Int32 := sumN (cTerm F sd land minute changed press) n
/-- what comes now -/
abbrev cNow (F : Nat → Nat → Int32) (sd : Int32) (n : Nat) (land minute : Int32) : Int32 := cComes F sd n land minute (-1) 0
abbrev cPress (F : Nat → Nat → Int32) (sd : Int32) (n : Nat) (minute : Int32) (f : Nat → Int32) (c : Nat) : Int32 := if f c + cNow F sd n (nI c) minute < 99 then f c + cNow F sd n (nI c) minute else 99
set_option maxHeartbeats 1000000 in
set_option maxRecDepth 100000 in
theorem c_X1_isSanded (l : Launch) (D : va_G) (cI cB cS : ClassId) {ws : va_W} {q b : Nat} {a1 a2 a3 a4 : Nat} {n0 sd ev fd : Int32} (h0 : ws[q]? = some (b, .inr (1, [.int n0, .int sd, .int ev, .int fd, .ref a1, .ref a2, .ref a3, .ref a4]))) (p0 : Int32) : Met l yX1_isSanded (Wm yX1_isSanded cX1_isSanded 2 (some .boolean)) ({ frames := 0, cells := 0, slots := 0, locals := 0 }) (va_Pc [.ref b, .int p0] (PR D (TYS cI cB cS) ws)) (QcV (some (.int (b2 (bitOn sd p0))))) 0 0 (fun _ => False) := by
  refine metR (by decide) [.ref b, .int p0] (Nat.le_of_ble_eq_true rfl) ?_
  intro p e s m args below meth c hx hb hml hr hlk hown hts hKK hP ls hl
  obtain ⟨hK, hN⟩ := id hKK
  have hl : lv_has ls 2 [(0, .ref b), (1, .int p0)] := hl
  refine lv_aload_n hx hb dX1_isSanded_0 rfl (lv_at hl 0 rfl) ?_
  refine va_get (D := D) (ci := 1) (v := .int sd) (C := RX1) (T := TX1) (N := 8) hx hb hts inlX1 hown hK hP q h0 rfl 1 (by decide) (hts _ kw_39) (fun _ h9 => h9) rfl dX1_isSanded_1 ?_
  refine lv_iload_n hx hb dX1_isSanded_4 rfl (lv_at hl 1 rfl) ?_
  refine lv_ishr hx hb dX1_isSanded_5 ?_
  refine lv_iconst (v := (1 : Int32)) hx hb dX1_isSanded_6 (by decide) ?_
  refine lv_iand hx hb dX1_isSanded_7 ?_
  refine lv_iconst (v := (1 : Int32)) hx hb dX1_isSanded_8 (by decide) ?_
  refine lv_icmp_ne (tgt := 16) hx hb dX1_isSanded_9 (by decide) (fun c_1 => ?_) (fun c_1 => ?_)
  · refine lv_iconst (v := (0 : Int32)) hx hb dX1_isSanded_16 (by decide) ?_
    exact retRz hx hb hr hlk dX1_isSanded_17 (by grind [b2])
  · refine lv_iconst (v := (1 : Int32)) hx hb dX1_isSanded_12 (by decide) ?_
    refine lv_goto (tgt := 17) hx hb dX1_isSanded_13 (by decide) ?_
    exact retRz hx hb hr hlk dX1_isSanded_17 (by grind [b2])
set_option maxHeartbeats 1000000 in
set_option maxRecDepth 100000 in
theorem c_X3_isCell (l : Launch) (D : va_G) (cI cB cS : ClassId) {ws : va_W} (p0 : Int32) : Met l yX3_isCell (Wm yX3_isCell cX3_isCell 1 (some .boolean)) ({ frames := 0, cells := 0, slots := 0, locals := 0 }) (va_Pc [.int p0] (PR D (TYS cI cB cS) ws)) (QcV (some (.int (b2 (okCell p0))))) 0 0 (fun _ => False) := by
  refine metR (by decide) [.int p0] (Nat.le_of_ble_eq_true rfl) ?_
  intro p e s m args below meth c hx hb hml hr hlk hown hts hKK hP ls hl
  obtain ⟨hK, hN⟩ := id hKK
  have hl : lv_has ls 1 [(0, .int p0)] := hl
  refine lv_iload_n hx hb dX3_isCell_0 rfl (lv_at hl 0 rfl) ?_
  refine lv_if_lt (tgt := 14) hx hb dX3_isCell_1 (by decide) (fun c_1 => ?_) (fun c_1 => ?_)
  · refine lv_iconst (v := (0 : Int32)) hx hb dX3_isCell_14 (by decide) ?_
    exact retRz hx hb hr hlk dX3_isCell_15 (by grind [b2])
  · refine lv_iload_n hx hb dX3_isCell_4 rfl (lv_at hl 0 rfl) ?_
    refine lv_bipush (v := (10 : Int32)) hx hb dX3_isCell_5 (by decide) ?_
    refine lv_icmp_ge (tgt := 14) hx hb dX3_isCell_7 (by decide) (fun c_2 => ?_) (fun c_2 => ?_)
    · refine lv_iconst (v := (0 : Int32)) hx hb dX3_isCell_14 (by decide) ?_
      exact retRz hx hb hr hlk dX3_isCell_15 (by grind [b2])
    · refine lv_iconst (v := (1 : Int32)) hx hb dX3_isCell_10 (by decide) ?_
      refine lv_goto (tgt := 15) hx hb dX3_isCell_11 (by decide) ?_
      exact retRz hx hb hr hlk dX3_isCell_15 (by grind [b2])
set_option maxHeartbeats 1000000 in
set_option maxRecDepth 100000 in
theorem c_X3_isKind (l : Launch) (D : va_G) (cI cB cS : ClassId) {ws : va_W} (p0 : Int32) : Met l yX3_isKind (Wm yX3_isKind cX3_isKind 1 (some .boolean)) ({ frames := 0, cells := 0, slots := 0, locals := 0 }) (va_Pc [.int p0] (PR D (TYS cI cB cS) ws)) (QcV (some (.int (b2 (okKind p0))))) 0 0 (fun _ => False) := by
  refine metR (by decide) [.int p0] (Nat.le_of_ble_eq_true rfl) ?_
  intro p e s m args below meth c hx hb hml hr hlk hown hts hKK hP ls hl
  obtain ⟨hK, hN⟩ := id hKK
  have hl : lv_has ls 1 [(0, .int p0)] := hl
  refine lv_iload_n hx hb dX3_isKind_0 rfl (lv_at hl 0 rfl) ?_
  refine lv_if_lt (tgt := 13) hx hb dX3_isKind_1 (by decide) (fun c_1 => ?_) (fun c_1 => ?_)
  · refine lv_iconst (v := (0 : Int32)) hx hb dX3_isKind_13 (by decide) ?_
    exact retRz hx hb hr hlk dX3_isKind_14 (by grind [b2])
  · refine lv_iload_n hx hb dX3_isKind_4 rfl (lv_at hl 0 rfl) ?_
    refine lv_iconst (v := (4 : Int32)) hx hb dX3_isKind_5 (by decide) ?_
    refine lv_icmp_gt (tgt := 13) hx hb dX3_isKind_6 (by decide) (fun c_2 => ?_) (fun c_2 => ?_)
    · refine lv_iconst (v := (0 : Int32)) hx hb dX3_isKind_13 (by decide) ?_
      exact retRz hx hb hr hlk dX3_isKind_14 (by grind [b2])
    · refine lv_iconst (v := (1 : Int32)) hx hb dX3_isKind_9 (by decide) ?_
      refine lv_goto (tgt := 14) hx hb dX3_isKind_10 (by decide) ?_
      exact retRz hx hb hr hlk dX3_isKind_14 (by grind [b2])
set_option maxHeartbeats 1000000 in
set_option maxRecDepth 100000 in
theorem c_X3_isMinute (l : Launch) (D : va_G) (cI cB cS : ClassId) {ws : va_W} (p0 : Int32) : Met l yX3_isMinute (Wm yX3_isMinute cX3_isMinute 1 (some .boolean)) ({ frames := 0, cells := 0, slots := 0, locals := 0 }) (va_Pc [.int p0] (PR D (TYS cI cB cS) ws)) (QcV (some (.int (b2 (okMin p0))))) 0 0 (fun _ => False) := by
  refine metR (by decide) [.int p0] (Nat.le_of_ble_eq_true rfl) ?_
  intro p e s m args below meth c hx hb hml hr hlk hown hts hKK hP ls hl
  obtain ⟨hK, hN⟩ := id hKK
  have hl : lv_has ls 1 [(0, .int p0)] := hl
  refine lv_iload_n hx hb dX3_isMinute_0 rfl (lv_at hl 0 rfl) ?_
  refine lv_if_lt (tgt := 14) hx hb dX3_isMinute_1 (by decide) (fun c_1 => ?_) (fun c_1 => ?_)
  · refine lv_iconst (v := (0 : Int32)) hx hb dX3_isMinute_14 (by decide) ?_
    exact retRz hx hb hr hlk dX3_isMinute_15 (by grind [b2])
  · refine lv_iload_n hx hb dX3_isMinute_4 rfl (lv_at hl 0 rfl) ?_
    refine lv_bipush (v := (20 : Int32)) hx hb dX3_isMinute_5 (by decide) ?_
    refine lv_icmp_gt (tgt := 14) hx hb dX3_isMinute_7 (by decide) (fun c_2 => ?_) (fun c_2 => ?_)
    · refine lv_iconst (v := (0 : Int32)) hx hb dX3_isMinute_14 (by decide) ?_
      exact retRz hx hb hr hlk dX3_isMinute_15 (by grind [b2])
    · refine lv_iconst (v := (1 : Int32)) hx hb dX3_isMinute_10 (by decide) ?_
      refine lv_goto (tgt := 15) hx hb dX3_isMinute_11 (by decide) ?_
      exact retRz hx hb hr hlk dX3_isMinute_15 (by grind [b2])
set_option maxHeartbeats 1000000 in
set_option maxRecDepth 100000 in
theorem c_X3_isMuch (l : Launch) (D : va_G) (cI cB cS : ClassId) {ws : va_W} (p0 : Int32) : Met l yX3_isMuch (Wm yX3_isMuch cX3_isMuch 1 (some .boolean)) ({ frames := 0, cells := 0, slots := 0, locals := 0 }) (va_Pc [.int p0] (PR D (TYS cI cB cS) ws)) (QcV (some (.int (b2 (okMuch p0))))) 0 0 (fun _ => False) := by
  refine metR (by decide) [.int p0] (Nat.le_of_ble_eq_true rfl) ?_
  intro p e s m args below meth c hx hb hml hr hlk hown hts hKK hP ls hl
  obtain ⟨hK, hN⟩ := id hKK
  have hl : lv_has ls 1 [(0, .int p0)] := hl
  refine lv_iload_n hx hb dX3_isMuch_0 rfl (lv_at hl 0 rfl) ?_
  refine lv_if_lt (tgt := 14) hx hb dX3_isMuch_1 (by decide) (fun c_1 => ?_) (fun c_1 => ?_)
  · refine lv_iconst (v := (0 : Int32)) hx hb dX3_isMuch_14 (by decide) ?_
    exact retRz hx hb hr hlk dX3_isMuch_15 (by grind [b2])
  · refine lv_iload_n hx hb dX3_isMuch_4 rfl (lv_at hl 0 rfl) ?_
    refine lv_bipush (v := (99 : Int32)) hx hb dX3_isMuch_5 (by decide) ?_
    refine lv_icmp_gt (tgt := 14) hx hb dX3_isMuch_7 (by decide) (fun c_2 => ?_) (fun c_2 => ?_)
    · refine lv_iconst (v := (0 : Int32)) hx hb dX3_isMuch_14 (by decide) ?_
      exact retRz hx hb hr hlk dX3_isMuch_15 (by grind [b2])
    · refine lv_iconst (v := (1 : Int32)) hx hb dX3_isMuch_10 (by decide) ?_
      refine lv_goto (tgt := 15) hx hb dX3_isMuch_11 (by decide) ?_
      exact retRz hx hb hr hlk dX3_isMuch_15 (by grind [b2])
set_option maxHeartbeats 1000000 in
set_option maxRecDepth 100000 in
theorem c_X3_hasLeaf (l : Launch) (D : va_G) (cI cB cS : ClassId) {B : Nat → Nat} {I : Nat → Int32} {F : Nat → Nat → Int32} {n : Nat} (hn : n ≤ 6) (h3 : I 3 = nI n) : Met l yX3_hasLeaf (Wm yX3_hasLeaf cX3_hasLeaf 1 (some .boolean)) ({ frames := 0, cells := 0, slots := 0, locals := 0 }) (va_Pc [.ref (B 0)] (PR D (TYS cI cB cS) (wsB B cI cS I F))) (QcV (some (.int (b2 (0 < n))))) 0 0 (fun _ => False) := by
  refine metR (by decide) [.ref (B 0)] (Nat.le_of_ble_eq_true rfl) ?_
  intro p e s m args below meth c hx hb hml hr hlk hown hts hKK hP ls hl
  obtain ⟨hK, hN⟩ := id hKK
  have hl : lv_has ls 1 [(0, .ref (B 0))] := hl
  refine lv_aload_n hx hb dX3_hasLeaf_0 rfl (lv_at hl 0 rfl) ?_
  refine va_get (D := D) (ci := 3) (v := .ref (B 3)) (C := RX3) (T := TX3) (N := 8) hx hb hts inlX3 hown hK hP 0 rfl rfl 2 (by decide) (hts _ kw_21) (fun _ h9 => h9) rfl dX3_hasLeaf_1 ?_
  refine va_getN (D := D) (ci := 1) (v := .int (I 3)) (C := RX1) (T := TX1) (N := 8) hx hb hts inlX1 hown hK hP 3 rfl rfl 0 (by decide) (nfF_1 hN) (fun _ h9 => h9) rfl dX3_hasLeaf_4 ?_
  refine topE (z := (nI n)) h3 ?_
  refine lv_if_le (tgt := 14) hx hb dX3_hasLeaf_7 (by decide) (fun c_1 => ?_) (fun c_1 => ?_)
  · have nc_1 : n ≤ 0 := (nI_leI (a := n) (b := 0) (by omega) (by omega)).mp c_1
    refine lv_iconst (v := (0 : Int32)) hx hb dX3_hasLeaf_14 (by decide) ?_
    exact retRz hx hb hr hlk dX3_hasLeaf_15 (by grind [b2])
  · have nc_1 : ¬ n ≤ 0 := fun h => c_1 ((nI_leI (a := n) (b := 0) (by omega) (by omega)).mpr h)
    refine lv_iconst (v := (1 : Int32)) hx hb dX3_hasLeaf_10 (by decide) ?_
    refine lv_goto (tgt := 15) hx hb dX3_hasLeaf_11 (by decide) ?_
    exact retRz hx hb hr hlk dX3_hasLeaf_15 (by grind [b2])
set_option maxHeartbeats 1000000 in
set_option maxRecDepth 100000 in
theorem c_X3_isStroke (l : Launch) (D : va_G) (cI cB cS : ClassId) {B : Nat → Nat} {I : Nat → Int32} {F : Nat → Nat → Int32} {n : Nat} (hn : n ≤ 6) (h3 : I 3 = nI n) (p0 : Int32) : Met l yX3_isStroke (Wm yX3_isStroke cX3_isStroke 2 (some .boolean)) ({ frames := 0, cells := 0, slots := 0, locals := 0 }) (va_Pc [.ref (B 0), .int p0] (PR D (TYS cI cB cS) (wsB B cI cS I F))) (QcV (some (.int (b2 (okS n p0))))) 0 0 (fun _ => False) := by
  refine metR (by decide) [.ref (B 0), .int p0] (Nat.le_of_ble_eq_true rfl) ?_
  intro p e s m args below meth c hx hb hml hr hlk hown hts hKK hP ls hl
  obtain ⟨hK, hN⟩ := id hKK
  have hl : lv_has ls 2 [(0, .ref (B 0)), (1, .int p0)] := hl
  refine lv_iload_n hx hb dX3_isStroke_0 rfl (lv_at hl 1 rfl) ?_
  refine lv_if_lt (tgt := 28) hx hb dX3_isStroke_1 (by decide) (fun c_1 => ?_) (fun c_1 => ?_)
  · refine lv_iconst (v := (0 : Int32)) hx hb dX3_isStroke_28 (by decide) ?_
    exact retRz hx hb hr hlk dX3_isStroke_29 (by grind [b2])
  · refine lv_iload_n hx hb dX3_isStroke_4 rfl (lv_at hl 1 rfl) ?_
    refine lv_aload_n hx hb dX3_isStroke_5 rfl (lv_at hl 0 rfl) ?_
    refine va_get (D := D) (ci := 3) (v := .ref (B 3)) (C := RX3) (T := TX3) (N := 8) hx hb hts inlX3 hown hK hP 0 rfl rfl 2 (by decide) (hts _ kw_21) (fun _ h9 => h9) rfl dX3_isStroke_6 ?_
    refine va_getN (D := D) (ci := 1) (v := .int (I 3)) (C := RX1) (T := TX1) (N := 8) hx hb hts inlX1 hown hK hP 3 rfl rfl 0 (by decide) (nfF_1 hN) (fun _ h9 => h9) rfl dX3_isStroke_9 ?_
    refine topE (z := (nI n)) h3 ?_
    refine lv_icmp_ge (tgt := 28) hx hb dX3_isStroke_12 (by decide) (fun c_2 => ?_) (fun c_2 => ?_)
    · refine lv_iconst (v := (0 : Int32)) hx hb dX3_isStroke_28 (by decide) ?_
      exact retRz hx hb hr hlk dX3_isStroke_29 (by grind [b2])
    · refine lv_iload_n hx hb dX3_isStroke_15 rfl (lv_at hl 1 rfl) ?_
      refine lv_aload_n hx hb dX3_isStroke_16 rfl (lv_at hl 0 rfl) ?_
      refine va_get (D := D) (ci := 3) (v := .ref (B 2)) (C := RX3) (T := TX3) (N := 8) hx hb hts inlX3 hown hK hP 0 rfl rfl 1 (by decide) (hts _ kw_17) (fun _ h9 => h9) rfl dX3_isStroke_17 ?_
      refine va_alen (D := D) hx hb hK hP 2 2 rfl rfl (v := (6 : Int32)) rfl dX3_isStroke_20 ?_
      refine lv_icmp_ge (tgt := 28) hx hb dX3_isStroke_21 (by decide) (fun c_3 => ?_) (fun c_3 => ?_)
      · exact absurd c_3 (okS_6 hn (by assumption))
      · refine lv_iconst (v := (1 : Int32)) hx hb dX3_isStroke_24 (by decide) ?_
        refine lv_goto (tgt := 29) hx hb dX3_isStroke_25 (by decide) ?_
        exact retRz hx hb hr hlk dX3_isStroke_29 (by grind [b2])
set_option maxHeartbeats 1000000 in
set_option maxRecDepth 100000 in
theorem c_X3_isLand (l : Launch) (D : va_G) (cI cB cS : ClassId) {B : Nat → Nat} {I : Nat → Int32} {F : Nat → Nat → Int32} {n : Nat} (hn : n ≤ 6) (h3 : I 3 = nI n) (p0 : Int32) : Met l yX3_isLand (Wm yX3_isLand cX3_isLand 2 (some .boolean)) ({ frames := 1, cells := 0, slots := 0, locals := 20 }) (va_Pc [.ref (B 0), .int p0] (PR D (TYS cI cB cS) (wsB B cI cS I F))) (QcV (some (.int (b2 (0 < n ∧ okCell p0))))) 0 0 (fun _ => False) := by
  refine metR (by decide) [.ref (B 0), .int p0] (Nat.le_of_ble_eq_true rfl) ?_
  intro p e s m args below meth c hx hb hml hr hlk hown hts hKK hP ls hl
  obtain ⟨hK, hN⟩ := id hKK
  have hl : lv_has ls 2 [(0, .ref (B 0)), (1, .int p0)] := hl
  refine lv_aload_n hx hb dX3_isLand_0 rfl (lv_at hl 0 rfl) ?_
  refine rcVi (As := []) (rest := []) hx hb hml hown hts hKK hP (c_X3_hasLeaf l D cI cB cS hn h3 ) (cwV2 0 hts kw_353 kw_3 kw_350 kw_351 kw_352 rfl rfl (by decide +kernel) ⟨Nat.le_of_ble_eq_true rfl, Nat.le_of_ble_eq_true rfl⟩) 0 rfl rfl rfl rfl hl.1 rfl (Nat.le_of_ble_eq_true rfl) ⟨Nat.zero_le _, Nat.zero_le _⟩ dX3_isLand_1 ?_
  refine lv_if_eq (tgt := 18) hx hb dX3_isLand_4 (by decide) (fun c_1 => ?_) (fun c_1 => ?_)
  · have c_1 := b2_z c_1
    refine lv_iconst (v := (0 : Int32)) hx hb dX3_isLand_18 (by decide) ?_
    exact retRz hx hb hr hlk dX3_isLand_19 (by grind [b2])
  · have c_1 := b2_nz c_1
    refine lv_iload_n hx hb dX3_isLand_7 rfl (lv_at hl 1 rfl) ?_
    refine rcSi (As := [.int p0]) (rest := []) hx hb hml hown hts hKK hP (c_X3_isCell l D cI cB cS p0) (cwS2 1 hts kw_349 kw_3 kw_347 kw_348 rfl rfl (by decide +kernel) ⟨Nat.le_of_ble_eq_true rfl, Nat.le_of_ble_eq_true rfl⟩) rfl hl.1 rfl (Nat.le_of_ble_eq_true rfl) ⟨Nat.zero_le _, Nat.zero_le _⟩ dX3_isLand_8 ?_
    refine lv_if_eq (tgt := 18) hx hb dX3_isLand_11 (by decide) (fun c_2 => ?_) (fun c_2 => ?_)
    · have c_2 := b2_z c_2
      refine lv_iconst (v := (0 : Int32)) hx hb dX3_isLand_18 (by decide) ?_
      exact retRz hx hb hr hlk dX3_isLand_19 (by grind [b2])
    · have c_2 := b2_nz c_2
      refine lv_iconst (v := (1 : Int32)) hx hb dX3_isLand_14 (by decide) ?_
      refine lv_goto (tgt := 19) hx hb dX3_isLand_15 (by decide) ?_
      exact retRz hx hb hr hlk dX3_isLand_19 (by grind [b2])
set_option maxHeartbeats 1000000 in
set_option maxRecDepth 100000 in
theorem c_X3_comesIf (l : Launch) (D : va_G) (cI cB cS : ClassId) {B : Nat → Nat} {I : Nat → Int32} {F : Nat → Nat → Int32} {n : Nat} (hn : n ≤ 6) (h3 : I 3 = nI n) (p0 p1 p2 p3 : Int32) : Met l yX3_comesIf (Wm yX3_comesIf cX3_comesIf 10 (some .int)) ({ frames := 2, cells := 0, slots := 0, locals := 45 }) (va_Pc [.ref (B 0), .int p0, .int p1, .int p2, .int p3] (PR D (TYS cI cB cS) (wsB B cI cS I F))) (QcV (some (.int (cComes F (I 4) n p0 p1 p2 p3)))) 0 0 (fun _ => False) := by
  refine metR (by decide) [.ref (B 0), .int p0, .int p1, .int p2, .int p3] (Nat.le_of_ble_eq_true rfl) ?_
  intro p e s m args below meth c hx hb hml hr hlk hown hts hKK hP ls hl
  obtain ⟨hK, hN⟩ := id hKK
  have hl : lv_has ls 10 [(0, .ref (B 0)), (1, .int p0), (2, .int p1), (3, .int p2), (4, .int p3)] := hl
  refine lv_bipush (v := (9 : Int32)) hx hb dX3_comesIf_0 (by decide) ?_
  refine lv_iload_n hx hb dX3_comesIf_2 rfl (lv_at hl 1 rfl) ?_
  refine lv_isub hx hb dX3_comesIf_3 ?_
  refine lv_istore (lv' := [(5, .int ((9 : Int32) - p0)), (0, .ref (B 0)), (1, .int p0), (2, .int p1), (3, .int p2), (4, .int p3)]) hx hb dX3_comesIf_4 hl (by decide) rfl (fun ls hl => ?_)
  refine lv_iconst (v := (0 : Int32)) hx hb dX3_comesIf_6 (by decide) ?_
  refine lv_istore (lv' := [(6, .int (0 : Int32)), (5, .int ((9 : Int32) - p0)), (0, .ref (B 0)), (1, .int p0), (2, .int p1), (3, .int p2), (4, .int p3)]) hx hb dX3_comesIf_7 hl (by decide) rfl (fun ls hl => ?_)
  refine lv_iconst (v := (0 : Int32)) hx hb dX3_comesIf_9 (by decide) ?_
  refine lv_istore (lv' := [(7, .int (0 : Int32)), (6, .int (0 : Int32)), (5, .int ((9 : Int32) - p0)), (0, .ref (B 0)), (1, .int p0), (2, .int p1), (3, .int p2), (4, .int p3)]) hx hb dX3_comesIf_10 hl (by decide) rfl (fun ls hl => ?_)
  have loop_12 : ∀ (z : Nat) (k : Nat) (x6 : Int32) (x7 : Int32), x6 = sumN (cTerm F (I 4) p0 p1 p2 p3) k → x7 = nI k → (k ≤ n) → n - k < z → ∀ (ls : Array Slot), lv_has ls 10 [(0, .ref (B 0)), (1, .int p0), (2, .int p1), (3, .int p2), (4, .int p3), (5, .int ((9 : Int32) - p0)), (6, .int x6), (7, .int x7)] → W p l e ({ frames := 2, cells := 0, slots := 0, locals := 45 } : Room) s m args below meth c s.heap [] 0 0 (MQ below (QcV (some (.int (cComes F (I 4) n p0 p1 p2 p3)))) args s 0 0 (fun _ => False)) (F0 m 12 ls []) := by
    intro z
    induction z with
    | zero =>
      intro k x6 x7 ex6 ex7 hk hz
      exact absurd hz (Nat.not_lt_zero _)
    | succ z ih_12 =>
      intro k x6 x7 ex6 ex7 hk hz ls hl
      subst ex6
      subst ex7
      refine lv_iload hx hb dX3_comesIf_12 (lv_at hl 7 rfl) ?_
      refine lv_aload_n hx hb dX3_comesIf_14 rfl (lv_at hl 0 rfl) ?_
      refine va_get (D := D) (ci := 3) (v := .ref (B 3)) (C := RX3) (T := TX3) (N := 8) hx hb hts inlX3 hown hK hP 0 rfl rfl 2 (by decide) (hts _ kw_21) (fun _ h9 => h9) rfl dX3_comesIf_15 ?_
      refine va_getN (D := D) (ci := 1) (v := .int (I 3)) (C := RX1) (T := TX1) (N := 8) hx hb hts inlX1 hown hK hP 3 rfl rfl 0 (by decide) (nfF_1 hN) (fun _ h9 => h9) rfl dX3_comesIf_18 ?_
      refine topE (z := (nI n)) h3 ?_
      refine lv_icmp_ge (tgt := 99) hx hb dX3_comesIf_21 (by decide) (fun c_1 => ?_) (fun c_1 => ?_)
      · have nc_1 : n ≤ k := (nI_leI (a := n) (b := k) (by omega) (by omega)).mp c_1
        refine lv_iload hx hb dX3_comesIf_99 (lv_at hl 6 rfl) ?_
        exact retRi hx hb hr hlk dX3_comesIf_101 (by have hkn : k = n := (by omega); subst hkn; rfl)
      · have nc_1 : ¬ n ≤ k := fun h => c_1 ((nI_leI (a := n) (b := k) (by omega) (by omega)).mpr h)
        refine lv_iload hx hb dX3_comesIf_24 (lv_at hl 7 rfl) ?_
        refine lv_aload_n hx hb dX3_comesIf_26 rfl (lv_at hl 0 rfl) ?_
        refine va_get (D := D) (ci := 3) (v := .ref (B 2)) (C := RX3) (T := TX3) (N := 8) hx hb hts inlX3 hown hK hP 0 rfl rfl 1 (by decide) (hts _ kw_17) (fun _ h9 => h9) rfl dX3_comesIf_27 ?_
        refine va_alen (D := D) hx hb hK hP 2 2 rfl rfl (v := (6 : Int32)) rfl dX3_comesIf_30 ?_
        refine lv_icmp_ge (tgt := 99) hx hb dX3_comesIf_31 (by decide) (fun c_2 => ?_) (fun c_2 => ?_)
        · have nc_2 : 6 ≤ k := (nI_leI (a := 6) (b := k) (by omega) (by omega)).mp c_2
          exfalso; omega
        · have nc_2 : ¬ 6 ≤ k := fun h => c_2 ((nI_leI (a := 6) (b := k) (by omega) (by omega)).mpr h)
          refine lv_aload_n hx hb dX3_comesIf_34 rfl (lv_at hl 0 rfl) ?_
          refine va_get (D := D) (ci := 3) (v := .ref (B 3)) (C := RX3) (T := TX3) (N := 8) hx hb hts inlX3 hown hK hP 0 rfl rfl 2 (by decide) (hts _ kw_21) (fun _ h9 => h9) rfl dX3_comesIf_35 ?_
          refine lv_iload hx hb dX3_comesIf_38 (lv_at hl 7 rfl) ?_
          refine rcVi (As := [.int (nI k)]) (rest := []) hx hb hml hown hts hKK hP (c_X1_isSanded l D cI cB cS (q := 3) rfl (nI k)) (cwV2 1 hts kw_270 kw_20 kw_267 kw_268 kw_269 rfl rfl (by decide +kernel) ⟨Nat.le_of_ble_eq_true rfl, Nat.le_of_ble_eq_true rfl⟩) 3 rfl rfl rfl rfl hl.1 rfl (Nat.le_of_ble_eq_true rfl) ⟨Nat.zero_le _, Nat.zero_le _⟩ dX3_comesIf_40 ?_
          refine lv_if_ne (tgt := 93) hx hb dX3_comesIf_43 (by decide) (fun c_3 => ?_) (fun c_3 => ?_)
          · have c_3 := b2_nz c_3
            refine lv_iinc (v := (nI (k + 1))) (lv' := [(7, .int (nI (k + 1))), (0, .ref (B 0)), (1, .int p0), (2, .int p1), (3, .int p2), (4, .int p3), (5, .int ((9 : Int32) - p0)), (6, .int (sumN (cTerm F (I 4) p0 p1 p2 p3) k))]) hx hb dX3_comesIf_93 hl (k := 7) rfl (nI_add k 1) (by decide) rfl (fun ls hl => ?_)
            refine lv_goto (tgt := 12) hx hb dX3_comesIf_96 (by decide) ?_
            exact ih_12 (k + 1) (sumN (cTerm F (I 4) p0 p1 p2 p3) k) (nI (k + 1)) (by grind [sumN, cTerm]) rfl (by omega) (by omega) ls (lv_sub hl [1, 2, 3, 4, 5, 6, 7, 0] rfl)
          · have c_3 := b2_z c_3
            refine lv_aload_n hx hb dX3_comesIf_46 rfl (lv_at hl 0 rfl) ?_
            refine va_get (D := D) (ci := 3) (v := .ref (B 2)) (C := RX3) (T := TX3) (N := 8) hx hb hts inlX3 hown hK hP 0 rfl rfl 1 (by decide) (hts _ kw_17) (fun _ h9 => h9) rfl dX3_comesIf_47 ?_
            refine lv_iload hx hb dX3_comesIf_50 (lv_at hl 7 rfl) ?_
            refine va_aldq (D := D) hx hb hK hP 2 2 rfl rfl (vp_in_nI (by omega) (by omega)) dX3_comesIf_52 ?_
            refine topV (z := .ref (B (16 + k))) (congrArg (fun j => Value.ref (B (16 + j))) (nI_clamp (n := k) (by omega))) ?_
            refine lv_astore (lv' := [(8, .ref (B (16 + k))), (0, .ref (B 0)), (1, .int p0), (2, .int p1), (3, .int p2), (4, .int p3), (5, .int ((9 : Int32) - p0)), (6, .int (sumN (cTerm F (I 4) p0 p1 p2 p3) k)), (7, .int (nI k))]) hx hb dX3_comesIf_53 hl (by decide) rfl (fun ls hl => ?_)
            refine lv_aload hx hb dX3_comesIf_55 (lv_at hl 0 rfl) ?_
            refine lv_iload_n hx hb dX3_comesIf_57 rfl (lv_at hl 3 rfl) ?_
            refine lv_iload hx hb dX3_comesIf_58 (lv_at hl 8 rfl) ?_
            refine lv_iload_n hx hb dX3_comesIf_60 rfl (lv_at hl 4 rfl) ?_
            refine lv_icmp_ne (tgt := 69) hx hb dX3_comesIf_61 (by decide) (fun c_4 => ?_) (fun c_4 => ?_)
            · refine lv_aload hx hb dX3_comesIf_69 (lv_at hl 0 rfl) ?_
              refine va_getN (D := D) (ci := 2) (v := .int ((F 19) k)) (C := RX2) (T := TX2) (N := 5) hx hb hts inlX2 hown hK hP (16 + k) (wsB_st (by omega)) rfl 4 (by decide) (nfF_12 hN) (fun _ h9 => h9) rfl dX3_comesIf_71 ?_
              refine rcVi (As := [.int p1, .int ((F 19) k)]) (rest := []) hx hb hml hown hts hKK hP (c_X2_wetAt l D cI cB cS (wsB_st (by omega)) p1 ((F 19) k)) (cwV2 2 hts kw_286 kw_29 kw_283 kw_284 kw_285 rfl rfl (by decide +kernel) ⟨Nat.le_of_ble_eq_true rfl, Nat.le_of_ble_eq_true rfl⟩) (16 + k) (wsB_st (by omega)) rfl rfl rfl hl.1 rfl (Nat.le_of_ble_eq_true rfl) ⟨Nat.zero_le _, Nat.zero_le _⟩ dX3_comesIf_74 ?_
              refine lv_istore (lv' := [(9, .int (cWet (nI k) ((F 16) k) p1 ((F 19) k))), (8, .ref (B (16 + k))), (0, .ref (B 0)), (1, .int p0), (2, .int p1), (3, .int p2), (4, .int p3), (5, .int ((9 : Int32) - p0)), (6, .int (sumN (cTerm F (I 4) p0 p1 p2 p3) k)), (7, .int (nI k))]) hx hb dX3_comesIf_77 hl (by decide) rfl (fun ls hl => ?_)
              refine lv_iload hx hb dX3_comesIf_79 (lv_at hl 8 rfl) ?_
              refine lv_aload hx hb dX3_comesIf_81 (lv_at hl 1 rfl) ?_
              refine lv_iload hx hb dX3_comesIf_83 (lv_at hl 7 rfl) ?_
              refine lv_iload hx hb dX3_comesIf_85 (lv_at hl 0 rfl) ?_
              refine rcVi (As := [.int ((9 : Int32) - p0), .int (cWet (nI k) ((F 16) k) p1 ((F 19) k))]) (rest := [.int (sumN (cTerm F (I 4) p0 p1 p2 p3) k)]) hx hb hml hown hts hKK hP (c_X2_givesTo l D cI cB cS (wsB_st (by omega)) ((9 : Int32) - p0) (cWet (nI k) ((F 16) k) p1 ((F 19) k))) (cwV2 2 hts kw_291 kw_29 kw_288 kw_289 kw_290 rfl rfl (by decide +kernel) ⟨Nat.le_of_ble_eq_true rfl, Nat.le_of_ble_eq_true rfl⟩) (16 + k) (wsB_st (by omega)) rfl rfl rfl hl.1 rfl (Nat.le_of_ble_eq_true rfl) ⟨Nat.zero_le _, Nat.zero_le _⟩ dX3_comesIf_87 ?_
              refine lv_iadd hx hb dX3_comesIf_90 ?_
              refine lv_istore (lv' := [(6, .int (sumN (cTerm F (I 4) p0 p1 p2 p3) k + (cGives ((F 17) k) ((F 18) k) ((F 16) k) ((9 : Int32) - p0) (cWet (nI k) ((F 16) k) p1 ((F 19) k))))), (9, .int (cWet (nI k) ((F 16) k) p1 ((F 19) k))), (8, .ref (B (16 + k))), (0, .ref (B 0)), (1, .int p0), (2, .int p1), (3, .int p2), (4, .int p3), (5, .int ((9 : Int32) - p0)), (7, .int (nI k))]) hx hb dX3_comesIf_91 hl (by decide) rfl (fun ls hl => ?_)
              refine lv_iinc (v := (nI (k + 1))) (lv' := [(7, .int (nI (k + 1))), (6, .int (sumN (cTerm F (I 4) p0 p1 p2 p3) k + (cGives ((F 17) k) ((F 18) k) ((F 16) k) ((9 : Int32) - p0) (cWet (nI k) ((F 16) k) p1 ((F 19) k))))), (9, .int (cWet (nI k) ((F 16) k) p1 ((F 19) k))), (8, .ref (B (16 + k))), (0, .ref (B 0)), (1, .int p0), (2, .int p1), (3, .int p2), (4, .int p3), (5, .int ((9 : Int32) - p0))]) hx hb dX3_comesIf_93 hl (k := 9) rfl (nI_add k 1) (by decide) rfl (fun ls hl => ?_)
              refine lv_goto (tgt := 12) hx hb dX3_comesIf_96 (by decide) ?_
              exact ih_12 (k + 1) (sumN (cTerm F (I 4) p0 p1 p2 p3) k + (cGives ((F 17) k) ((F 18) k) ((F 16) k) ((9 : Int32) - p0) (cWet (nI k) ((F 16) k) p1 ((F 19) k)))) (nI (k + 1)) (by grind [sumN, cTerm]) rfl (by omega) (by omega) ls (lv_sub hl [4, 5, 6, 7, 8, 9, 1, 0] rfl)
            · refine lv_iload hx hb dX3_comesIf_64 (lv_at hl 5 rfl) ?_
              refine lv_goto (tgt := 74) hx hb dX3_comesIf_66 (by decide) ?_
              refine rcVi (As := [.int p1, .int p3]) (rest := []) hx hb hml hown hts hKK hP (c_X2_wetAt l D cI cB cS (wsB_st (by omega)) p1 p3) (cwV2 2 hts kw_286 kw_29 kw_283 kw_284 kw_285 rfl rfl (by decide +kernel) ⟨Nat.le_of_ble_eq_true rfl, Nat.le_of_ble_eq_true rfl⟩) (16 + k) (wsB_st (by omega)) rfl rfl rfl hl.1 rfl (Nat.le_of_ble_eq_true rfl) ⟨Nat.zero_le _, Nat.zero_le _⟩ dX3_comesIf_74 ?_
              refine lv_istore (lv' := [(9, .int (cWet (nI k) ((F 16) k) p1 p3)), (8, .ref (B (16 + k))), (0, .ref (B 0)), (1, .int p0), (2, .int p1), (3, .int p2), (4, .int p3), (5, .int ((9 : Int32) - p0)), (6, .int (sumN (cTerm F (I 4) p0 p1 p2 p3) k)), (7, .int (nI k))]) hx hb dX3_comesIf_77 hl (by decide) rfl (fun ls hl => ?_)
              refine lv_iload hx hb dX3_comesIf_79 (lv_at hl 8 rfl) ?_
              refine lv_aload hx hb dX3_comesIf_81 (lv_at hl 1 rfl) ?_
              refine lv_iload hx hb dX3_comesIf_83 (lv_at hl 7 rfl) ?_
              refine lv_iload hx hb dX3_comesIf_85 (lv_at hl 0 rfl) ?_
              refine rcVi (As := [.int ((9 : Int32) - p0), .int (cWet (nI k) ((F 16) k) p1 p3)]) (rest := [.int (sumN (cTerm F (I 4) p0 p1 p2 p3) k)]) hx hb hml hown hts hKK hP (c_X2_givesTo l D cI cB cS (wsB_st (by omega)) ((9 : Int32) - p0) (cWet (nI k) ((F 16) k) p1 p3)) (cwV2 2 hts kw_291 kw_29 kw_288 kw_289 kw_290 rfl rfl (by decide +kernel) ⟨Nat.le_of_ble_eq_true rfl, Nat.le_of_ble_eq_true rfl⟩) (16 + k) (wsB_st (by omega)) rfl rfl rfl hl.1 rfl (Nat.le_of_ble_eq_true rfl) ⟨Nat.zero_le _, Nat.zero_le _⟩ dX3_comesIf_87 ?_
              refine lv_iadd hx hb dX3_comesIf_90 ?_
              refine lv_istore (lv' := [(6, .int (sumN (cTerm F (I 4) p0 p1 p2 p3) k + (cGives ((F 17) k) ((F 18) k) ((F 16) k) ((9 : Int32) - p0) (cWet (nI k) ((F 16) k) p1 p3)))), (9, .int (cWet (nI k) ((F 16) k) p1 p3)), (8, .ref (B (16 + k))), (0, .ref (B 0)), (1, .int p0), (2, .int p1), (3, .int p2), (4, .int p3), (5, .int ((9 : Int32) - p0)), (7, .int (nI k))]) hx hb dX3_comesIf_91 hl (by decide) rfl (fun ls hl => ?_)
              refine lv_iinc (v := (nI (k + 1))) (lv' := [(7, .int (nI (k + 1))), (6, .int (sumN (cTerm F (I 4) p0 p1 p2 p3) k + (cGives ((F 17) k) ((F 18) k) ((F 16) k) ((9 : Int32) - p0) (cWet (nI k) ((F 16) k) p1 p3)))), (9, .int (cWet (nI k) ((F 16) k) p1 p3)), (8, .ref (B (16 + k))), (0, .ref (B 0)), (1, .int p0), (2, .int p1), (3, .int p2), (4, .int p3), (5, .int ((9 : Int32) - p0))]) hx hb dX3_comesIf_93 hl (k := 9) rfl (nI_add k 1) (by decide) rfl (fun ls hl => ?_)
              refine lv_goto (tgt := 12) hx hb dX3_comesIf_96 (by decide) ?_
              exact ih_12 (k + 1) (sumN (cTerm F (I 4) p0 p1 p2 p3) k + (cGives ((F 17) k) ((F 18) k) ((F 16) k) ((9 : Int32) - p0) (cWet (nI k) ((F 16) k) p1 p3))) (nI (k + 1)) (by grind [sumN, cTerm]) rfl (by omega) (by omega) ls (lv_sub hl [4, 5, 6, 7, 8, 9, 1, 0] rfl)
  exact loop_12 ((n - 0) + 1) 0 (0 : Int32) (0 : Int32) rfl rfl (by omega) (by omega) ls (lv_sub hl [3, 4, 5, 6, 7, 2, 1, 0] rfl)
set_option maxHeartbeats 1000000 in
set_option maxRecDepth 100000 in
theorem c_X3_comesNow (l : Launch) (D : va_G) (cI cB cS : ClassId) {B : Nat → Nat} {I : Nat → Int32} {F : Nat → Nat → Int32} {n : Nat} (hn : n ≤ 6) (h3 : I 3 = nI n) (p0 p1 : Int32) : Met l yX3_comesNow (Wm yX3_comesNow cX3_comesNow 3 (some .int)) ({ frames := 3, cells := 0, slots := 0, locals := 74 }) (va_Pc [.ref (B 0), .int p0, .int p1] (PR D (TYS cI cB cS) (wsB B cI cS I F))) (QcV (some (.int (cNow F (I 4) n p0 p1)))) 0 0 (fun _ => False) := by
  refine metR (by decide) [.ref (B 0), .int p0, .int p1] (Nat.le_of_ble_eq_true rfl) ?_
  intro p e s m args below meth c hx hb hml hr hlk hown hts hKK hP ls hl
  obtain ⟨hK, hN⟩ := id hKK
  have hl : lv_has ls 3 [(0, .ref (B 0)), (1, .int p0), (2, .int p1)] := hl
  refine lv_aload_n hx hb dX3_comesNow_0 rfl (lv_at hl 0 rfl) ?_
  refine lv_iload_n hx hb dX3_comesNow_1 rfl (lv_at hl 1 rfl) ?_
  refine lv_iload_n hx hb dX3_comesNow_2 rfl (lv_at hl 2 rfl) ?_
  refine lv_iconst (v := (-1 : Int32)) hx hb dX3_comesNow_3 (by decide) ?_
  refine lv_iconst (v := (0 : Int32)) hx hb dX3_comesNow_4 (by decide) ?_
  refine rcVi (As := [.int p0, .int p1, .int (-1 : Int32), .int (0 : Int32)]) (rest := []) hx hb hml hown hts hKK hP (c_X3_comesIf l D cI cB cS hn h3 p0 p1 (-1 : Int32) (0 : Int32)) (cwV2 4 hts kw_282 kw_3 kw_279 kw_280 kw_281 rfl rfl (by decide +kernel) ⟨Nat.le_of_ble_eq_true rfl, Nat.le_of_ble_eq_true rfl⟩) 0 rfl rfl rfl rfl hl.1 rfl (Nat.le_of_ble_eq_true rfl) ⟨Nat.zero_le _, Nat.zero_le _⟩ dX3_comesNow_5 ?_
  refine topE (z := (cComes F (I 4) n p0 p1 (-1 : Int32) (0 : Int32))) rfl ?_
  exact retRi hx hb hr hlk dX3_comesNow_8 rfl
set_option maxHeartbeats 1000000 in
set_option maxRecDepth 100000 in
theorem c_X3_pressOff_8 (l : Launch) (D : va_G) (cI cB cS : ClassId) {B : Nat → Nat} {I : Nat → Int32} {F : Nat → Nat → Int32} {n : Nat} (hn : n ≤ 6) (h3 : I 3 = nI n) (p0 : Int32) : Met l yX3_pressOff (Wm yX3_pressOff cX3_pressOff 6 (some .int)) ({ frames := 4, cells := 0, slots := 0, locals := 96 }) (va_Pc [.ref (B 0), .ref (B 8), .int p0] (PW D (TYS cI cB cS) (wsB B cI cS I F))) (QcW D (some (.int (sumN (fun c => cNow F (I 4) n (nI c) p0) 10))) (wsB B cI cS I F) (wsB B cI cS I (va_up F 8 (rowN (cPress F (I 4) n p0 (F 8)) (F 8) 10)))) 0 0 (FPw (wsB B cI cS I F)) := by
  refine metW (by decide) [.ref (B 0), .ref (B 8), .int p0] (Nat.le_of_ble_eq_true rfl) ?_
  intro p e s m args below meth c hx hb hml hr hlk hown hts hKK hP hD hS ls hl
  obtain ⟨hK, hN⟩ := id hKK
  have hl : lv_has ls 6 [(0, .ref (B 0)), (1, .ref (B 8)), (2, .int p0)] := hl
  refine lv_iconst (v := (0 : Int32)) hx hb dX3_pressOff_0 (by decide) ?_
  refine lv_istore_n (lv' := [(3, .int (0 : Int32)), (0, .ref (B 0)), (1, .ref (B 8)), (2, .int p0)]) hx hb dX3_pressOff_1 rfl hl (by decide) rfl (fun ls hl => ?_)
  refine lv_iconst (v := (0 : Int32)) hx hb dX3_pressOff_2 (by decide) ?_
  refine lv_istore (lv' := [(4, .int (0 : Int32)), (3, .int (0 : Int32)), (0, .ref (B 0)), (1, .ref (B 8)), (2, .int p0)]) hx hb dX3_pressOff_3 hl (by decide) rfl (fun ls hl => ?_)
  have loop_5 : ∀ (z : Nat) (k : Nat) (x3 : Int32) (x4 : Int32), x3 = sumN (fun c => cNow F (I 4) n (nI c) p0) k → x4 = nI k → (k ≤ 10) → 10 - k < z → ∀ (H : Heap) (locs : List Loc), va_P D vwCl (wsB B cI cS I (va_up F 8 (rowN (cPress F (I 4) n p0 (F 8)) (F 8) k))) H → va_S (FPw (wsB B cI cS I F)) s.heap H locs → ∀ (ls : Array Slot), lv_has ls 6 [(0, .ref (B 0)), (1, .ref (B 8)), (2, .int p0), (3, .int x3), (4, .int x4)] → W p l e ({ frames := 4, cells := 0, slots := 0, locals := 96 } : Room) s m args below meth c H locs 0 0 (MQ below (QcW D (some (.int (sumN (fun c => cNow F (I 4) n (nI c) p0) 10))) (wsB B cI cS I F) (wsB B cI cS I (va_up F 8 (rowN (cPress F (I 4) n p0 (F 8)) (F 8) 10)))) args s 0 0 (FPw (wsB B cI cS I F))) (F0 m 5 ls []) := by
    intro z
    induction z with
    | zero =>
      intro k x3 x4 ex3 ex4 hk hz
      exact absurd hz (Nat.not_lt_zero _)
    | succ z ih_5 =>
      intro k x3 x4 ex3 ex4 hk hz H locs hP hS ls hl
      subst ex3
      subst ex4
      have hD := va_D_addr (ws := (wsB B cI cS I F)) (ws' := (wsB B cI cS I (va_up F 8 (rowN (cPress F (I 4) n p0 (F 8)) (F 8) k)))) rfl hD
      refine lv_iload hx hb dX3_pressOff_5 (lv_at hl 4 rfl) ?_
      refine lv_aload_n hx hb dX3_pressOff_7 rfl (lv_at hl 1 rfl) ?_
      refine va_alen (D := D) hx hb hK hP 8 0 rfl rfl (v := (10 : Int32)) rfl dX3_pressOff_8 ?_
      refine lv_icmp_ge (tgt := 48) hx hb dX3_pressOff_9 (by decide) (fun c_1 => ?_) (fun c_1 => ?_)
      · have nc_1 : 10 ≤ k := (nI_leI (a := 10) (b := k) (by omega) (by omega)).mp c_1
        refine lv_iload_n hx hb dX3_pressOff_48 rfl (lv_at hl 3 rfl) ?_
        exact retWi hx hb hr hlk hP hS dX3_pressOff_49 (by have hkn : k = 10 := (by omega); subst hkn; rfl) (by have hkn : k = 10 := (by omega); subst hkn; rfl)
      · have nc_1 : ¬ 10 ≤ k := fun h => c_1 ((nI_leI (a := 10) (b := k) (by omega) (by omega)).mpr h)
        refine lv_aload_n hx hb dX3_pressOff_12 rfl (lv_at hl 0 rfl) ?_
        refine lv_iload hx hb dX3_pressOff_13 (lv_at hl 4 rfl) ?_
        refine lv_iload_n hx hb dX3_pressOff_15 rfl (lv_at hl 2 rfl) ?_
        refine rcVi (As := [.int (nI k), .int p0]) (rest := []) hx hb hml hown hts hKK hP (c_X3_comesNow l D cI cB cS hn h3 (nI k) p0) (cwV2 2 hts kw_407 kw_3 kw_404 kw_405 kw_406 rfl rfl (by decide +kernel) ⟨Nat.le_of_ble_eq_true rfl, Nat.le_of_ble_eq_true rfl⟩) 0 rfl rfl rfl rfl hl.1 rfl (Nat.le_of_ble_eq_true rfl) ⟨Nat.zero_le _, Nat.zero_le _⟩ dX3_pressOff_16 ?_
        refine topE (z := (cNow F (I 4) n (nI k) p0)) rfl ?_
        refine lv_istore (lv' := [(5, .int (cNow F (I 4) n (nI k) p0)), (0, .ref (B 0)), (1, .ref (B 8)), (2, .int p0), (3, .int (sumN (fun c => cNow F (I 4) n (nI c) p0) k)), (4, .int (nI k))]) hx hb dX3_pressOff_19 hl (by decide) rfl (fun ls hl => ?_)
        refine lv_iload_n hx hb dX3_pressOff_21 rfl (lv_at hl 4 rfl) ?_
        refine lv_iload hx hb dX3_pressOff_22 (lv_at hl 0 rfl) ?_
        refine lv_iadd hx hb dX3_pressOff_24 ?_
        refine lv_istore_n (lv' := [(3, .int (sumN (fun c => cNow F (I 4) n (nI c) p0) k + (cNow F (I 4) n (nI k) p0))), (5, .int (cNow F (I 4) n (nI k) p0)), (0, .ref (B 0)), (1, .ref (B 8)), (2, .int p0), (4, .int (nI k))]) hx hb dX3_pressOff_25 rfl hl (by decide) rfl (fun ls hl => ?_)
        refine lv_aload_n hx hb dX3_pressOff_26 rfl (lv_at hl 3 rfl) ?_
        refine lv_iload hx hb dX3_pressOff_27 (lv_at hl 5 rfl) ?_
        refine lv_bipush (v := (99 : Int32)) hx hb dX3_pressOff_29 (by decide) ?_
        refine lv_aload_n hx hb dX3_pressOff_31 rfl (lv_at hl 3 rfl) ?_
        refine lv_iload hx hb dX3_pressOff_32 (lv_at hl 5 rfl) ?_
        refine va_iald (D := D) hx hb hK hP 8 0 rfl rfl (vp_in_nI (by omega) (by omega)) dX3_pressOff_34 ?_
        refine topE (z := ((rowN (cPress F (I 4) n p0 (F 8)) (F 8) k) k)) (congrArg _ (nI_clamp (n := k) (by omega))) ?_
        refine topE (z := (F 8 k)) rowN_at ?_
        refine lv_iload hx hb dX3_pressOff_35 (lv_at hl 1 rfl) ?_
        refine lv_iadd hx hb dX3_pressOff_37 ?_
        refine va_mmin hx hb (hml.trans hl.1.symm) hown (hts _ kw_420) (hts _ kw_156) (hts _ kw_153) (hts _ kw_157) (Nat.le_of_ble_eq_true rfl) (Nat.le_of_ble_eq_true rfl) (Nat.zero_le _) (Nat.zero_le _) dX3_pressOff_38 ?_
        refine va_iast (D := D) hx hb hK hP hD hS 8 0 rfl rfl (vp_in_nI (by omega) (by omega)) dX3_pressOff_41 (fun H locs hP hD hS => ?_)
        rw [nI_clamp (n := k) (by omega)] at hP hD
        have hP : va_P D vwCl (wsB B cI cS I (va_up F 8 (upd (rowN (cPress F (I 4) n p0 (F 8)) (F 8) k) k (if ((F 8 k) + (cNow F (I 4) n (nI k) p0)) < (99 : Int32) then ((F 8 k) + (cNow F (I 4) n (nI k) p0)) else (99 : Int32))))) H := hP
        have hD : va_D (FPw (wsB B cI cS I F)) (wsB B cI cS I (va_up F 8 (upd (rowN (cPress F (I 4) n p0 (F 8)) (F 8) k) k (if ((F 8 k) + (cNow F (I 4) n (nI k) p0)) < (99 : Int32) then ((F 8 k) + (cNow F (I 4) n (nI k) p0)) else (99 : Int32))))) := hD
        refine lv_iinc (v := (nI (k + 1))) (lv' := [(4, .int (nI (k + 1))), (3, .int (sumN (fun c => cNow F (I 4) n (nI c) p0) k + (cNow F (I 4) n (nI k) p0))), (5, .int (cNow F (I 4) n (nI k) p0)), (0, .ref (B 0)), (1, .ref (B 8)), (2, .int p0)]) hx hb dX3_pressOff_42 hl (k := 5) rfl (nI_add k 1) (by decide) rfl (fun ls hl => ?_)
        refine lv_goto (tgt := 5) hx hb dX3_pressOff_45 (by decide) ?_
        have hP9 : va_P D vwCl (wsB B cI cS I (va_up F 8 (rowN (cPress F (I 4) n p0 (F 8)) (F 8) (k + 1)))) H := by rw [← rowN_upd]; exact hP
        exact ih_5 (k + 1) (sumN (fun c => cNow F (I 4) n (nI c) p0) k + (cNow F (I 4) n (nI k) p0)) (nI (k + 1)) rfl rfl (by omega) (by omega) H locs hP9 hS ls (lv_sub hl [3, 4, 5, 1, 0] rfl)
  have hP9 : va_P D vwCl (wsB B cI cS I (va_up F 8 (rowN (cPress F (I 4) n p0 (F 8)) (F 8) 0))) s.heap := by rw [rowN_0]; exact hP
  exact loop_5 ((10 - 0) + 1) 0 (0 : Int32) (0 : Int32) rfl rfl (by omega) (by omega) s.heap [] hP9 hS ls (lv_sub hl [2, 3, 4, 1, 0] rfl)
set_option maxHeartbeats 1000000 in
set_option maxRecDepth 100000 in
theorem c_X3_pressOff_5 (l : Launch) (D : va_G) (cI cB cS : ClassId) {B : Nat → Nat} {I : Nat → Int32} {F : Nat → Nat → Int32} {n : Nat} (hn : n ≤ 6) (h3 : I 3 = nI n) (p0 : Int32) : Met l yX3_pressOff (Wm yX3_pressOff cX3_pressOff 6 (some .int)) ({ frames := 4, cells := 0, slots := 0, locals := 96 }) (va_Pc [.ref (B 0), .ref (B 5), .int p0] (PW D (TYS cI cB cS) (wsB B cI cS I F))) (QcW D (some (.int (sumN (fun c => cNow F (I 4) n (nI c) p0) 10))) (wsB B cI cS I F) (wsB B cI cS I (va_up F 5 (rowN (cPress F (I 4) n p0 (F 5)) (F 5) 10)))) 0 0 (FPw (wsB B cI cS I F)) := by
  refine metW (by decide) [.ref (B 0), .ref (B 5), .int p0] (Nat.le_of_ble_eq_true rfl) ?_
  intro p e s m args below meth c hx hb hml hr hlk hown hts hKK hP hD hS ls hl
  obtain ⟨hK, hN⟩ := id hKK
  have hl : lv_has ls 6 [(0, .ref (B 0)), (1, .ref (B 5)), (2, .int p0)] := hl
  refine lv_iconst (v := (0 : Int32)) hx hb dX3_pressOff_0 (by decide) ?_
  refine lv_istore_n (lv' := [(3, .int (0 : Int32)), (0, .ref (B 0)), (1, .ref (B 5)), (2, .int p0)]) hx hb dX3_pressOff_1 rfl hl (by decide) rfl (fun ls hl => ?_)
  refine lv_iconst (v := (0 : Int32)) hx hb dX3_pressOff_2 (by decide) ?_
  refine lv_istore (lv' := [(4, .int (0 : Int32)), (3, .int (0 : Int32)), (0, .ref (B 0)), (1, .ref (B 5)), (2, .int p0)]) hx hb dX3_pressOff_3 hl (by decide) rfl (fun ls hl => ?_)
  have loop_5 : ∀ (z : Nat) (k : Nat) (x3 : Int32) (x4 : Int32), x3 = sumN (fun c => cNow F (I 4) n (nI c) p0) k → x4 = nI k → (k ≤ 10) → 10 - k < z → ∀ (H : Heap) (locs : List Loc), va_P D vwCl (wsB B cI cS I (va_up F 5 (rowN (cPress F (I 4) n p0 (F 5)) (F 5) k))) H → va_S (FPw (wsB B cI cS I F)) s.heap H locs → ∀ (ls : Array Slot), lv_has ls 6 [(0, .ref (B 0)), (1, .ref (B 5)), (2, .int p0), (3, .int x3), (4, .int x4)] → W p l e ({ frames := 4, cells := 0, slots := 0, locals := 96 } : Room) s m args below meth c H locs 0 0 (MQ below (QcW D (some (.int (sumN (fun c => cNow F (I 4) n (nI c) p0) 10))) (wsB B cI cS I F) (wsB B cI cS I (va_up F 5 (rowN (cPress F (I 4) n p0 (F 5)) (F 5) 10)))) args s 0 0 (FPw (wsB B cI cS I F))) (F0 m 5 ls []) := by
    intro z
    induction z with
    | zero =>
      intro k x3 x4 ex3 ex4 hk hz
      exact absurd hz (Nat.not_lt_zero _)
    | succ z ih_5 =>
      intro k x3 x4 ex3 ex4 hk hz H locs hP hS ls hl
      subst ex3
      subst ex4
      have hD := va_D_addr (ws := (wsB B cI cS I F)) (ws' := (wsB B cI cS I (va_up F 5 (rowN (cPress F (I 4) n p0 (F 5)) (F 5) k)))) rfl hD
      refine lv_iload hx hb dX3_pressOff_5 (lv_at hl 4 rfl) ?_
      refine lv_aload_n hx hb dX3_pressOff_7 rfl (lv_at hl 1 rfl) ?_
      refine va_alen (D := D) hx hb hK hP 5 0 rfl rfl (v := (10 : Int32)) rfl dX3_pressOff_8 ?_
      refine lv_icmp_ge (tgt := 48) hx hb dX3_pressOff_9 (by decide) (fun c_1 => ?_) (fun c_1 => ?_)
      · have nc_1 : 10 ≤ k := (nI_leI (a := 10) (b := k) (by omega) (by omega)).mp c_1
        refine lv_iload_n hx hb dX3_pressOff_48 rfl (lv_at hl 3 rfl) ?_
        exact retWi hx hb hr hlk hP hS dX3_pressOff_49 (by have hkn : k = 10 := (by omega); subst hkn; rfl) (by have hkn : k = 10 := (by omega); subst hkn; rfl)
      · have nc_1 : ¬ 10 ≤ k := fun h => c_1 ((nI_leI (a := 10) (b := k) (by omega) (by omega)).mpr h)
        refine lv_aload_n hx hb dX3_pressOff_12 rfl (lv_at hl 0 rfl) ?_
        refine lv_iload hx hb dX3_pressOff_13 (lv_at hl 4 rfl) ?_
        refine lv_iload_n hx hb dX3_pressOff_15 rfl (lv_at hl 2 rfl) ?_
        refine rcVi (As := [.int (nI k), .int p0]) (rest := []) hx hb hml hown hts hKK hP (c_X3_comesNow l D cI cB cS hn h3 (nI k) p0) (cwV2 2 hts kw_407 kw_3 kw_404 kw_405 kw_406 rfl rfl (by decide +kernel) ⟨Nat.le_of_ble_eq_true rfl, Nat.le_of_ble_eq_true rfl⟩) 0 rfl rfl rfl rfl hl.1 rfl (Nat.le_of_ble_eq_true rfl) ⟨Nat.zero_le _, Nat.zero_le _⟩ dX3_pressOff_16 ?_
        refine topE (z := (cNow F (I 4) n (nI k) p0)) rfl ?_
        refine lv_istore (lv' := [(5, .int (cNow F (I 4) n (nI k) p0)), (0, .ref (B 0)), (1, .ref (B 5)), (2, .int p0), (3, .int (sumN (fun c => cNow F (I 4) n (nI c) p0) k)), (4, .int (nI k))]) hx hb dX3_pressOff_19 hl (by decide) rfl (fun ls hl => ?_)
        refine lv_iload_n hx hb dX3_pressOff_21 rfl (lv_at hl 4 rfl) ?_
        refine lv_iload hx hb dX3_pressOff_22 (lv_at hl 0 rfl) ?_
        refine lv_iadd hx hb dX3_pressOff_24 ?_
        refine lv_istore_n (lv' := [(3, .int (sumN (fun c => cNow F (I 4) n (nI c) p0) k + (cNow F (I 4) n (nI k) p0))), (5, .int (cNow F (I 4) n (nI k) p0)), (0, .ref (B 0)), (1, .ref (B 5)), (2, .int p0), (4, .int (nI k))]) hx hb dX3_pressOff_25 rfl hl (by decide) rfl (fun ls hl => ?_)
        refine lv_aload_n hx hb dX3_pressOff_26 rfl (lv_at hl 3 rfl) ?_
        refine lv_iload hx hb dX3_pressOff_27 (lv_at hl 5 rfl) ?_
        refine lv_bipush (v := (99 : Int32)) hx hb dX3_pressOff_29 (by decide) ?_
        refine lv_aload_n hx hb dX3_pressOff_31 rfl (lv_at hl 3 rfl) ?_
        refine lv_iload hx hb dX3_pressOff_32 (lv_at hl 5 rfl) ?_
        refine va_iald (D := D) hx hb hK hP 5 0 rfl rfl (vp_in_nI (by omega) (by omega)) dX3_pressOff_34 ?_
        refine topE (z := ((rowN (cPress F (I 4) n p0 (F 5)) (F 5) k) k)) (congrArg _ (nI_clamp (n := k) (by omega))) ?_
        refine topE (z := (F 5 k)) rowN_at ?_
        refine lv_iload hx hb dX3_pressOff_35 (lv_at hl 1 rfl) ?_
        refine lv_iadd hx hb dX3_pressOff_37 ?_
        refine va_mmin hx hb (hml.trans hl.1.symm) hown (hts _ kw_420) (hts _ kw_156) (hts _ kw_153) (hts _ kw_157) (Nat.le_of_ble_eq_true rfl) (Nat.le_of_ble_eq_true rfl) (Nat.zero_le _) (Nat.zero_le _) dX3_pressOff_38 ?_
        refine va_iast (D := D) hx hb hK hP hD hS 5 0 rfl rfl (vp_in_nI (by omega) (by omega)) dX3_pressOff_41 (fun H locs hP hD hS => ?_)
        rw [nI_clamp (n := k) (by omega)] at hP hD
        have hP : va_P D vwCl (wsB B cI cS I (va_up F 5 (upd (rowN (cPress F (I 4) n p0 (F 5)) (F 5) k) k (if ((F 5 k) + (cNow F (I 4) n (nI k) p0)) < (99 : Int32) then ((F 5 k) + (cNow F (I 4) n (nI k) p0)) else (99 : Int32))))) H := hP
        have hD : va_D (FPw (wsB B cI cS I F)) (wsB B cI cS I (va_up F 5 (upd (rowN (cPress F (I 4) n p0 (F 5)) (F 5) k) k (if ((F 5 k) + (cNow F (I 4) n (nI k) p0)) < (99 : Int32) then ((F 5 k) + (cNow F (I 4) n (nI k) p0)) else (99 : Int32))))) := hD
        refine lv_iinc (v := (nI (k + 1))) (lv' := [(4, .int (nI (k + 1))), (3, .int (sumN (fun c => cNow F (I 4) n (nI c) p0) k + (cNow F (I 4) n (nI k) p0))), (5, .int (cNow F (I 4) n (nI k) p0)), (0, .ref (B 0)), (1, .ref (B 5)), (2, .int p0)]) hx hb dX3_pressOff_42 hl (k := 5) rfl (nI_add k 1) (by decide) rfl (fun ls hl => ?_)
        refine lv_goto (tgt := 5) hx hb dX3_pressOff_45 (by decide) ?_
        have hP9 : va_P D vwCl (wsB B cI cS I (va_up F 5 (rowN (cPress F (I 4) n p0 (F 5)) (F 5) (k + 1)))) H := by rw [← rowN_upd]; exact hP
        exact ih_5 (k + 1) (sumN (fun c => cNow F (I 4) n (nI c) p0) k + (cNow F (I 4) n (nI k) p0)) (nI (k + 1)) rfl rfl (by omega) (by omega) H locs hP9 hS ls (lv_sub hl [3, 4, 5, 1, 0] rfl)
  have hP9 : va_P D vwCl (wsB B cI cS I (va_up F 5 (rowN (cPress F (I 4) n p0 (F 5)) (F 5) 0))) s.heap := by rw [rowN_0]; exact hP
  exact loop_5 ((10 - 0) + 1) 0 (0 : Int32) (0 : Int32) rfl rfl (by omega) (by omega) s.heap [] hP9 hS ls (lv_sub hl [2, 3, 4, 1, 0] rfl)
set_option maxHeartbeats 1000000 in
set_option maxRecDepth 100000 in
theorem c_X1_putSanded (l : Launch) (D : va_G) (cI cB cS : ClassId) {B : Nat → Nat} {I : Nat → Int32} {F : Nat → Nat → Int32} {n : Nat} (hn : n ≤ 6) (h3 : I 3 = nI n) (p0 p1 : Int32) : Met l yX1_putSanded (Wm yX1_putSanded cX1_putSanded 4 none) ({ frames := 0, cells := 0, slots := 0, locals := 0 }) (va_Pc [.ref (B 3), .int p0, .int p1] (PW D (TYS cI cB cS) (wsB B cI cS I F))) (QcW D none (wsB B cI cS I F) (wsB B cI cS (upd I 4 (cPut (I 4) p0 p1)) F)) 0 0 (FPw (wsB B cI cS I F)) := by
  refine metW (by decide) [.ref (B 3), .int p0, .int p1] (Nat.le_of_ble_eq_true rfl) ?_
  intro p e s m args below meth c hx hb hml hr hlk hown hts hKK hP hD hS ls hl
  obtain ⟨hK, hN⟩ := id hKK
  have hl : lv_has ls 4 [(0, .ref (B 3)), (1, .int p0), (2, .int p1)] := hl
  refine lv_iconst (v := (1 : Int32)) hx hb dX1_putSanded_0 (by decide) ?_
  refine lv_iload_n hx hb dX1_putSanded_1 rfl (lv_at hl 1 rfl) ?_
  refine lv_ishl hx hb dX1_putSanded_2 ?_
  refine lv_istore_n (lv' := [(3, .int ((1 : Int32) <<< (p0 &&& 31))), (0, .ref (B 3)), (1, .int p0), (2, .int p1)]) hx hb dX1_putSanded_3 rfl hl (by decide) rfl (fun ls hl => ?_)
  refine lv_aload_n hx hb dX1_putSanded_4 rfl (lv_at hl 1 rfl) ?_
  refine lv_iload_n hx hb dX1_putSanded_5 rfl (lv_at hl 3 rfl) ?_
  refine lv_if_eq (tgt := 18) hx hb dX1_putSanded_6 (by decide) (fun c_1 => ?_) (fun c_1 => ?_)
  · refine lv_aload_n hx hb dX1_putSanded_18 rfl (lv_at hl 1 rfl) ?_
    refine va_get (D := D) (ci := 1) (v := .int (I 4)) (C := RX1) (T := TX1) (N := 8) hx hb hts inlX1 hown hK hP 3 rfl rfl 1 (by decide) (hts _ kw_39) (fun _ h9 => h9) rfl dX1_putSanded_19 ?_
    refine lv_iload_n hx hb dX1_putSanded_22 rfl (lv_at hl 0 rfl) ?_
    refine lv_iconst (v := (-1 : Int32)) hx hb dX1_putSanded_23 (by decide) ?_
    refine lv_ixor hx hb dX1_putSanded_24 ?_
    refine lv_iand hx hb dX1_putSanded_25 ?_
    refine va_put (D := D) (ci := 1) (v := .int ((I 4) &&& (((1 : Int32) <<< (p0 &&& 31)) ^^^ (-1 : Int32)))) (ty := tyX1 1) (C := RX1) (T := TX1) (N := 8) hx hb hts inlX1 tyX1 tyX1_ok nmX1 hown hK hP hD hS 3 rfl rfl 1 (by decide) (hts _ kw_39) (fun _ h9 => h9) rfl (tyX1_ok 1 (by decide)) rfl rfl (Nat.le_of_ble_eq_true rfl) dX1_putSanded_26 (fun H locs hP hD hS => ?_)
    have hP : va_P D vwCl (wsB B cI cS (upd I 4 ((I 4) &&& (((1 : Int32) <<< (p0 &&& 31)) ^^^ (-1 : Int32)))) F) H := hP
    have hD : va_D (FPw (wsB B cI cS I F)) (wsB B cI cS (upd I 4 ((I 4) &&& (((1 : Int32) <<< (p0 &&& 31)) ^^^ (-1 : Int32)))) F) := hD
    exact retWv hx hb hr hlk hP hS dX1_putSanded_29 (by simp only [cPut, c_1, if_true, if_false])
  · refine lv_aload_n hx hb dX1_putSanded_9 rfl (lv_at hl 1 rfl) ?_
    refine va_get (D := D) (ci := 1) (v := .int (I 4)) (C := RX1) (T := TX1) (N := 8) hx hb hts inlX1 hown hK hP 3 rfl rfl 1 (by decide) (hts _ kw_39) (fun _ h9 => h9) rfl dX1_putSanded_10 ?_
    refine lv_iload_n hx hb dX1_putSanded_13 rfl (lv_at hl 0 rfl) ?_
    refine lv_ior hx hb dX1_putSanded_14 ?_
    refine lv_goto (tgt := 26) hx hb dX1_putSanded_15 (by decide) ?_
    refine va_put (D := D) (ci := 1) (v := .int ((I 4) ||| ((1 : Int32) <<< (p0 &&& 31)))) (ty := tyX1 1) (C := RX1) (T := TX1) (N := 8) hx hb hts inlX1 tyX1 tyX1_ok nmX1 hown hK hP hD hS 3 rfl rfl 1 (by decide) (hts _ kw_39) (fun _ h9 => h9) rfl (tyX1_ok 1 (by decide)) rfl rfl (Nat.le_of_ble_eq_true rfl) dX1_putSanded_26 (fun H locs hP hD hS => ?_)
    have hP : va_P D vwCl (wsB B cI cS (upd I 4 ((I 4) ||| ((1 : Int32) <<< (p0 &&& 31)))) F) H := hP
    have hD : va_D (FPw (wsB B cI cS I F)) (wsB B cI cS (upd I 4 ((I 4) ||| ((1 : Int32) <<< (p0 &&& 31)))) F) := hD
    exact retWv hx hb hr hlk hP hS dX1_putSanded_29 (by simp only [cPut, c_1, if_true, if_false])
set_option maxHeartbeats 1000000 in
set_option maxRecDepth 100000 in
theorem c_X1_addFound (l : Launch) (D : va_G) (cI cB cS : ClassId) {B : Nat → Nat} {I : Nat → Int32} {F : Nat → Nat → Int32} {n : Nat} (hn : n ≤ 6) (h3 : I 3 = nI n) {fd : Nat} (hfd : fd ≤ 6) (h6 : I 6 = nI fd) (p0 p1 p2 : Int32) : Met l yX1_addFound (Wm yX1_addFound cX1_addFound 4 (some .boolean)) ({ frames := 0, cells := 0, slots := 0, locals := 0 }) (va_Pc [.ref (B 3), .int p0, .int p1, .int p2] (PW D (TYS cI cB cS) (wsB B cI cS I F))) (QcW D (some (.int (b2 (fd < 6)))) (wsB B cI cS I F) (if fd < 6 then wsB B cI cS (upd I 6 (nI (fd + 1))) (va_up (va_up (va_up F 9 (upd (F 9) fd p0)) 10 (upd (F 10) fd p1)) 11 (upd (F 11) fd p2)) else wsB B cI cS I F)) 0 0 (FPw (wsB B cI cS I F)) := by
  refine metW (by decide) [.ref (B 3), .int p0, .int p1, .int p2] (Nat.le_of_ble_eq_true rfl) ?_
  intro p e s m args below meth c hx hb hml hr hlk hown hts hKK hP hD hS ls hl
  obtain ⟨hK, hN⟩ := id hKK
  have hl : lv_has ls 4 [(0, .ref (B 3)), (1, .int p0), (2, .int p1), (3, .int p2)] := hl
  refine lv_aload_n hx hb dX1_addFound_0 rfl (lv_at hl 0 rfl) ?_
  refine va_get (D := D) (ci := 1) (v := .int (I 6)) (C := RX1) (T := TX1) (N := 8) hx hb hts inlX1 hown hK hP 3 rfl rfl 3 (by decide) (hts _ kw_41) (fun _ h9 => h9) rfl dX1_addFound_1 ?_
  refine topE (z := (nI fd)) h6 ?_
  refine lv_if_lt (tgt := 16) hx hb dX1_addFound_4 (by decide) (fun c_1 => ?_) (fun c_1 => ?_)
  · have nc_1 : fd < 0 := (nI_ltI (a := fd) (b := 0) (by omega) (by omega)).mp c_1
    exfalso; omega
  · have nc_1 : ¬ fd < 0 := fun h => c_1 ((nI_ltI (a := fd) (b := 0) (by omega) (by omega)).mpr h)
    refine lv_aload_n hx hb dX1_addFound_7 rfl (lv_at hl 0 rfl) ?_
    refine va_get (D := D) (ci := 1) (v := .int (I 6)) (C := RX1) (T := TX1) (N := 8) hx hb hts inlX1 hown hK hP 3 rfl rfl 3 (by decide) (hts _ kw_41) (fun _ h9 => h9) rfl dX1_addFound_8 ?_
    refine topE (z := (nI fd)) h6 ?_
    refine lv_bipush (v := (6 : Int32)) hx hb dX1_addFound_11 (by decide) ?_
    refine lv_icmp_lt (tgt := 18) hx hb dX1_addFound_13 (by decide) (fun c_2 => ?_) (fun c_2 => ?_)
    · have nc_2 : fd < 6 := (nI_ltI (a := fd) (b := 6) (by omega) (by omega)).mp c_2
      refine lv_aload_n hx hb dX1_addFound_18 rfl (lv_at hl 0 rfl) ?_
      refine va_get (D := D) (ci := 1) (v := .ref (B 9)) (C := RX1) (T := TX1) (N := 8) hx hb hts inlX1 hown hK hP 3 rfl rfl 5 (by decide) (hts _ kw_43) (fun _ h9 => h9) rfl dX1_addFound_19 ?_
      refine lv_aload_n hx hb dX1_addFound_22 rfl (lv_at hl 0 rfl) ?_
      refine va_get (D := D) (ci := 1) (v := .int (I 6)) (C := RX1) (T := TX1) (N := 8) hx hb hts inlX1 hown hK hP 3 rfl rfl 3 (by decide) (hts _ kw_41) (fun _ h9 => h9) rfl dX1_addFound_23 ?_
      refine topE (z := (nI fd)) h6 ?_
      refine lv_iload_n hx hb dX1_addFound_26 rfl (lv_at hl 1 rfl) ?_
      refine va_iast (D := D) hx hb hK hP hD hS 9 0 rfl rfl (vp_in_nI (by omega) (by omega)) dX1_addFound_27 (fun H locs hP hD hS => ?_)
      rw [nI_clamp (n := fd) (by omega)] at hP hD
      have hP : va_P D vwCl (wsB B cI cS I (va_up F 9 (upd (F 9) fd p0))) H := hP
      have hD : va_D (FPw (wsB B cI cS I F)) (wsB B cI cS I (va_up F 9 (upd (F 9) fd p0))) := hD
      refine lv_aload_n hx hb dX1_addFound_28 rfl (lv_at hl 0 rfl) ?_
      refine va_get (D := D) (ci := 1) (v := .ref (B 10)) (C := RX1) (T := TX1) (N := 8) hx hb hts inlX1 hown hK hP 3 rfl rfl 6 (by decide) (hts _ kw_44) (fun _ h9 => h9) rfl dX1_addFound_29 ?_
      refine lv_aload_n hx hb dX1_addFound_32 rfl (lv_at hl 0 rfl) ?_
      refine va_get (D := D) (ci := 1) (v := .int (I 6)) (C := RX1) (T := TX1) (N := 8) hx hb hts inlX1 hown hK hP 3 rfl rfl 3 (by decide) (hts _ kw_41) (fun _ h9 => h9) rfl dX1_addFound_33 ?_
      refine topE (z := (nI fd)) h6 ?_
      refine lv_iload_n hx hb dX1_addFound_36 rfl (lv_at hl 2 rfl) ?_
      refine va_iast (D := D) hx hb hK hP hD hS 10 0 rfl rfl (vp_in_nI (by omega) (by omega)) dX1_addFound_37 (fun H locs hP hD hS => ?_)
      rw [nI_clamp (n := fd) (by omega)] at hP hD
      have hP : va_P D vwCl (wsB B cI cS I (va_up (va_up F 9 (upd (F 9) fd p0)) 10 (upd (F 10) fd p1))) H := hP
      have hD : va_D (FPw (wsB B cI cS I F)) (wsB B cI cS I (va_up (va_up F 9 (upd (F 9) fd p0)) 10 (upd (F 10) fd p1))) := hD
      refine lv_aload_n hx hb dX1_addFound_38 rfl (lv_at hl 0 rfl) ?_
      refine va_get (D := D) (ci := 1) (v := .ref (B 11)) (C := RX1) (T := TX1) (N := 8) hx hb hts inlX1 hown hK hP 3 rfl rfl 7 (by decide) (hts _ kw_45) (fun _ h9 => h9) rfl dX1_addFound_39 ?_
      refine lv_aload_n hx hb dX1_addFound_42 rfl (lv_at hl 0 rfl) ?_
      refine va_get (D := D) (ci := 1) (v := .int (I 6)) (C := RX1) (T := TX1) (N := 8) hx hb hts inlX1 hown hK hP 3 rfl rfl 3 (by decide) (hts _ kw_41) (fun _ h9 => h9) rfl dX1_addFound_43 ?_
      refine topE (z := (nI fd)) h6 ?_
      refine lv_iload_n hx hb dX1_addFound_46 rfl (lv_at hl 3 rfl) ?_
      refine va_iast (D := D) hx hb hK hP hD hS 11 0 rfl rfl (vp_in_nI (by omega) (by omega)) dX1_addFound_47 (fun H locs hP hD hS => ?_)
      rw [nI_clamp (n := fd) (by omega)] at hP hD
      have hP : va_P D vwCl (wsB B cI cS I (va_up (va_up (va_up F 9 (upd (F 9) fd p0)) 10 (upd (F 10) fd p1)) 11 (upd (F 11) fd p2))) H := hP
      have hD : va_D (FPw (wsB B cI cS I F)) (wsB B cI cS I (va_up (va_up (va_up F 9 (upd (F 9) fd p0)) 10 (upd (F 10) fd p1)) 11 (upd (F 11) fd p2))) := hD
      refine lv_aload_n hx hb dX1_addFound_48 rfl (lv_at hl 0 rfl) ?_
      refine lv_dup hx hb dX1_addFound_49 rfl ?_
      refine va_get (D := D) (ci := 1) (v := .int (I 6)) (C := RX1) (T := TX1) (N := 8) hx hb hts inlX1 hown hK hP 3 rfl rfl 3 (by decide) (hts _ kw_41) (fun _ h9 => h9) rfl dX1_addFound_50 ?_
      refine topE (z := (nI fd)) h6 ?_
      refine lv_iconst (v := (1 : Int32)) hx hb dX1_addFound_53 (by decide) ?_
      refine lv_iadd hx hb dX1_addFound_54 ?_
      refine topE (z := (nI (fd + 1))) (nI_add fd 1) ?_
      refine va_put (D := D) (ci := 1) (v := .int (nI (fd + 1))) (ty := tyX1 3) (C := RX1) (T := TX1) (N := 8) hx hb hts inlX1 tyX1 tyX1_ok nmX1 hown hK hP hD hS 3 rfl rfl 3 (by decide) (hts _ kw_41) (fun _ h9 => h9) rfl (tyX1_ok 3 (by decide)) rfl rfl (Nat.le_of_ble_eq_true rfl) dX1_addFound_55 (fun H locs hP hD hS => ?_)
      have hP : va_P D vwCl (wsB B cI cS (upd I 6 (nI (fd + 1))) (va_up (va_up (va_up F 9 (upd (F 9) fd p0)) 10 (upd (F 10) fd p1)) 11 (upd (F 11) fd p2))) H := hP
      have hD : va_D (FPw (wsB B cI cS I F)) (wsB B cI cS (upd I 6 (nI (fd + 1))) (va_up (va_up (va_up F 9 (upd (F 9) fd p0)) 10 (upd (F 10) fd p1)) 11 (upd (F 11) fd p2))) := hD
      refine lv_iconst (v := (1 : Int32)) hx hb dX1_addFound_58 (by decide) ?_
      exact retWz hx hb hr hlk hP hS dX1_addFound_59 (by grind [b2]) (by simp only [if_pos (show fd < 6 by omega)])
    · have nc_2 : ¬ fd < 6 := fun h => c_2 ((nI_ltI (a := fd) (b := 6) (by omega) (by omega)).mpr h)
      refine lv_iconst (v := (0 : Int32)) hx hb dX1_addFound_16 (by decide) ?_
      exact retWz hx hb hr hlk hP hS dX1_addFound_17 (by grind [b2]) (by simp only [if_neg (show ¬ fd < 6 by omega)])
