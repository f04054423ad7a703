theorem wsM_fst {A : Nat → Nat} {cI cB : ClassId} {I : Nat → Int32} {J : Nat → Int64} {F : Nat → Nat → Int32} : (wsM A cI cB I J F).map Prod.fst = [A 0, A 2, A 3, A 4, A 5, A 7, A 10, A 11, A 12, A 14, A 15, A 17, A 24, A 25, A 26, A 27] := rfl
theorem wsB_fst {B : Nat → Nat} {cI cS : ClassId} {I : Nat → Int32} {F : Nat → Nat → Int32} : (wsB B cI cS I F).map Prod.fst = [B 0, B 1, B 2, B 3, B 4, B 5, B 6, B 7, B 8, B 9, B 10, B 11, B 12, B 13, B 14, B 15, B 16, B 17, B 18, B 19, B 20, B 21] := rfl
theorem fltN_le (P : Nat → Prop) [DecidablePred P] : ∀ z k, fltN P z k ≤ k + z
  | 0, k => Nat.le_refl k
  | z + 1, k => by
    unfold fltN
    split
    · have := fltN_le P z (k + 1); omega
    · omega
theorem mSandB_15 {F : Nat → Nat → Int32} {f : Nat → Int32} {w m cs : Int32} {n : Nat} : ∀ s, mSandB (va_up F 15 f) w n m cs s = mSandB F w n m cs s
  | 0 => rfl
  | s + 1 => by
    have e : mDryAt (va_up F 15 f) (w ||| nI s) n m cs = mDryAt F (w ||| nI s) n m cs := rfl
    unfold mSandB
    rw [mSandB_15 s]
    simp only [e]
theorem mSand_15 {F : Nat → Nat → Int32} {f : Nat → Int32} {w m cs what : Int32} {n : Nat} : mSand (va_up F 15 f) w n m cs what = mSand F w n m cs what := by
  unfold mSand
  rw [mSandB_15]
set_option maxHeartbeats 1000000 in
set_option maxRecDepth 100000 in
theorem c_X4_isGood (l : Launch) (D : va_G) (cI cB cS : ClassId) {A : Nat → Nat} {I : Nat → Int32} {J : Nat → Int64} {F : Nat → Nat → Int32} {k : Nat} (hk : k < 21) : Met l yX4_isGood (Wm yX4_isGood cX4_isGood 3 (some .boolean)) ({ frames := 1, cells := 0, slots := 0, locals := 22 }) (va_Pc [.ref (A 0), .int (nI k)] (PR D (TYS cI cB cS) (wsM A cI cB I J F))) (QcV (some (.int (b2 (mGood (F 14) k))))) 0 0 (fun _ => False) := by
  refine metR (by decide) [.ref (A 0), .int (nI k)] (Nat.le_of_ble_eq_true rfl) ?_
  intro p e s m args below meth c hx hb hml hr hlk hown hts hKK hP ls hl
  obtain ⟨hK, hN⟩ := id hKK
  have hl : lv_has ls 3 [(0, .ref (A 0)), (1, .int (nI k))] := hl
  refine lv_aload_n hx hb dX4_isGood_0 rfl (lv_at hl 0 rfl) ?_
  refine va_get (D := D) (ci := 4) (v := .ref (A 14)) (C := RX4) (T := TX4) (N := 29) hx hb hts inlX4 hown hK hP 0 rfl rfl 14 (by decide) (hts _ kw_68) (fun _ h9 => h9) rfl dX4_isGood_1 ?_
  refine lv_iload_n hx hb dX4_isGood_4 rfl (lv_at hl 1 rfl) ?_
  refine va_bald (D := D) hx hb hK hP 9 1 rfl rfl (vp_in_nI (by omega) (by omega)) dX4_isGood_5 ?_
  refine topE (z := ((F 14) k)) (congrArg _ (nI_clamp (n := k) (by omega))) ?_
  refine lv_istore_n (lv' := [(2, .int ((F 14) k)), (0, .ref (A 0)), (1, .int (nI k))]) hx hb dX4_isGood_6 rfl hl (by decide) rfl (fun ls hl => ?_)
  refine lv_iload_n hx hb dX4_isGood_7 rfl (lv_at hl 2 rfl) ?_
  refine lv_iconst (v := (5 : Int32)) hx hb dX4_isGood_8 (by decide) ?_
  refine lv_irem hx hb dX4_isGood_9 (by decide) ?_
  refine topE (z := (nI (k % 5))) (pk_rem (a := k) (d := 5) (by omega) (by omega) (by omega)) ?_
  by_cases e_1 : (nI (k % 5)) = (0 : Int32)
  · refine topE e_1 ?_
    have ne_1 : (k % 5) = 0 := (nI_eq (a := (k % 5)) (b := 0) (by omega) (by omega)).mp e_1
    refine lv_tableIn (off := 30) (tgt := 40) hx hb dX4_isGood_10 (by decide) (by decide) rfl (by decide) ?_
    refine lv_iload_n hx hb dX4_isGood_40 rfl (lv_at hl 0 rfl) ?_
    refine rcSi (As := [.int ((F 14) k)]) (rest := []) hx hb hml hown hts hKK hP (c_X4_kindBy l D cI cB cS ((F 14) k)) (cwS2 1 hts kw_226 kw_6 kw_224 kw_225 rfl rfl (by decide +kernel) ⟨Nat.le_of_ble_eq_true rfl, Nat.le_of_ble_eq_true rfl⟩) rfl hl.1 rfl (Nat.le_of_ble_eq_true rfl) ⟨Nat.zero_le _, Nat.zero_le _⟩ dX4_isGood_41 ?_
    refine lv_iconst (v := (-1 : Int32)) hx hb dX4_isGood_44 (by decide) ?_
    refine lv_icmp_eq (tgt := 52) hx hb dX4_isGood_45 (by decide) (fun c_2 => ?_) (fun c_2 => ?_)
    · refine lv_iconst (v := (0 : Int32)) hx hb dX4_isGood_52 (by decide) ?_
      exact retRz hx hb hr hlk dX4_isGood_53 (by grind [b2])
    · refine lv_iconst (v := (1 : Int32)) hx hb dX4_isGood_48 (by decide) ?_
      refine lv_goto (tgt := 53) hx hb dX4_isGood_49 (by decide) ?_
      exact retRz hx hb hr hlk dX4_isGood_53 (by grind [b2])
  have ne_1 : ¬ (k % 5) = 0 := fun h => e_1 ((nI_eq (a := (k % 5)) (b := 0) (by omega) (by omega)).mpr h)
  by_cases e_3 : (nI (k % 5)) = (1 : Int32)
  · refine topE e_3 ?_
    have ne_3 : (k % 5) = 1 := (nI_eq (a := (k % 5)) (b := 1) (by omega) (by omega)).mp e_3
    refine lv_tableIn (off := 44) (tgt := 54) hx hb dX4_isGood_10 (by decide) (by decide) rfl (by decide) ?_
    refine lv_iload_n hx hb dX4_isGood_54 rfl (lv_at hl 0 rfl) ?_
    refine lv_bipush (v := (48 : Int32)) hx hb dX4_isGood_55 (by decide) ?_
    refine lv_isub hx hb dX4_isGood_57 ?_
    refine lv_iconst (v := (0 : Int32)) hx hb dX4_isGood_58 (by decide) ?_
    refine lv_bipush (v := (9 : Int32)) hx hb dX4_isGood_59 (by decide) ?_
    refine rcSi (As := [.int (((F 14) k) - (48 : Int32)), .int (0 : Int32), .int (9 : Int32)]) (rest := []) hx hb hml hown hts hKK hP (c_X4_within l D cI cB cS (((F 14) k) - (48 : Int32)) (0 : Int32) (9 : Int32)) (cwS2 3 hts kw_90 kw_6 kw_88 kw_89 rfl rfl (by decide +kernel) ⟨Nat.le_of_ble_eq_true rfl, Nat.le_of_ble_eq_true rfl⟩) rfl hl.1 rfl (Nat.le_of_ble_eq_true rfl) ⟨Nat.zero_le _, Nat.zero_le _⟩ dX4_isGood_61 ?_
    refine topE (z := (b2 (okCell (((F 14) k) - (48 : Int32))))) (b2_congr okCell_iff) ?_
    exact retRz hx hb hr hlk dX4_isGood_64 (by grind [b2])
  have ne_3 : ¬ (k % 5) = 1 := fun h => e_3 ((nI_eq (a := (k % 5)) (b := 1) (by omega) (by omega)).mpr h)
  by_cases e_4 : (nI (k % 5)) = (2 : Int32)
  · refine topE e_4 ?_
    have ne_4 : (k % 5) = 2 := (nI_eq (a := (k % 5)) (b := 2) (by omega) (by omega)).mp e_4
    refine lv_tableIn (off := 55) (tgt := 65) hx hb dX4_isGood_10 (by decide) (by decide) rfl (by decide) ?_
    refine lv_iload_n hx hb dX4_isGood_65 rfl (lv_at hl 0 rfl) ?_
    refine lv_bipush (v := (48 : Int32)) hx hb dX4_isGood_66 (by decide) ?_
    refine lv_isub hx hb dX4_isGood_68 ?_
    refine lv_iconst (v := (1 : Int32)) hx hb dX4_isGood_69 (by decide) ?_
    refine lv_iconst (v := (5 : Int32)) hx hb dX4_isGood_70 (by decide) ?_
    refine rcSi (As := [.int (((F 14) k) - (48 : Int32)), .int (1 : Int32), .int (5 : Int32)]) (rest := []) hx hb hml hown hts hKK hP (c_X4_within l D cI cB cS (((F 14) k) - (48 : Int32)) (1 : Int32) (5 : Int32)) (cwS2 3 hts kw_90 kw_6 kw_88 kw_89 rfl rfl (by decide +kernel) ⟨Nat.le_of_ble_eq_true rfl, Nat.le_of_ble_eq_true rfl⟩) rfl hl.1 rfl (Nat.le_of_ble_eq_true rfl) ⟨Nat.zero_le _, Nat.zero_le _⟩ dX4_isGood_71 ?_
    exact retRz hx hb hr hlk dX4_isGood_74 (by grind [b2])
  have ne_4 : ¬ (k % 5) = 2 := fun h => e_4 ((nI_eq (a := (k % 5)) (b := 2) (by omega) (by omega)).mpr h)
  by_cases e_5 : (nI (k % 5)) = (3 : Int32)
  · refine topE e_5 ?_
    have ne_5 : (k % 5) = 3 := (nI_eq (a := (k % 5)) (b := 3) (by omega) (by omega)).mp e_5
    refine lv_tableIn (off := 65) (tgt := 75) hx hb dX4_isGood_10 (by decide) (by decide) rfl (by decide) ?_
    refine lv_iload_n hx hb dX4_isGood_75 rfl (lv_at hl 0 rfl) ?_
    refine lv_bipush (v := (48 : Int32)) hx hb dX4_isGood_76 (by decide) ?_
    refine lv_isub hx hb dX4_isGood_78 ?_
    refine lv_iconst (v := (1 : Int32)) hx hb dX4_isGood_79 (by decide) ?_
    refine lv_bipush (v := (9 : Int32)) hx hb dX4_isGood_80 (by decide) ?_
    refine rcSi (As := [.int (((F 14) k) - (48 : Int32)), .int (1 : Int32), .int (9 : Int32)]) (rest := []) hx hb hml hown hts hKK hP (c_X4_within l D cI cB cS (((F 14) k) - (48 : Int32)) (1 : Int32) (9 : Int32)) (cwS2 3 hts kw_90 kw_6 kw_88 kw_89 rfl rfl (by decide +kernel) ⟨Nat.le_of_ble_eq_true rfl, Nat.le_of_ble_eq_true rfl⟩) rfl hl.1 rfl (Nat.le_of_ble_eq_true rfl) ⟨Nat.zero_le _, Nat.zero_le _⟩ dX4_isGood_82 ?_
    exact retRz hx hb hr hlk dX4_isGood_85 (by grind [b2])
  have ne_5 : ¬ (k % 5) = 3 := fun h => e_5 ((nI_eq (a := (k % 5)) (b := 3) (by omega) (by omega)).mpr h)
  have t_6 := lv_neT e_1 (a := 0) rfl
  have t_7 := lv_neT e_3 (a := 1) rfl
  have t_8 := lv_neT e_4 (a := 2) rfl
  have t_9 := lv_neT e_5 (a := 3) rfl
  refine lv_tableOut (tgt := 86) hx hb dX4_isGood_10 (by omega) (by decide) ?_
  refine lv_iload_n hx hb dX4_isGood_86 rfl (lv_at hl 0 rfl) ?_
  refine lv_bipush (v := (44 : Int32)) hx hb dX4_isGood_87 (by decide) ?_
  refine lv_icmp_ne (tgt := 102) hx hb dX4_isGood_89 (by decide) (fun c_10 => ?_) (fun c_10 => ?_)
  · refine lv_iconst (v := (0 : Int32)) hx hb dX4_isGood_102 (by decide) ?_
    exact retRz hx hb hr hlk dX4_isGood_103 (by grind [b2])
  · refine lv_iload_n hx hb dX4_isGood_92 rfl (lv_at hl 2 rfl) ?_
    refine lv_bipush (v := (19 : Int32)) hx hb dX4_isGood_93 (by decide) ?_
    refine lv_icmp_ge (tgt := 102) hx hb dX4_isGood_95 (by decide) (fun c_11 => ?_) (fun c_11 => ?_)
    · have nc_11 : 19 ≤ k := (nI_leI (a := 19) (b := k) (by omega) (by omega)).mp c_11
      refine lv_iconst (v := (0 : Int32)) hx hb dX4_isGood_102 (by decide) ?_
      exact retRz hx hb hr hlk dX4_isGood_103 (by grind [b2])
    · have nc_11 : ¬ 19 ≤ k := fun h => c_11 ((nI_leI (a := 19) (b := k) (by omega) (by omega)).mpr h)
      refine lv_iconst (v := (1 : Int32)) hx hb dX4_isGood_98 (by decide) ?_
      refine lv_goto (tgt := 103) hx hb dX4_isGood_99 (by decide) ?_
      exact retRz hx hb hr hlk dX4_isGood_103 (by grind [b2])
set_option maxHeartbeats 1000000 in
set_option maxRecDepth 100000 in
theorem c_X4_faultNow (l : Launch) (D : va_G) (cI cB cS : ClassId) {A : Nat → Nat} {I : Nat → Int32} {J : Nat → Int64} {F : Nat → Nat → Int32} {sz : Nat} (hsz : sz ≤ 21) (h13 : I 13 = nI sz) : Met l yX4_faultNow (Wm yX4_faultNow cX4_faultNow 2 (some .int)) ({ frames := 2, cells := 0, slots := 0, locals := 44 }) (va_Pc [.ref (A 0)] (PR D (TYS cI cB cS) (wsM A cI cB I J F))) (QcV (some (.int (nI (fltN (mGood (F 14)) sz 0))))) 0 0 (fun _ => False) := by
  refine metR (by decide) [.ref (A 0)] (Nat.le_of_ble_eq_true rfl) ?_
  intro p e s m args below meth c hx hb hml hr hlk hown hts hKK hP ls hl
  obtain ⟨hK, hN⟩ := id hKK
  have hl : lv_has ls 2 [(0, .ref (A 0))] := hl
  have hfl := fltN_le (mGood (F 14)) sz 0
  refine lv_iconst (v := (0 : Int32)) hx hb dX4_faultNow_0 (by decide) ?_
  refine lv_istore_n (lv' := [(1, .int (0 : Int32)), (0, .ref (A 0))]) hx hb dX4_faultNow_1 rfl hl (by decide) rfl (fun ls hl => ?_)
  have loop_2 : ∀ (z : Nat) (k : Nat) (x1 : Int32), x1 = nI k → (k ≤ sz) → (fltN (mGood (F 14)) (sz - k) k = fltN (mGood (F 14)) sz 0) → sz - k < z → ∀ (ls : Array Slot), lv_has ls 2 [(0, .ref (A 0)), (1, .int x1)] → W p l e ({ frames := 2, cells := 0, slots := 0, locals := 44 } : Room) s m args below meth c s.heap [] 0 0 (MQ below (QcV (some (.int (nI (fltN (mGood (F 14)) sz 0))))) args s 0 0 (fun _ => False)) (F0 m 2 ls []) := by
    intro z
    induction z with
    | zero =>
      intro k x1 ex1 hk hF hz
      exact absurd hz (Nat.not_lt_zero _)
    | succ z ih_2 =>
      intro k x1 ex1 hk hF hz ls hl
      subst ex1
      refine lv_iload_n hx hb dX4_faultNow_2 rfl (lv_at hl 1 rfl) ?_
      refine lv_aload_n hx hb dX4_faultNow_3 rfl (lv_at hl 0 rfl) ?_
      refine va_get (D := D) (ci := 4) (v := .int (I 13)) (C := RX4) (T := TX4) (N := 29) hx hb hts inlX4 hown hK hP 0 rfl rfl 13 (by decide) (hts _ kw_87) (fun _ h9 => h9) rfl dX4_faultNow_4 ?_
      refine topE (z := (nI sz)) h13 ?_
      refine lv_icmp_ge (tgt := 24) hx hb dX4_faultNow_7 (by decide) (fun c_1 => ?_) (fun c_1 => ?_)
      · have nc_1 : sz ≤ k := (nI_leI (a := sz) (b := k) (by omega) (by omega)).mp c_1
        refine lv_iload_n hx hb dX4_faultNow_24 rfl (lv_at hl 1 rfl) ?_
        exact retRi hx hb hr hlk dX4_faultNow_25 (by first | exact congrArg nI ((fltN_step (by omega) hF).2 (by assumption)) | (have hkn : k = sz := (by omega); subst hkn; rw [Nat.sub_self] at hF; exact congrArg nI hF))
      · have nc_1 : ¬ sz ≤ k := fun h => c_1 ((nI_leI (a := sz) (b := k) (by omega) (by omega)).mpr h)
        refine lv_aload_n hx hb dX4_faultNow_10 rfl (lv_at hl 0 rfl) ?_
        refine lv_iload_n hx hb dX4_faultNow_11 rfl (lv_at hl 1 rfl) ?_
        refine rcVi (As := [.int (nI k)]) (rest := []) hx hb hml hown hts hKK hP (c_X4_isGood l D cI cB cS (k := k) (by omega)) (cwV2 1 hts kw_223 kw_6 kw_220 kw_221 kw_222 rfl rfl (by decide +kernel) ⟨Nat.le_of_ble_eq_true rfl, Nat.le_of_ble_eq_true rfl⟩) 0 rfl rfl rfl rfl hl.1 rfl (Nat.le_of_ble_eq_true rfl) ⟨Nat.zero_le _, Nat.zero_le _⟩ dX4_faultNow_12 ?_
        refine topE (z := (b2 (mGood (F 14) k))) rfl ?_
        refine lv_if_eq (tgt := 24) hx hb dX4_faultNow_15 (by decide) (fun c_2 => ?_) (fun c_2 => ?_)
        · have c_2 := b2_z c_2
          refine lv_iload_n hx hb dX4_faultNow_24 rfl (lv_at hl 1 rfl) ?_
          exact retRi hx hb hr hlk dX4_faultNow_25 (by first | exact congrArg nI ((fltN_step (by omega) hF).2 (by assumption)) | (have hkn : k = sz := (by omega); subst hkn; rw [Nat.sub_self] at hF; exact congrArg nI hF))
        · have c_2 := b2_nz c_2
          refine lv_iinc (v := (nI (k + 1))) (lv' := [(1, .int (nI (k + 1))), (0, .ref (A 0))]) hx hb dX4_faultNow_18 hl (k := 1) rfl (nI_add k 1) (by decide) rfl (fun ls hl => ?_)
          refine lv_goto (tgt := 2) hx hb dX4_faultNow_21 (by decide) ?_
          exact ih_2 (k + 1) (nI (k + 1)) rfl (by omega) (by exact (fltN_step (by omega) hF).1 (by assumption)) (by omega) ls (lv_sub hl [1, 0] rfl)
  exact loop_2 ((sz - 0) + 1) 0 (0 : Int32) rfl (by omega) (by rfl) (by omega) ls (lv_sub hl [1, 0] rfl)
set_option maxHeartbeats 1000000 in
set_option maxRecDepth 100000 in
theorem c_X4_fault (l : Launch) (D : va_G) (cI cB cS : ClassId) {A : Nat → Nat} {I : Nat → Int32} {J : Nat → Int64} {F : Nat → Nat → Int32} {sz : Nat} (hsz : sz ≤ 21) (h13 : I 13 = nI sz) : Met l yX4_fault (Wm yX4_fault cX4_fault 1 (some .int)) ({ frames := 3, cells := 0, slots := 0, locals := 65 }) (va_Pc [.ref (A 0)] (PR D (TYS cI cB cS) (wsM A cI cB I J F))) (QcV (some (.int (nI (fltN (mGood (F 14)) sz 0))))) 0 0 (fun _ => False) := by
  refine metR (by decide) [.ref (A 0)] (Nat.le_of_ble_eq_true rfl) ?_
  intro p e s m args below meth c hx hb hml hr hlk hown hts hKK hP ls hl
  obtain ⟨hK, hN⟩ := id hKK
  have hl : lv_has ls 1 [(0, .ref (A 0))] := hl
  refine lv_aload_n hx hb dX4_fault_0 rfl (lv_at hl 0 rfl) ?_
  refine rcVi (As := []) (rest := []) hx hb hml hown hts hKK hP (c_X4_faultNow l D cI cB cS hsz h13) (cwV2 0 hts kw_219 kw_6 kw_216 kw_217 kw_218 rfl rfl (by decide +kernel) ⟨Nat.le_of_ble_eq_true rfl, Nat.le_of_ble_eq_true rfl⟩) 0 rfl rfl rfl rfl hl.1 rfl (Nat.le_of_ble_eq_true rfl) ⟨Nat.zero_le _, Nat.zero_le _⟩ dX4_fault_1 ?_
  refine topE (z := (nI (fltN (mGood (F 14)) sz 0))) rfl ?_
  exact retRi hx hb hr hlk dX4_fault_4 rfl
set_option maxHeartbeats 1000000 in
set_option maxRecDepth 100000 in
theorem c_X4_letter (l : Launch) (D : va_G) (cI cB cS : ClassId) {A : Nat → Nat} {I : Nat → Int32} {J : Nat → Int64} {F : Nat → Nat → Int32} {sz : Nat} (hsz : sz ≤ 21) (h13 : I 13 = nI sz) (p0 : Int32) : Met l yX4_letter (Wm yX4_letter cX4_letter 2 (some .int)) ({ frames := 1, cells := 0, slots := 0, locals := 22 }) (va_Pc [.ref (A 0), .int p0] (PW D (TYS cI cB cS) (wsM A cI cB I J F))) (QcW D (some (.int (if okL p0 then (if sz < 21 then nI (sz + 1) else -104) else -102))) (wsM A cI cB I J F) (if okL p0 ∧ sz < 21 then wsM A cI cB (upd I 13 (nI (sz + 1))) J (va_up F 14 (upd (F 14) sz (vp_nar .byte p0.toInt8.toInt32))) else wsM A cI cB I J F)) 0 0 (FPw (wsM A cI cB I J F)) := by
  refine metW (by decide) [.ref (A 0), .int p0] (Nat.le_of_ble_eq_true rfl) ?_
  intro p e s m args below meth c hx hb hml hr hlk hown hts hKK hP hD hS ls hl
  obtain ⟨hK, hN⟩ := id hKK
  have hl : lv_has ls 2 [(0, .ref (A 0)), (1, .int p0)] := hl
  refine lv_iload_n hx hb dX4_letter_0 rfl (lv_at hl 1 rfl) ?_
  refine lv_bipush (v := (32 : Int32)) hx hb dX4_letter_1 (by decide) ?_
  refine lv_bipush (v := (126 : Int32)) hx hb dX4_letter_3 (by decide) ?_
  refine rcSi (As := [.int p0, .int (32 : Int32), .int (126 : Int32)]) (rest := []) hx hb hml hown hts hKK hP (c_X4_within l D cI cB cS p0 (32 : Int32) (126 : Int32)) (cwS2 3 hts kw_90 kw_6 kw_88 kw_89 rfl rfl (by decide +kernel) ⟨Nat.le_of_ble_eq_true rfl, Nat.le_of_ble_eq_true rfl⟩) rfl hl.1 rfl (Nat.le_of_ble_eq_true rfl) ⟨Nat.zero_le _, Nat.zero_le _⟩ dX4_letter_5 ?_
  refine lv_if_ne (tgt := 14) hx hb dX4_letter_8 (by decide) (fun c_1 => ?_) (fun c_1 => ?_)
  · have c_1 := b2_nz c_1
    refine lv_aload_n hx hb dX4_letter_14 rfl (lv_at hl 0 rfl) ?_
    refine va_get (D := D) (ci := 4) (v := .int (I 13)) (C := RX4) (T := TX4) (N := 29) hx hb hts inlX4 hown hK hP 0 rfl rfl 13 (by decide) (hts _ kw_87) (fun _ h9 => h9) rfl dX4_letter_15 ?_
    refine topE (z := (nI sz)) h13 ?_
    refine lv_bipush (v := (21 : Int32)) hx hb dX4_letter_18 (by decide) ?_
    refine lv_icmp_ne (tgt := 26) hx hb dX4_letter_20 (by decide) (fun c_2 => ?_) (fun c_2 => ?_)
    · have nc_2 : ¬ sz = 21 := fun h => c_2 ((nI_eq (a := sz) (b := 21) (by omega) (by omega)).mpr h)
      refine lv_aload_n hx hb dX4_letter_26 rfl (lv_at hl 0 rfl) ?_
      refine va_get (D := D) (ci := 4) (v := .ref (A 14)) (C := RX4) (T := TX4) (N := 29) hx hb hts inlX4 hown hK hP 0 rfl rfl 14 (by decide) (hts _ kw_68) (fun _ h9 => h9) rfl dX4_letter_27 ?_
      refine lv_aload_n hx hb dX4_letter_30 rfl (lv_at hl 0 rfl) ?_
      refine va_get (D := D) (ci := 4) (v := .int (I 13)) (C := RX4) (T := TX4) (N := 29) hx hb hts inlX4 hown hK hP 0 rfl rfl 13 (by decide) (hts _ kw_87) (fun _ h9 => h9) rfl dX4_letter_31 ?_
      refine topE (z := (nI sz)) h13 ?_
      refine lv_iload_n hx hb dX4_letter_34 rfl (lv_at hl 1 rfl) ?_
      refine lv_i2b (v := ((p0).toInt8.toInt32)) hx hb dX4_letter_35 rfl ?_
      refine va_bast (D := D) hx hb hK hP hD hS 9 1 rfl rfl (vp_in_nI (by omega) (by omega)) dX4_letter_36 (fun H locs hP hD hS => ?_)
      rw [nI_clamp (n := sz) (by omega)] at hP hD
      have hP : va_P D vwCl (wsM A cI cB I J (va_up F 14 (upd (F 14) sz (vp_nar .byte ((p0).toInt8.toInt32))))) H := hP
      have hD : va_D (FPw (wsM A cI cB I J F)) (wsM A cI cB I J (va_up F 14 (upd (F 14) sz (vp_nar .byte ((p0).toInt8.toInt32))))) := hD
      refine lv_aload_n hx hb dX4_letter_37 rfl (lv_at hl 0 rfl) ?_
      refine lv_dup hx hb dX4_letter_38 rfl ?_
      refine va_get (D := D) (ci := 4) (v := .int (I 13)) (C := RX4) (T := TX4) (N := 29) hx hb hts inlX4 hown hK hP 0 rfl rfl 13 (by decide) (hts _ kw_87) (fun _ h9 => h9) rfl dX4_letter_39 ?_
      refine topE (z := (nI sz)) h13 ?_
      refine lv_iconst (v := (1 : Int32)) hx hb dX4_letter_42 (by decide) ?_
      refine lv_iadd hx hb dX4_letter_43 ?_
      refine topE (z := (nI (sz + 1))) (nI_add sz 1) ?_
      refine va_put (D := D) (ci := 4) (v := .int (nI (sz + 1))) (ty := tyX4 13) (C := RX4) (T := TX4) (N := 29) hx hb hts inlX4 tyX4 tyX4_ok nmX4 hown hK hP hD hS 0 rfl rfl 13 (by decide) (hts _ kw_87) (fun _ h9 => h9) rfl (tyX4_ok 13 (by decide)) rfl rfl (Nat.le_of_ble_eq_true rfl) dX4_letter_44 (fun H locs hP hD hS => ?_)
      have hP : va_P D vwCl (wsM A cI cB (upd I 13 (nI (sz + 1))) J (va_up F 14 (upd (F 14) sz (vp_nar .byte ((p0).toInt8.toInt32))))) H := hP
      have hD : va_D (FPw (wsM A cI cB I J F)) (wsM A cI cB (upd I 13 (nI (sz + 1))) J (va_up F 14 (upd (F 14) sz (vp_nar .byte ((p0).toInt8.toInt32))))) := hD
      refine lv_aload_n hx hb dX4_letter_47 rfl (lv_at hl 0 rfl) ?_
      refine va_get (D := D) (ci := 4) (v := .int (nI (sz + 1))) (C := RX4) (T := TX4) (N := 29) hx hb hts inlX4 hown hK hP 0 rfl rfl 13 (by decide) (hts _ kw_87) (fun _ h9 => h9) rfl dX4_letter_48 ?_
      exact retWi hx hb hr hlk hP hS dX4_letter_51 (by grind) (by first | exact (if_pos (by grind)).symm | exact (if_neg (by grind)).symm)
    · have nc_2 : sz = 21 := (nI_eq (a := sz) (b := 21) (by omega) (by omega)).mp c_2
      refine lv_bipush (v := (-104 : Int32)) hx hb dX4_letter_23 (by decide) ?_
      exact retWi hx hb hr hlk hP hS dX4_letter_25 (by grind) (by first | exact (if_pos (by grind)).symm | exact (if_neg (by grind)).symm)
  · have c_1 := b2_z c_1
    refine lv_bipush (v := (-102 : Int32)) hx hb dX4_letter_11 (by decide) ?_
    exact retWi hx hb hr hlk hP hS dX4_letter_13 (by grind) (by first | exact (if_pos (by grind)).symm | exact (if_neg (by grind)).symm)
set_option maxHeartbeats 1000000 in
set_option maxRecDepth 100000 in
theorem c_X4_leaf (l : Launch) (D : va_G) (cI cB cS : ClassId) {A : Nat → Nat} {I : Nat → Int32} {J : Nat → Int64} {F : Nat → Nat → Int32} {sz : Nat} (hsz : sz ≤ 21) (h13 : I 13 = nI sz) : Met l yX4_leaf (Wm yX4_leaf cX4_leaf 2 (some .int)) ({ frames := 3, cells := 0, slots := 0, locals := 65 }) (va_Pc [.ref (A 0)] (PW D (TYS cI cB cS) (wsM A cI cB I J F))) (QcW D (some (.int (if mIsL (F 14) sz then nI ((sz + 1) / 5) else -103))) (wsM A cI cB I J F) (if mIsL (F 14) sz then wsM A cI cB (upd (upd (upd (upd (upd (upd I 1 (nI ((sz + 1) / 5))) 0 (I 0 + 1)) 6 0) 8 0) 9 0) 13 0) J (va_up (va_up (va_up (va_up (va_up F 2 (rowN (fun s => mKind (F 14 (5 * s))) (F 2) ((sz + 1) / 5))) 3 (rowN (fun s => F 14 (5 * s + 1) - 48) (F 3) ((sz + 1) / 5))) 4 (rowN (fun s => mLong (F 14 (5 * s + 1) - 48) (F 14 (5 * s + 2) - 48)) (F 4) ((sz + 1) / 5))) 5 (rowN (fun s => F 14 (5 * s + 3) - 48) (F 5) ((sz + 1) / 5))) 7 (rowN (fun _ => 0) (F 7) 10)) else wsM A cI cB I J F)) 0 0 (FPw (wsM A cI cB I J F)) := by
  refine metW (by decide) [.ref (A 0)] (Nat.le_of_ble_eq_true rfl) ?_
  intro p e s m args below meth c hx hb hml hr hlk hown hts hKK hP hD hS ls hl
  obtain ⟨hK, hN⟩ := id hKK
  have hl : lv_has ls 2 [(0, .ref (A 0))] := hl
  have hfl := fltN_le (mGood (F 14)) sz 0
  refine lv_aload_n hx hb dX4_leaf_0 rfl (lv_at hl 0 rfl) ?_
  refine va_get (D := D) (ci := 4) (v := .int (I 13)) (C := RX4) (T := TX4) (N := 29) hx hb hts inlX4 hown hK hP 0 rfl rfl 13 (by decide) (hts _ kw_87) (fun _ h9 => h9) rfl dX4_leaf_1 ?_
  refine topE (z := (nI sz)) h13 ?_
  refine lv_iconst (v := (5 : Int32)) hx hb dX4_leaf_4 (by decide) ?_
  refine lv_irem hx hb dX4_leaf_5 (by decide) ?_
  refine topE (z := (nI (sz % 5))) (pk_rem (a := sz) (d := 5) (by omega) (by omega) (by omega)) ?_
  refine lv_iconst (v := (4 : Int32)) hx hb dX4_leaf_6 (by decide) ?_
  refine lv_icmp_ne (tgt := 21) hx hb dX4_leaf_7 (by decide) (fun c_1 => ?_) (fun c_1 => ?_)
  · have nc_1 : ¬ (sz % 5) = 4 := fun h => c_1 ((nI_eq (a := (sz % 5)) (b := 4) (by omega) (by omega)).mpr h)
    refine lv_bipush (v := (-103 : Int32)) hx hb dX4_leaf_21 (by decide) ?_
    exact retWi hx hb hr hlk hP hS dX4_leaf_23 (by first | exact (if_pos (by grind)).symm | exact (if_neg (by grind)).symm) (by first | exact (if_pos (by grind)).symm | exact (if_neg (by grind)).symm)
  · have nc_1 : (sz % 5) = 4 := (nI_eq (a := (sz % 5)) (b := 4) (by omega) (by omega)).mp c_1
    refine lv_aload_n hx hb dX4_leaf_10 rfl (lv_at hl 0 rfl) ?_
    refine rcVi (As := []) (rest := []) hx hb hml hown hts hKK hP (c_X4_faultNow l D cI cB cS hsz h13) (cwV2 0 hts kw_219 kw_6 kw_216 kw_217 kw_218 rfl rfl (by decide +kernel) ⟨Nat.le_of_ble_eq_true rfl, Nat.le_of_ble_eq_true rfl⟩) 0 rfl rfl rfl rfl hl.1 rfl (Nat.le_of_ble_eq_true rfl) ⟨Nat.zero_le _, Nat.zero_le _⟩ dX4_leaf_11 ?_
    refine topE (z := (nI (fltN (mGood (F 14)) sz 0))) rfl ?_
    refine lv_aload_n hx hb dX4_leaf_14 rfl (lv_at hl 0 rfl) ?_
    refine va_get (D := D) (ci := 4) (v := .int (I 13)) (C := RX4) (T := TX4) (N := 29) hx hb hts inlX4 hown hK hP 0 rfl rfl 13 (by decide) (hts _ kw_87) (fun _ h9 => h9) rfl dX4_leaf_15 ?_
    refine topE (z := (nI sz)) h13 ?_
    refine lv_icmp_eq (tgt := 24) hx hb dX4_leaf_18 (by decide) (fun c_2 => ?_) (fun c_2 => ?_)
    · have nc_2 : (fltN (mGood (F 14)) sz 0) = sz := (nI_eq (a := (fltN (mGood (F 14)) sz 0)) (b := sz) (by omega) (by omega)).mp c_2
      refine lv_aload_n hx hb dX4_leaf_24 rfl (lv_at hl 0 rfl) ?_
      refine lv_aload_n hx hb dX4_leaf_25 rfl (lv_at hl 0 rfl) ?_
      refine va_get (D := D) (ci := 4) (v := .int (I 13)) (C := RX4) (T := TX4) (N := 29) hx hb hts inlX4 hown hK hP 0 rfl rfl 13 (by decide) (hts _ kw_87) (fun _ h9 => h9) rfl dX4_leaf_26 ?_
      refine topE (z := (nI sz)) h13 ?_
      refine lv_iconst (v := (1 : Int32)) hx hb dX4_leaf_29 (by decide) ?_
      refine lv_iadd hx hb dX4_leaf_30 ?_
      refine topE (z := (nI (sz + 1))) (nI_add sz 1) ?_
      refine lv_iconst (v := (5 : Int32)) hx hb dX4_leaf_31 (by decide) ?_
      refine lv_idiv hx hb dX4_leaf_32 (by decide) ?_
      refine topE (z := (nI ((sz + 1) / 5))) (pk_div (a := (sz + 1)) (d := 5) (by omega) (by omega) (by omega)) ?_
      refine va_put (D := D) (ci := 4) (v := .int (nI ((sz + 1) / 5))) (ty := tyX4 1) (C := RX4) (T := TX4) (N := 29) hx hb hts inlX4 tyX4 tyX4_ok nmX4 hown hK hP hD hS 0 rfl rfl 1 (by decide) (hts _ kw_251) (fun _ h9 => h9) rfl (tyX4_ok 1 (by decide)) rfl rfl (Nat.le_of_ble_eq_true rfl) dX4_leaf_33 (fun H locs hP hD hS => ?_)
      have hP : va_P D vwCl (wsM A cI cB (upd I 1 (nI ((sz + 1) / 5))) J F) H := hP
      have hD : va_D (FPw (wsM A cI cB I J F)) (wsM A cI cB (upd I 1 (nI ((sz + 1) / 5))) J F) := hD
      refine lv_iconst (v := (0 : Int32)) hx hb dX4_leaf_36 (by decide) ?_
      refine lv_istore_n (lv' := [(1, .int (0 : Int32)), (0, .ref (A 0))]) hx hb dX4_leaf_37 rfl hl (by decide) rfl (fun ls hl => ?_)
      have loop_38 : ∀ (z : Nat) (k : Nat) (x1 : Int32), x1 = nI k → (k ≤ (sz + 1) / 5) → (sz + 1) / 5 - k < z → ∀ (H : Heap) (locs : List Loc), va_P D vwCl (wsM A cI cB (upd I 1 (nI ((sz + 1) / 5))) J (va_up (va_up (va_up (va_up F 2 (rowN (fun s => mKind (F 14 (5 * s))) (F 2) k)) 3 (rowN (fun s => F 14 (5 * s + 1) - 48) (F 3) k)) 4 (rowN (fun s => mLong (F 14 (5 * s + 1) - 48) (F 14 (5 * s + 2) - 48)) (F 4) k)) 5 (rowN (fun s => F 14 (5 * s + 3) - 48) (F 5) k))) H → va_S (FPw (wsM A cI cB I J F)) s.heap H locs → ∀ (ls : Array Slot), lv_has ls 2 [(0, .ref (A 0)), (1, .int x1)] → W p l e ({ frames := 3, cells := 0, slots := 0, locals := 65 } : Room) s m args below meth c H locs 0 0 (MQ below (QcW D (some (.int (if mIsL (F 14) sz then nI ((sz + 1) / 5) else -103))) (wsM A cI cB I J F) (if mIsL (F 14) sz then wsM A cI cB (upd (upd (upd (upd (upd (upd I 1 (nI ((sz + 1) / 5))) 0 (I 0 + 1)) 6 0) 8 0) 9 0) 13 0) J (va_up (va_up (va_up (va_up (va_up F 2 (rowN (fun s => mKind (F 14 (5 * s))) (F 2) ((sz + 1) / 5))) 3 (rowN (fun s => F 14 (5 * s + 1) - 48) (F 3) ((sz + 1) / 5))) 4 (rowN (fun s => mLong (F 14 (5 * s + 1) - 48) (F 14 (5 * s + 2) - 48)) (F 4) ((sz + 1) / 5))) 5 (rowN (fun s => F 14 (5 * s + 3) - 48) (F 5) ((sz + 1) / 5))) 7 (rowN (fun _ => 0) (F 7) 10)) else wsM A cI cB I J F)) args s 0 0 (FPw (wsM A cI cB I J F))) (F0 m 38 ls []) := by
        intro z
        induction z with
        | zero =>
          intro k x1 ex1 hk hz
          exact absurd hz (Nat.not_lt_zero _)
        | succ z ih_38 =>
          intro k x1 ex1 hk hz H locs hP hS ls hl
          subst ex1
          have hD := va_D_addr (ws := (wsM A cI cB (upd I 1 (nI ((sz + 1) / 5))) J F)) (ws' := (wsM A cI cB (upd I 1 (nI ((sz + 1) / 5))) J (va_up (va_up (va_up (va_up F 2 (rowN (fun s => mKind (F 14 (5 * s))) (F 2) k)) 3 (rowN (fun s => F 14 (5 * s + 1) - 48) (F 3) k)) 4 (rowN (fun s => mLong (F 14 (5 * s + 1) - 48) (F 14 (5 * s + 2) - 48)) (F 4) k)) 5 (rowN (fun s => F 14 (5 * s + 3) - 48) (F 5) k)))) (wsM_fst.trans wsM_fst.symm) hD
          refine lv_iload_n hx hb dX4_leaf_38 rfl (lv_at hl 1 rfl) ?_
          refine lv_aload_n hx hb dX4_leaf_39 rfl (lv_at hl 0 rfl) ?_
          refine va_get (D := D) (ci := 4) (v := .int (nI ((sz + 1) / 5))) (C := RX4) (T := TX4) (N := 29) hx hb hts inlX4 hown hK hP 0 rfl rfl 1 (by decide) (hts _ kw_251) (fun _ h9 => h9) rfl dX4_leaf_40 ?_
          refine lv_icmp_ge (tgt := 135) hx hb dX4_leaf_43 (by decide) (fun c_3 => ?_) (fun c_3 => ?_)
          · have nc_3 : ((sz + 1) / 5) ≤ k := (nI_leI (a := ((sz + 1) / 5)) (b := k) (by omega) (by omega)).mp c_3
            refine lv_iconst (v := (0 : Int32)) hx hb dX4_leaf_135 (by decide) ?_
            refine lv_istore_n (lv' := [(1, .int (0 : Int32)), (0, .ref (A 0))]) hx hb dX4_leaf_136 rfl hl (by decide) rfl (fun ls hl => ?_)
            have loop_137 : ∀ (z : Nat) (j : Nat) (y1 : Int32), y1 = nI j → (j ≤ 10) → 10 - j < z → ∀ (H : Heap) (locs : List Loc), va_P D vwCl (wsM A cI cB (upd I 1 (nI ((sz + 1) / 5))) J (va_up (va_up (va_up (va_up (va_up F 2 (rowN (fun s => mKind (F 14 (5 * s))) (F 2) ((sz + 1) / 5))) 3 (rowN (fun s => F 14 (5 * s + 1) - 48) (F 3) ((sz + 1) / 5))) 4 (rowN (fun s => mLong (F 14 (5 * s + 1) - 48) (F 14 (5 * s + 2) - 48)) (F 4) ((sz + 1) / 5))) 5 (rowN (fun s => F 14 (5 * s + 3) - 48) (F 5) ((sz + 1) / 5))) 7 (rowN (fun _ => 0) (F 7) j))) H → va_S (FPw (wsM A cI cB I J F)) s.heap H locs → ∀ (ls : Array Slot), lv_has ls 2 [(0, .ref (A 0)), (1, .int y1)] → W p l e ({ frames := 3, cells := 0, slots := 0, locals := 65 } : Room) s m args below meth c H locs 0 0 (MQ below (QcW D (some (.int (if mIsL (F 14) sz then nI ((sz + 1) / 5) else -103))) (wsM A cI cB I J F) (if mIsL (F 14) sz then wsM A cI cB (upd (upd (upd (upd (upd (upd I 1 (nI ((sz + 1) / 5))) 0 (I 0 + 1)) 6 0) 8 0) 9 0) 13 0) J (va_up (va_up (va_up (va_up (va_up F 2 (rowN (fun s => mKind (F 14 (5 * s))) (F 2) ((sz + 1) / 5))) 3 (rowN (fun s => F 14 (5 * s + 1) - 48) (F 3) ((sz + 1) / 5))) 4 (rowN (fun s => mLong (F 14 (5 * s + 1) - 48) (F 14 (5 * s + 2) - 48)) (F 4) ((sz + 1) / 5))) 5 (rowN (fun s => F 14 (5 * s + 3) - 48) (F 5) ((sz + 1) / 5))) 7 (rowN (fun _ => 0) (F 7) 10)) else wsM A cI cB I J F)) args s 0 0 (FPw (wsM A cI cB I J F))) (F0 m 137 ls []) := by
              intro z
              induction z with
              | zero =>
                intro j y1 ey1 hj hz
                exact absurd hz (Nat.not_lt_zero _)
              | succ z ih_137 =>
                intro j y1 ey1 hj hz H locs hP hS ls hl
                subst ey1
                have hD := va_D_addr (ws := (wsM A cI cB (upd I 1 (nI ((sz + 1) / 5))) J (va_up (va_up (va_up (va_up F 2 (rowN (fun s => mKind (F 14 (5 * s))) (F 2) k)) 3 (rowN (fun s => F 14 (5 * s + 1) - 48) (F 3) k)) 4 (rowN (fun s => mLong (F 14 (5 * s + 1) - 48) (F 14 (5 * s + 2) - 48)) (F 4) k)) 5 (rowN (fun s => F 14 (5 * s + 3) - 48) (F 5) k)))) (ws' := (wsM A cI cB (upd I 1 (nI ((sz + 1) / 5))) J (va_up (va_up (va_up (va_up (va_up F 2 (rowN (fun s => mKind (F 14 (5 * s))) (F 2) ((sz + 1) / 5))) 3 (rowN (fun s => F 14 (5 * s + 1) - 48) (F 3) ((sz + 1) / 5))) 4 (rowN (fun s => mLong (F 14 (5 * s + 1) - 48) (F 14 (5 * s + 2) - 48)) (F 4) ((sz + 1) / 5))) 5 (rowN (fun s => F 14 (5 * s + 3) - 48) (F 5) ((sz + 1) / 5))) 7 (rowN (fun _ => 0) (F 7) j)))) (wsM_fst.trans wsM_fst.symm) hD
                refine lv_iload_n hx hb dX4_leaf_137 rfl (lv_at hl 1 rfl) ?_
                refine lv_bipush (v := (10 : Int32)) hx hb dX4_leaf_138 (by decide) ?_
                refine lv_icmp_ge (tgt := 156) hx hb dX4_leaf_140 (by decide) (fun c_4 => ?_) (fun c_4 => ?_)
                · have nc_4 : 10 ≤ j := (nI_leI (a := 10) (b := j) (by omega) (by omega)).mp c_4
                  refine lv_aload_n hx hb dX4_leaf_156 rfl (lv_at hl 0 rfl) ?_
                  refine lv_dup hx hb dX4_leaf_157 rfl ?_
                  refine va_get (D := D) (ci := 4) (v := .int (I 0)) (C := RX4) (T := TX4) (N := 29) hx hb hts inlX4 hown hK hP 0 rfl rfl 0 (by decide) (hts _ kw_252) (fun _ h9 => h9) rfl dX4_leaf_158 ?_
                  refine lv_iconst (v := (1 : Int32)) hx hb dX4_leaf_161 (by decide) ?_
                  refine lv_iadd hx hb dX4_leaf_162 ?_
                  refine va_put (D := D) (ci := 4) (v := .int ((I 0) + (1 : Int32))) (ty := tyX4 0) (C := RX4) (T := TX4) (N := 29) hx hb hts inlX4 tyX4 tyX4_ok nmX4 hown hK hP hD hS 0 rfl rfl 0 (by decide) (hts _ kw_252) (fun _ h9 => h9) rfl (tyX4_ok 0 (by decide)) rfl rfl (Nat.le_of_ble_eq_true rfl) dX4_leaf_163 (fun H locs hP hD hS => ?_)
                  have hP : va_P D vwCl (wsM A cI cB (upd (upd I 1 (nI ((sz + 1) / 5))) 0 ((I 0) + (1 : Int32))) J (va_up (va_up (va_up (va_up (va_up F 2 (rowN (fun s => mKind (F 14 (5 * s))) (F 2) ((sz + 1) / 5))) 3 (rowN (fun s => F 14 (5 * s + 1) - 48) (F 3) ((sz + 1) / 5))) 4 (rowN (fun s => mLong (F 14 (5 * s + 1) - 48) (F 14 (5 * s + 2) - 48)) (F 4) ((sz + 1) / 5))) 5 (rowN (fun s => F 14 (5 * s + 3) - 48) (F 5) ((sz + 1) / 5))) 7 (rowN (fun _ => 0) (F 7) j))) H := hP
                  have hD : va_D (FPw (wsM A cI cB I J F)) (wsM A cI cB (upd (upd I 1 (nI ((sz + 1) / 5))) 0 ((I 0) + (1 : Int32))) J (va_up (va_up (va_up (va_up (va_up F 2 (rowN (fun s => mKind (F 14 (5 * s))) (F 2) ((sz + 1) / 5))) 3 (rowN (fun s => F 14 (5 * s + 1) - 48) (F 3) ((sz + 1) / 5))) 4 (rowN (fun s => mLong (F 14 (5 * s + 1) - 48) (F 14 (5 * s + 2) - 48)) (F 4) ((sz + 1) / 5))) 5 (rowN (fun s => F 14 (5 * s + 3) - 48) (F 5) ((sz + 1) / 5))) 7 (rowN (fun _ => 0) (F 7) j))) := hD
                  refine lv_aload_n hx hb dX4_leaf_166 rfl (lv_at hl 0 rfl) ?_
                  refine lv_iconst (v := (0 : Int32)) hx hb dX4_leaf_167 (by decide) ?_
                  refine va_put (D := D) (ci := 4) (v := .int (0 : Int32)) (ty := tyX4 6) (C := RX4) (T := TX4) (N := 29) hx hb hts inlX4 tyX4 tyX4_ok nmX4 hown hK hP hD hS 0 rfl rfl 6 (by decide) (hts _ kw_253) (fun _ h9 => h9) rfl (tyX4_ok 6 (by decide)) rfl rfl (Nat.le_of_ble_eq_true rfl) dX4_leaf_168 (fun H locs hP hD hS => ?_)
                  have hP : va_P D vwCl (wsM A cI cB (upd (upd (upd I 1 (nI ((sz + 1) / 5))) 0 ((I 0) + (1 : Int32))) 6 (0 : Int32)) J (va_up (va_up (va_up (va_up (va_up F 2 (rowN (fun s => mKind (F 14 (5 * s))) (F 2) ((sz + 1) / 5))) 3 (rowN (fun s => F 14 (5 * s + 1) - 48) (F 3) ((sz + 1) / 5))) 4 (rowN (fun s => mLong (F 14 (5 * s + 1) - 48) (F 14 (5 * s + 2) - 48)) (F 4) ((sz + 1) / 5))) 5 (rowN (fun s => F 14 (5 * s + 3) - 48) (F 5) ((sz + 1) / 5))) 7 (rowN (fun _ => 0) (F 7) j))) H := hP
                  have hD : va_D (FPw (wsM A cI cB I J F)) (wsM A cI cB (upd (upd (upd I 1 (nI ((sz + 1) / 5))) 0 ((I 0) + (1 : Int32))) 6 (0 : Int32)) J (va_up (va_up (va_up (va_up (va_up F 2 (rowN (fun s => mKind (F 14 (5 * s))) (F 2) ((sz + 1) / 5))) 3 (rowN (fun s => F 14 (5 * s + 1) - 48) (F 3) ((sz + 1) / 5))) 4 (rowN (fun s => mLong (F 14 (5 * s + 1) - 48) (F 14 (5 * s + 2) - 48)) (F 4) ((sz + 1) / 5))) 5 (rowN (fun s => F 14 (5 * s + 3) - 48) (F 5) ((sz + 1) / 5))) 7 (rowN (fun _ => 0) (F 7) j))) := hD
                  refine lv_aload_n hx hb dX4_leaf_171 rfl (lv_at hl 0 rfl) ?_
                  refine lv_iconst (v := (0 : Int32)) hx hb dX4_leaf_172 (by decide) ?_
                  refine va_put (D := D) (ci := 4) (v := .int (0 : Int32)) (ty := tyX4 8) (C := RX4) (T := TX4) (N := 29) hx hb hts inlX4 tyX4 tyX4_ok nmX4 hown hK hP hD hS 0 rfl rfl 8 (by decide) (hts _ kw_254) (fun _ h9 => h9) rfl (tyX4_ok 8 (by decide)) rfl rfl (Nat.le_of_ble_eq_true rfl) dX4_leaf_173 (fun H locs hP hD hS => ?_)
                  have hP : va_P D vwCl (wsM A cI cB (upd (upd (upd (upd I 1 (nI ((sz + 1) / 5))) 0 ((I 0) + (1 : Int32))) 6 (0 : Int32)) 8 (0 : Int32)) J (va_up (va_up (va_up (va_up (va_up F 2 (rowN (fun s => mKind (F 14 (5 * s))) (F 2) ((sz + 1) / 5))) 3 (rowN (fun s => F 14 (5 * s + 1) - 48) (F 3) ((sz + 1) / 5))) 4 (rowN (fun s => mLong (F 14 (5 * s + 1) - 48) (F 14 (5 * s + 2) - 48)) (F 4) ((sz + 1) / 5))) 5 (rowN (fun s => F 14 (5 * s + 3) - 48) (F 5) ((sz + 1) / 5))) 7 (rowN (fun _ => 0) (F 7) j))) H := hP
                  have hD : va_D (FPw (wsM A cI cB I J F)) (wsM A cI cB (upd (upd (upd (upd I 1 (nI ((sz + 1) / 5))) 0 ((I 0) + (1 : Int32))) 6 (0 : Int32)) 8 (0 : Int32)) J (va_up (va_up (va_up (va_up (va_up F 2 (rowN (fun s => mKind (F 14 (5 * s))) (F 2) ((sz + 1) / 5))) 3 (rowN (fun s => F 14 (5 * s + 1) - 48) (F 3) ((sz + 1) / 5))) 4 (rowN (fun s => mLong (F 14 (5 * s + 1) - 48) (F 14 (5 * s + 2) - 48)) (F 4) ((sz + 1) / 5))) 5 (rowN (fun s => F 14 (5 * s + 3) - 48) (F 5) ((sz + 1) / 5))) 7 (rowN (fun _ => 0) (F 7) j))) := hD
                  refine lv_aload_n hx hb dX4_leaf_176 rfl (lv_at hl 0 rfl) ?_
                  refine lv_iconst (v := (0 : Int32)) hx hb dX4_leaf_177 (by decide) ?_
                  refine va_put (D := D) (ci := 4) (v := .int (0 : Int32)) (ty := tyX4 9) (C := RX4) (T := TX4) (N := 29) hx hb hts inlX4 tyX4 tyX4_ok nmX4 hown hK hP hD hS 0 rfl rfl 9 (by decide) (hts _ kw_255) (fun _ h9 => h9) rfl (tyX4_ok 9 (by decide)) rfl rfl (Nat.le_of_ble_eq_true rfl) dX4_leaf_178 (fun H locs hP hD hS => ?_)
                  have hP : va_P D vwCl (wsM A cI cB (upd (upd (upd (upd (upd I 1 (nI ((sz + 1) / 5))) 0 ((I 0) + (1 : Int32))) 6 (0 : Int32)) 8 (0 : Int32)) 9 (0 : Int32)) J (va_up (va_up (va_up (va_up (va_up F 2 (rowN (fun s => mKind (F 14 (5 * s))) (F 2) ((sz + 1) / 5))) 3 (rowN (fun s => F 14 (5 * s + 1) - 48) (F 3) ((sz + 1) / 5))) 4 (rowN (fun s => mLong (F 14 (5 * s + 1) - 48) (F 14 (5 * s + 2) - 48)) (F 4) ((sz + 1) / 5))) 5 (rowN (fun s => F 14 (5 * s + 3) - 48) (F 5) ((sz + 1) / 5))) 7 (rowN (fun _ => 0) (F 7) j))) H := hP
                  have hD : va_D (FPw (wsM A cI cB I J F)) (wsM A cI cB (upd (upd (upd (upd (upd I 1 (nI ((sz + 1) / 5))) 0 ((I 0) + (1 : Int32))) 6 (0 : Int32)) 8 (0 : Int32)) 9 (0 : Int32)) J (va_up (va_up (va_up (va_up (va_up F 2 (rowN (fun s => mKind (F 14 (5 * s))) (F 2) ((sz + 1) / 5))) 3 (rowN (fun s => F 14 (5 * s + 1) - 48) (F 3) ((sz + 1) / 5))) 4 (rowN (fun s => mLong (F 14 (5 * s + 1) - 48) (F 14 (5 * s + 2) - 48)) (F 4) ((sz + 1) / 5))) 5 (rowN (fun s => F 14 (5 * s + 3) - 48) (F 5) ((sz + 1) / 5))) 7 (rowN (fun _ => 0) (F 7) j))) := hD
                  refine lv_aload_n hx hb dX4_leaf_181 rfl (lv_at hl 0 rfl) ?_
                  refine lv_iconst (v := (0 : Int32)) hx hb dX4_leaf_182 (by decide) ?_
                  refine va_put (D := D) (ci := 4) (v := .int (0 : Int32)) (ty := tyX4 13) (C := RX4) (T := TX4) (N := 29) hx hb hts inlX4 tyX4 tyX4_ok nmX4 hown hK hP hD hS 0 rfl rfl 13 (by decide) (hts _ kw_87) (fun _ h9 => h9) rfl (tyX4_ok 13 (by decide)) rfl rfl (Nat.le_of_ble_eq_true rfl) dX4_leaf_183 (fun H locs hP hD hS => ?_)
                  have hP : va_P D vwCl (wsM A cI cB (upd (upd (upd (upd (upd (upd I 1 (nI ((sz + 1) / 5))) 0 ((I 0) + (1 : Int32))) 6 (0 : Int32)) 8 (0 : Int32)) 9 (0 : Int32)) 13 (0 : Int32)) J (va_up (va_up (va_up (va_up (va_up F 2 (rowN (fun s => mKind (F 14 (5 * s))) (F 2) ((sz + 1) / 5))) 3 (rowN (fun s => F 14 (5 * s + 1) - 48) (F 3) ((sz + 1) / 5))) 4 (rowN (fun s => mLong (F 14 (5 * s + 1) - 48) (F 14 (5 * s + 2) - 48)) (F 4) ((sz + 1) / 5))) 5 (rowN (fun s => F 14 (5 * s + 3) - 48) (F 5) ((sz + 1) / 5))) 7 (rowN (fun _ => 0) (F 7) j))) H := hP
                  have hD : va_D (FPw (wsM A cI cB I J F)) (wsM A cI cB (upd (upd (upd (upd (upd (upd I 1 (nI ((sz + 1) / 5))) 0 ((I 0) + (1 : Int32))) 6 (0 : Int32)) 8 (0 : Int32)) 9 (0 : Int32)) 13 (0 : Int32)) J (va_up (va_up (va_up (va_up (va_up F 2 (rowN (fun s => mKind (F 14 (5 * s))) (F 2) ((sz + 1) / 5))) 3 (rowN (fun s => F 14 (5 * s + 1) - 48) (F 3) ((sz + 1) / 5))) 4 (rowN (fun s => mLong (F 14 (5 * s + 1) - 48) (F 14 (5 * s + 2) - 48)) (F 4) ((sz + 1) / 5))) 5 (rowN (fun s => F 14 (5 * s + 3) - 48) (F 5) ((sz + 1) / 5))) 7 (rowN (fun _ => 0) (F 7) j))) := hD
                  refine lv_aload_n hx hb dX4_leaf_186 rfl (lv_at hl 0 rfl) ?_
                  refine va_get (D := D) (ci := 4) (v := .int (nI ((sz + 1) / 5))) (C := RX4) (T := TX4) (N := 29) hx hb hts inlX4 hown hK hP 0 rfl rfl 1 (by decide) (hts _ kw_251) (fun _ h9 => h9) rfl dX4_leaf_187 ?_
                  exact retWi hx hb hr hlk hP hS dX4_leaf_190 (by first | exact (if_pos (by grind)).symm | exact (if_neg (by grind)).symm) (by have hjn : j = 10 := (by omega); subst hjn; exact (if_pos (by grind)).symm)
                · have nc_4 : ¬ 10 ≤ j := fun h => c_4 ((nI_leI (a := 10) (b := j) (by omega) (by omega)).mpr h)
                  refine lv_aload_n hx hb dX4_leaf_143 rfl (lv_at hl 0 rfl) ?_
                  refine va_get (D := D) (ci := 4) (v := .ref (A 7)) (C := RX4) (T := TX4) (N := 29) hx hb hts inlX4 hown hK hP 0 rfl rfl 7 (by decide) (hts _ kw_63) (fun _ h9 => h9) rfl dX4_leaf_144 ?_
                  refine lv_iload_n hx hb dX4_leaf_147 rfl (lv_at hl 1 rfl) ?_
                  refine lv_iconst (v := (0 : Int32)) hx hb dX4_leaf_148 (by decide) ?_
                  refine va_iast (D := D) hx hb hK hP hD hS 5 0 rfl rfl (vp_in_nI (by omega) (by omega)) dX4_leaf_149 (fun H locs hP hD hS => ?_)
                  rw [nI_clamp (n := j) (by omega)] at hP hD
                  have hP : va_P D vwCl (wsM A cI cB (upd I 1 (nI ((sz + 1) / 5))) J (va_up (va_up (va_up (va_up (va_up F 2 (rowN (fun s => mKind (F 14 (5 * s))) (F 2) ((sz + 1) / 5))) 3 (rowN (fun s => F 14 (5 * s + 1) - 48) (F 3) ((sz + 1) / 5))) 4 (rowN (fun s => mLong (F 14 (5 * s + 1) - 48) (F 14 (5 * s + 2) - 48)) (F 4) ((sz + 1) / 5))) 5 (rowN (fun s => F 14 (5 * s + 3) - 48) (F 5) ((sz + 1) / 5))) 7 (upd (rowN (fun _ => 0) (F 7) j) j (0 : Int32)))) H := hP
                  have hD : va_D (FPw (wsM A cI cB I J F)) (wsM A cI cB (upd I 1 (nI ((sz + 1) / 5))) J (va_up (va_up (va_up (va_up (va_up F 2 (rowN (fun s => mKind (F 14 (5 * s))) (F 2) ((sz + 1) / 5))) 3 (rowN (fun s => F 14 (5 * s + 1) - 48) (F 3) ((sz + 1) / 5))) 4 (rowN (fun s => mLong (F 14 (5 * s + 1) - 48) (F 14 (5 * s + 2) - 48)) (F 4) ((sz + 1) / 5))) 5 (rowN (fun s => F 14 (5 * s + 3) - 48) (F 5) ((sz + 1) / 5))) 7 (upd (rowN (fun _ => 0) (F 7) j) j (0 : Int32)))) := hD
                  refine lv_iinc (v := (nI (j + 1))) (lv' := [(1, .int (nI (j + 1))), (0, .ref (A 0))]) hx hb dX4_leaf_150 hl (k := 1) rfl (nI_add j 1) (by decide) rfl (fun ls hl => ?_)
                  refine lv_goto (tgt := 137) hx hb dX4_leaf_153 (by decide) ?_
                  have hP9 : va_P D vwCl (wsM A cI cB (upd I 1 (nI ((sz + 1) / 5))) J (va_up (va_up (va_up (va_up (va_up F 2 (rowN (fun s => mKind (F 14 (5 * s))) (F 2) ((sz + 1) / 5))) 3 (rowN (fun s => F 14 (5 * s + 1) - 48) (F 3) ((sz + 1) / 5))) 4 (rowN (fun s => mLong (F 14 (5 * s + 1) - 48) (F 14 (5 * s + 2) - 48)) (F 4) ((sz + 1) / 5))) 5 (rowN (fun s => F 14 (5 * s + 3) - 48) (F 5) ((sz + 1) / 5))) 7 (rowN (fun _ => 0) (F 7) (j + 1)))) H := by rw [← rowN_upd (i := j)]; exact hP
                  exact ih_137 (j + 1) (nI (j + 1)) rfl (by omega) (by omega) H locs hP9 hS ls (lv_sub hl [1, 0] rfl)
            have hP9 : va_P D vwCl (wsM A cI cB (upd I 1 (nI ((sz + 1) / 5))) J (va_up (va_up (va_up (va_up (va_up F 2 (rowN (fun s => mKind (F 14 (5 * s))) (F 2) ((sz + 1) / 5))) 3 (rowN (fun s => F 14 (5 * s + 1) - 48) (F 3) ((sz + 1) / 5))) 4 (rowN (fun s => mLong (F 14 (5 * s + 1) - 48) (F 14 (5 * s + 2) - 48)) (F 4) ((sz + 1) / 5))) 5 (rowN (fun s => F 14 (5 * s + 3) - 48) (F 5) ((sz + 1) / 5))) 7 (rowN (fun _ => 0) (F 7) 0))) H := by have hkn : k = (sz + 1) / 5 := (by omega); subst hkn; rw [rowN_0]; exact hP
            exact loop_137 ((10 - 0) + 1) 0 (0 : Int32) rfl (by omega) (by omega) H locs hP9 hS ls (lv_sub hl [1, 0] rfl)
          · have nc_3 : ¬ ((sz + 1) / 5) ≤ k := fun h => c_3 ((nI_leI (a := ((sz + 1) / 5)) (b := k) (by omega) (by omega)).mpr h)
            refine lv_aload_n hx hb dX4_leaf_46 rfl (lv_at hl 0 rfl) ?_
            refine va_get (D := D) (ci := 4) (v := .ref (A 2)) (C := RX4) (T := TX4) (N := 29) hx hb hts inlX4 hown hK hP 0 rfl rfl 2 (by decide) (hts _ kw_59) (fun _ h9 => h9) rfl dX4_leaf_47 ?_
            refine lv_iload_n hx hb dX4_leaf_50 rfl (lv_at hl 1 rfl) ?_
            refine lv_aload_n hx hb dX4_leaf_51 rfl (lv_at hl 0 rfl) ?_
            refine va_get (D := D) (ci := 4) (v := .ref (A 14)) (C := RX4) (T := TX4) (N := 29) hx hb hts inlX4 hown hK hP 0 rfl rfl 14 (by decide) (hts _ kw_68) (fun _ h9 => h9) rfl dX4_leaf_52 ?_
            refine lv_iconst (v := (5 : Int32)) hx hb dX4_leaf_55 (by decide) ?_
            refine lv_iload_n hx hb dX4_leaf_56 rfl (lv_at hl 1 rfl) ?_
            refine lv_imul hx hb dX4_leaf_57 ?_
            refine topE (z := (nI (5 * k))) (pk_mul 5 k) ?_
            refine va_bald (D := D) hx hb hK hP 9 1 rfl rfl (vp_in_nI (by omega) (by omega)) dX4_leaf_58 ?_
            refine topE (z := ((F 14) (5 * k))) (congrArg _ (nI_clamp (n := (5 * k)) (by omega))) ?_
            refine rcSi (As := [.int ((F 14) (5 * k))]) (rest := [.int (nI k), .ref (A 2)]) hx hb hml hown hts hKK hP (c_X4_kindBy l D cI cB cS ((F 14) (5 * k))) (cwS2 1 hts kw_226 kw_6 kw_224 kw_225 rfl rfl (by decide +kernel) ⟨Nat.le_of_ble_eq_true rfl, Nat.le_of_ble_eq_true rfl⟩) rfl hl.1 rfl (Nat.le_of_ble_eq_true rfl) ⟨Nat.zero_le _, Nat.zero_le _⟩ dX4_leaf_59 ?_
            refine va_iast (D := D) hx hb hK hP hD hS 1 0 rfl rfl (vp_in_nI (by omega) (by omega)) dX4_leaf_62 (fun H locs hP hD hS => ?_)
            rw [nI_clamp (n := k) (by omega)] at hP hD
            have hP : va_P D vwCl (wsM A cI cB (upd I 1 (nI ((sz + 1) / 5))) J (va_up (va_up (va_up (va_up F 2 (upd (rowN (fun s => mKind (F 14 (5 * s))) (F 2) k) k (mKind ((F 14) (5 * k))))) 3 (rowN (fun s => F 14 (5 * s + 1) - 48) (F 3) k)) 4 (rowN (fun s => mLong (F 14 (5 * s + 1) - 48) (F 14 (5 * s + 2) - 48)) (F 4) k)) 5 (rowN (fun s => F 14 (5 * s + 3) - 48) (F 5) k))) H := hP
            have hD : va_D (FPw (wsM A cI cB I J F)) (wsM A cI cB (upd I 1 (nI ((sz + 1) / 5))) J (va_up (va_up (va_up (va_up F 2 (upd (rowN (fun s => mKind (F 14 (5 * s))) (F 2) k) k (mKind ((F 14) (5 * k))))) 3 (rowN (fun s => F 14 (5 * s + 1) - 48) (F 3) k)) 4 (rowN (fun s => mLong (F 14 (5 * s + 1) - 48) (F 14 (5 * s + 2) - 48)) (F 4) k)) 5 (rowN (fun s => F 14 (5 * s + 3) - 48) (F 5) k))) := hD
            refine lv_aload_n hx hb dX4_leaf_63 rfl (lv_at hl 0 rfl) ?_
            refine va_get (D := D) (ci := 4) (v := .ref (A 3)) (C := RX4) (T := TX4) (N := 29) hx hb hts inlX4 hown hK hP 0 rfl rfl 3 (by decide) (hts _ kw_60) (fun _ h9 => h9) rfl dX4_leaf_64 ?_
            refine lv_iload_n hx hb dX4_leaf_67 rfl (lv_at hl 1 rfl) ?_
            refine lv_aload_n hx hb dX4_leaf_68 rfl (lv_at hl 0 rfl) ?_
            refine va_get (D := D) (ci := 4) (v := .ref (A 14)) (C := RX4) (T := TX4) (N := 29) hx hb hts inlX4 hown hK hP 0 rfl rfl 14 (by decide) (hts _ kw_68) (fun _ h9 => h9) rfl dX4_leaf_69 ?_
            refine lv_iconst (v := (5 : Int32)) hx hb dX4_leaf_72 (by decide) ?_
            refine lv_iload_n hx hb dX4_leaf_73 rfl (lv_at hl 1 rfl) ?_
            refine lv_imul hx hb dX4_leaf_74 ?_
            refine topE (z := (nI (5 * k))) (pk_mul 5 k) ?_
            refine lv_iconst (v := (1 : Int32)) hx hb dX4_leaf_75 (by decide) ?_
            refine lv_iadd hx hb dX4_leaf_76 ?_
            refine topE (z := (nI ((5 * k) + 1))) (nI_add (5 * k) 1) ?_
            refine va_bald (D := D) hx hb hK hP 9 1 rfl rfl (vp_in_nI (by omega) (by omega)) dX4_leaf_77 ?_
            refine topE (z := ((F 14) ((5 * k) + 1))) (congrArg _ (nI_clamp (n := ((5 * k) + 1)) (by omega))) ?_
            refine lv_bipush (v := (48 : Int32)) hx hb dX4_leaf_78 (by decide) ?_
            refine lv_isub hx hb dX4_leaf_80 ?_
            refine va_iast (D := D) hx hb hK hP hD hS 2 0 rfl rfl (vp_in_nI (by omega) (by omega)) dX4_leaf_81 (fun H locs hP hD hS => ?_)
            rw [nI_clamp (n := k) (by omega)] at hP hD
            have hP : va_P D vwCl (wsM A cI cB (upd I 1 (nI ((sz + 1) / 5))) J (va_up (va_up (va_up (va_up F 2 (upd (rowN (fun s => mKind (F 14 (5 * s))) (F 2) k) k (mKind ((F 14) (5 * k))))) 3 (upd (rowN (fun s => F 14 (5 * s + 1) - 48) (F 3) k) k (((F 14) ((5 * k) + 1)) - (48 : Int32)))) 4 (rowN (fun s => mLong (F 14 (5 * s + 1) - 48) (F 14 (5 * s + 2) - 48)) (F 4) k)) 5 (rowN (fun s => F 14 (5 * s + 3) - 48) (F 5) k))) H := hP
            have hD : va_D (FPw (wsM A cI cB I J F)) (wsM A cI cB (upd I 1 (nI ((sz + 1) / 5))) J (va_up (va_up (va_up (va_up F 2 (upd (rowN (fun s => mKind (F 14 (5 * s))) (F 2) k) k (mKind ((F 14) (5 * k))))) 3 (upd (rowN (fun s => F 14 (5 * s + 1) - 48) (F 3) k) k (((F 14) ((5 * k) + 1)) - (48 : Int32)))) 4 (rowN (fun s => mLong (F 14 (5 * s + 1) - 48) (F 14 (5 * s + 2) - 48)) (F 4) k)) 5 (rowN (fun s => F 14 (5 * s + 3) - 48) (F 5) k))) := hD
            refine lv_aload_n hx hb dX4_leaf_82 rfl (lv_at hl 0 rfl) ?_
            refine va_get (D := D) (ci := 4) (v := .ref (A 4)) (C := RX4) (T := TX4) (N := 29) hx hb hts inlX4 hown hK hP 0 rfl rfl 4 (by decide) (hts _ kw_61) (fun _ h9 => h9) rfl dX4_leaf_83 ?_
            refine lv_iload_n hx hb dX4_leaf_86 rfl (lv_at hl 1 rfl) ?_
            refine lv_aload_n hx hb dX4_leaf_87 rfl (lv_at hl 0 rfl) ?_
            refine va_get (D := D) (ci := 4) (v := .ref (A 3)) (C := RX4) (T := TX4) (N := 29) hx hb hts inlX4 hown hK hP 0 rfl rfl 3 (by decide) (hts _ kw_60) (fun _ h9 => h9) rfl dX4_leaf_88 ?_
            refine lv_iload_n hx hb dX4_leaf_91 rfl (lv_at hl 1 rfl) ?_
            refine va_iald (D := D) hx hb hK hP 2 0 rfl rfl (vp_in_nI (by omega) (by omega)) dX4_leaf_92 ?_
            refine topE (z := ((upd (rowN (fun s => F 14 (5 * s + 1) - 48) (F 3) k) k (((F 14) ((5 * k) + 1)) - (48 : Int32))) k)) (congrArg _ (nI_clamp (n := k) (by omega))) ?_
            refine topE (z := (F 14 (5 * k + 1) - 48)) pk_us ?_
            refine lv_aload_n hx hb dX4_leaf_93 rfl (lv_at hl 0 rfl) ?_
            refine va_get (D := D) (ci := 4) (v := .ref (A 14)) (C := RX4) (T := TX4) (N := 29) hx hb hts inlX4 hown hK hP 0 rfl rfl 14 (by decide) (hts _ kw_68) (fun _ h9 => h9) rfl dX4_leaf_94 ?_
            refine lv_iconst (v := (5 : Int32)) hx hb dX4_leaf_97 (by decide) ?_
            refine lv_iload_n hx hb dX4_leaf_98 rfl (lv_at hl 1 rfl) ?_
            refine lv_imul hx hb dX4_leaf_99 ?_
            refine topE (z := (nI (5 * k))) (pk_mul 5 k) ?_
            refine lv_iconst (v := (2 : Int32)) hx hb dX4_leaf_100 (by decide) ?_
            refine lv_iadd hx hb dX4_leaf_101 ?_
            refine topE (z := (nI ((5 * k) + 2))) (nI_add (5 * k) 2) ?_
            refine va_bald (D := D) hx hb hK hP 9 1 rfl rfl (vp_in_nI (by omega) (by omega)) dX4_leaf_102 ?_
            refine topE (z := ((F 14) ((5 * k) + 2))) (congrArg _ (nI_clamp (n := ((5 * k) + 2)) (by omega))) ?_
            refine lv_bipush (v := (48 : Int32)) hx hb dX4_leaf_103 (by decide) ?_
            refine lv_isub hx hb dX4_leaf_105 ?_
            refine rcSi (As := [.int (F 14 (5 * k + 1) - 48), .int (((F 14) ((5 * k) + 2)) - (48 : Int32))]) (rest := [.int (nI k), .ref (A 4)]) hx hb hml hown hts hKK hP (c_X4_longAt l D cI cB cS (F 14 (5 * k + 1) - 48) (((F 14) ((5 * k) + 2)) - (48 : Int32))) (cwS2 2 hts kw_258 kw_6 kw_256 kw_257 rfl rfl (by decide +kernel) ⟨Nat.le_of_ble_eq_true rfl, Nat.le_of_ble_eq_true rfl⟩) rfl hl.1 rfl (Nat.le_of_ble_eq_true rfl) ⟨Nat.zero_le _, Nat.zero_le _⟩ dX4_leaf_106 ?_
            refine va_iast (D := D) hx hb hK hP hD hS 3 0 rfl rfl (vp_in_nI (by omega) (by omega)) dX4_leaf_109 (fun H locs hP hD hS => ?_)
            rw [nI_clamp (n := k) (by omega)] at hP hD
            have hP : va_P D vwCl (wsM A cI cB (upd I 1 (nI ((sz + 1) / 5))) J (va_up (va_up (va_up (va_up F 2 (upd (rowN (fun s => mKind (F 14 (5 * s))) (F 2) k) k (mKind ((F 14) (5 * k))))) 3 (upd (rowN (fun s => F 14 (5 * s + 1) - 48) (F 3) k) k (((F 14) ((5 * k) + 1)) - (48 : Int32)))) 4 (upd (rowN (fun s => mLong (F 14 (5 * s + 1) - 48) (F 14 (5 * s + 2) - 48)) (F 4) k) k (mLong (F 14 (5 * k + 1) - 48) (((F 14) ((5 * k) + 2)) - (48 : Int32))))) 5 (rowN (fun s => F 14 (5 * s + 3) - 48) (F 5) k))) H := hP
            have hD : va_D (FPw (wsM A cI cB I J F)) (wsM A cI cB (upd I 1 (nI ((sz + 1) / 5))) J (va_up (va_up (va_up (va_up F 2 (upd (rowN (fun s => mKind (F 14 (5 * s))) (F 2) k) k (mKind ((F 14) (5 * k))))) 3 (upd (rowN (fun s => F 14 (5 * s + 1) - 48) (F 3) k) k (((F 14) ((5 * k) + 1)) - (48 : Int32)))) 4 (upd (rowN (fun s => mLong (F 14 (5 * s + 1) - 48) (F 14 (5 * s + 2) - 48)) (F 4) k) k (mLong (F 14 (5 * k + 1) - 48) (((F 14) ((5 * k) + 2)) - (48 : Int32))))) 5 (rowN (fun s => F 14 (5 * s + 3) - 48) (F 5) k))) := hD
            refine lv_aload_n hx hb dX4_leaf_110 rfl (lv_at hl 0 rfl) ?_
            refine va_get (D := D) (ci := 4) (v := .ref (A 5)) (C := RX4) (T := TX4) (N := 29) hx hb hts inlX4 hown hK hP 0 rfl rfl 5 (by decide) (hts _ kw_62) (fun _ h9 => h9) rfl dX4_leaf_111 ?_
            refine lv_iload_n hx hb dX4_leaf_114 rfl (lv_at hl 1 rfl) ?_
            refine lv_aload_n hx hb dX4_leaf_115 rfl (lv_at hl 0 rfl) ?_
            refine va_get (D := D) (ci := 4) (v := .ref (A 14)) (C := RX4) (T := TX4) (N := 29) hx hb hts inlX4 hown hK hP 0 rfl rfl 14 (by decide) (hts _ kw_68) (fun _ h9 => h9) rfl dX4_leaf_116 ?_
            refine lv_iconst (v := (5 : Int32)) hx hb dX4_leaf_119 (by decide) ?_
            refine lv_iload_n hx hb dX4_leaf_120 rfl (lv_at hl 1 rfl) ?_
            refine lv_imul hx hb dX4_leaf_121 ?_
            refine topE (z := (nI (5 * k))) (pk_mul 5 k) ?_
            refine lv_iconst (v := (3 : Int32)) hx hb dX4_leaf_122 (by decide) ?_
            refine lv_iadd hx hb dX4_leaf_123 ?_
            refine topE (z := (nI ((5 * k) + 3))) (nI_add (5 * k) 3) ?_
            refine va_bald (D := D) hx hb hK hP 9 1 rfl rfl (vp_in_nI (by omega) (by omega)) dX4_leaf_124 ?_
            refine topE (z := ((F 14) ((5 * k) + 3))) (congrArg _ (nI_clamp (n := ((5 * k) + 3)) (by omega))) ?_
            refine lv_bipush (v := (48 : Int32)) hx hb dX4_leaf_125 (by decide) ?_
            refine lv_isub hx hb dX4_leaf_127 ?_
            refine va_iast (D := D) hx hb hK hP hD hS 4 0 rfl rfl (vp_in_nI (by omega) (by omega)) dX4_leaf_128 (fun H locs hP hD hS => ?_)
            rw [nI_clamp (n := k) (by omega)] at hP hD
            have hP : va_P D vwCl (wsM A cI cB (upd I 1 (nI ((sz + 1) / 5))) J (va_up (va_up (va_up (va_up F 2 (upd (rowN (fun s => mKind (F 14 (5 * s))) (F 2) k) k (mKind ((F 14) (5 * k))))) 3 (upd (rowN (fun s => F 14 (5 * s + 1) - 48) (F 3) k) k (((F 14) ((5 * k) + 1)) - (48 : Int32)))) 4 (upd (rowN (fun s => mLong (F 14 (5 * s + 1) - 48) (F 14 (5 * s + 2) - 48)) (F 4) k) k (mLong (F 14 (5 * k + 1) - 48) (((F 14) ((5 * k) + 2)) - (48 : Int32))))) 5 (upd (rowN (fun s => F 14 (5 * s + 3) - 48) (F 5) k) k (((F 14) ((5 * k) + 3)) - (48 : Int32))))) H := hP
            have hD : va_D (FPw (wsM A cI cB I J F)) (wsM A cI cB (upd I 1 (nI ((sz + 1) / 5))) J (va_up (va_up (va_up (va_up F 2 (upd (rowN (fun s => mKind (F 14 (5 * s))) (F 2) k) k (mKind ((F 14) (5 * k))))) 3 (upd (rowN (fun s => F 14 (5 * s + 1) - 48) (F 3) k) k (((F 14) ((5 * k) + 1)) - (48 : Int32)))) 4 (upd (rowN (fun s => mLong (F 14 (5 * s + 1) - 48) (F 14 (5 * s + 2) - 48)) (F 4) k) k (mLong (F 14 (5 * k + 1) - 48) (((F 14) ((5 * k) + 2)) - (48 : Int32))))) 5 (upd (rowN (fun s => F 14 (5 * s + 3) - 48) (F 5) k) k (((F 14) ((5 * k) + 3)) - (48 : Int32))))) := hD
            refine lv_iinc (v := (nI (k + 1))) (lv' := [(1, .int (nI (k + 1))), (0, .ref (A 0))]) hx hb dX4_leaf_129 hl (k := 1) rfl (nI_add k 1) (by decide) rfl (fun ls hl => ?_)
            refine lv_goto (tgt := 38) hx hb dX4_leaf_132 (by decide) ?_
            have hP9 : va_P D vwCl (wsM A cI cB (upd I 1 (nI ((sz + 1) / 5))) J (va_up (va_up (va_up (va_up F 2 (rowN (fun s => mKind (F 14 (5 * s))) (F 2) (k + 1))) 3 (rowN (fun s => F 14 (5 * s + 1) - 48) (F 3) (k + 1))) 4 (rowN (fun s => mLong (F 14 (5 * s + 1) - 48) (F 14 (5 * s + 2) - 48)) (F 4) (k + 1))) 5 (rowN (fun s => F 14 (5 * s + 3) - 48) (F 5) (k + 1)))) H := by rw [← rowN_upd (i := k), ← rowN_upd (i := k), ← rowN_upd (i := k), ← rowN_upd (i := k)]; exact hP
            exact ih_38 (k + 1) (nI (k + 1)) rfl (by omega) (by omega) H locs hP9 hS ls (lv_sub hl [1, 0] rfl)
      have hP9 : va_P D vwCl (wsM A cI cB (upd I 1 (nI ((sz + 1) / 5))) J (va_up (va_up (va_up (va_up F 2 (rowN (fun s => mKind (F 14 (5 * s))) (F 2) 0)) 3 (rowN (fun s => F 14 (5 * s + 1) - 48) (F 3) 0)) 4 (rowN (fun s => mLong (F 14 (5 * s + 1) - 48) (F 14 (5 * s + 2) - 48)) (F 4) 0)) 5 (rowN (fun s => F 14 (5 * s + 3) - 48) (F 5) 0))) H := by rw [rowN_0, rowN_0, rowN_0, rowN_0]; exact hP
      exact loop_38 (((sz + 1) / 5 - 0) + 1) 0 (0 : Int32) rfl (by omega) (by omega) H locs hP9 hS ls (lv_sub hl [1, 0] rfl)
    · have nc_2 : ¬ (fltN (mGood (F 14)) sz 0) = sz := fun h => c_2 ((nI_eq (a := (fltN (mGood (F 14)) sz 0)) (b := sz) (by omega) (by omega)).mpr h)
      refine lv_bipush (v := (-103 : Int32)) hx hb dX4_leaf_21 (by decide) ?_
      exact retWi hx hb hr hlk hP hS dX4_leaf_23 (by first | exact (if_pos (by grind)).symm | exact (if_neg (by grind)).symm) (by first | exact (if_pos (by grind)).symm | exact (if_neg (by grind)).symm)
set_option maxHeartbeats 1000000 in
set_option maxRecDepth 100000 in
theorem c_X4_digest (l : Launch) (D : va_G) (cI cB cS : ClassId) {A : Nat → Nat} {I : Nat → Int32} {J : Nat → Int64} {F : Nat → Nat → Int32} {n : Nat} (hn : n ≤ 6) (h1 : I 1 = nI n) {fd : Nat} (hfd : fd ≤ 6) (h9 : I 9 = nI fd) {sz : Nat} (hsz : sz ≤ 21) (h13 : I 13 = nI sz) : Met l yX4_digest (Wm yX4_digest cX4_digest 3 (some .long)) ({ frames := 7, cells := 0, slots := 0, locals := 169 }) (va_Pc [.ref (A 0)] (PW D (TYS cI cB cS) (wsM A cI cB I J F))) (QcW D (some (.long (mDigest I F n fd sz))) (wsM A cI cB I J F) (wsM A cI cB I (vp_updL J 28 (mDigest I F n fd sz)) (va_up F 15 (mDScr F (I 6) n n)))) 0 0 (FPw (wsM A cI cB I J F)) := by
  refine metW (by decide) [.ref (A 0)] (Nat.le_of_ble_eq_true rfl) ?_
  intro p e s m args below meth c hx hb hml hr hlk hown hts hKK hP hD hS ls hl
  obtain ⟨hK, hN⟩ := id hKK
  have hl : lv_has ls 3 [(0, .ref (A 0))] := hl
  refine lv_aload_n hx hb dX4_digest_0 rfl (lv_at hl 0 rfl) ?_
  refine lv_ldc2 (v := (1049 : Int64)) hx hb hown (hts _ kw_645) dX4_digest_1 ?_
  refine va_put (D := D) (ci := 4) (v := .long (1049 : Int64)) (ty := tyX4 28) (C := RX4) (T := TX4) (N := 29) hx hb hts inlX4 tyX4 tyX4_ok nmX4 hown hK hP hD hS 0 rfl rfl 28 (by decide) (hts _ kw_646) (fun _ h9 => h9) rfl (tyX4_ok 28 (by decide)) rfl rfl (Nat.le_of_ble_eq_true rfl) dX4_digest_4 (fun H locs hP hD hS => ?_)
  have hP : va_P D vwCl (wsM A cI cB I (vp_updL J 28 (1049 : Int64)) F) H := hP
  have hD : va_D (FPw (wsM A cI cB I J F)) (wsM A cI cB I (vp_updL J 28 (1049 : Int64)) F) := hD
  refine lv_iconst (v := (0 : Int32)) hx hb dX4_digest_7 (by decide) ?_
  refine lv_istore_n (lv' := [(1, .int (0 : Int32)), (0, .ref (A 0))]) hx hb dX4_digest_8 rfl hl (by decide) rfl (fun ls hl => ?_)
  have loop_9 : ∀ (z : Nat) (k : Nat) (x1 : Int32), x1 = nI k → (k ≤ n) → n - k < z → ∀ (H : Heap) (locs : List Loc), va_P D vwCl (wsM A cI cB I (vp_updL J 28 (mDigS F (I 6) n fd k)) (va_up F 15 (mDScr F (I 6) n k))) H → va_S (FPw (wsM A cI cB I J F)) s.heap H locs → ∀ (ls : Array Slot), lv_has ls 3 [(0, .ref (A 0)), (1, .int x1)] → W p l e ({ frames := 7, cells := 0, slots := 0, locals := 169 } : Room) s m args below meth c H locs 0 0 (MQ below (QcW D (some (.long (mDigest I F n fd sz))) (wsM A cI cB I J F) (wsM A cI cB I (vp_updL J 28 (mDigest I F n fd sz)) (va_up F 15 (mDScr F (I 6) n n)))) args s 0 0 (FPw (wsM A cI cB I J F))) (F0 m 9 ls []) := by
    intro z
    induction z with
    | zero =>
      intro k x1 ex1 hk hz
      exact absurd hz (Nat.not_lt_zero _)
    | succ z ih_9 =>
      intro k x1 ex1 hk hz H locs hP hS ls hl
      subst ex1
      have hD := va_D_addr (ws := (wsM A cI cB I (vp_updL J 28 (1049 : Int64)) F)) (ws' := (wsM A cI cB I (vp_updL J 28 (mDigS F (I 6) n fd k)) (va_up F 15 (mDScr F (I 6) n k)))) (wsM_fst.trans wsM_fst.symm) hD
      refine lv_iload_n hx hb dX4_digest_9 rfl (lv_at hl 1 rfl) ?_
      refine lv_aload_n hx hb dX4_digest_10 rfl (lv_at hl 0 rfl) ?_
      refine va_get (D := D) (ci := 4) (v := .int (I 1)) (C := RX4) (T := TX4) (N := 29) hx hb hts inlX4 hown hK hP 0 rfl rfl 1 (by decide) (hts _ kw_251) (fun _ h9 => h9) rfl dX4_digest_11 ?_
      refine topE (z := (nI n)) h1 ?_
      refine lv_icmp_ge (tgt := 83) hx hb dX4_digest_14 (by decide) (fun c_1 => ?_) (fun c_1 => ?_)
      · have nc_1 : n ≤ k := (nI_leI (a := n) (b := k) (by omega) (by omega)).mp c_1
        refine lv_aload_n hx hb dX4_digest_83 rfl (lv_at hl 0 rfl) ?_
        refine va_get (D := D) (ci := 4) (v := .int (I 1)) (C := RX4) (T := TX4) (N := 29) hx hb hts inlX4 hown hK hP 0 rfl rfl 1 (by decide) (hts _ kw_251) (fun _ h9 => h9) rfl dX4_digest_84 ?_
        refine topE (z := (nI n)) h1 ?_
        refine lv_if_le (tgt := 164) hx hb dX4_digest_87 (by decide) (fun c_2 => ?_) (fun c_2 => ?_)
        · have nc_2 : n ≤ 0 := (nI_leI (a := n) (b := 0) (by omega) (by omega)).mp c_2
          refine lv_iconst (v := (0 : Int32)) hx hb dX4_digest_164 (by decide) ?_
          refine lv_istore_n (lv' := [(1, .int (0 : Int32)), (0, .ref (A 0))]) hx hb dX4_digest_165 rfl hl (by decide) rfl (fun ls hl => ?_)
          have loop_166 : ∀ (z : Nat) (j : Nat) (z1 : Int32), z1 = nI j → (j ≤ sz) → sz - j < z → ∀ (H : Heap) (locs : List Loc), va_P D vwCl (wsM A cI cB I (vp_updL J 28 (mixN (F 14) (if 0 < n then mLand F (I 6) n (mDigS F (I 6) n fd n) else mDigS F (I 6) n fd n) j)) (va_up F 15 (mDScr F (I 6) n n))) H → va_S (FPw (wsM A cI cB I J F)) s.heap H locs → ∀ (ls : Array Slot), lv_has ls 3 [(0, .ref (A 0)), (1, .int z1)] → W p l e ({ frames := 7, cells := 0, slots := 0, locals := 169 } : Room) s m args below meth c H locs 0 0 (MQ below (QcW D (some (.long (mDigest I F n fd sz))) (wsM A cI cB I J F) (wsM A cI cB I (vp_updL J 28 (mDigest I F n fd sz)) (va_up F 15 (mDScr F (I 6) n n)))) args s 0 0 (FPw (wsM A cI cB I J F))) (F0 m 166 ls []) := by
            intro z
            induction z with
            | zero =>
              intro j z1 ez1 hj hz
              exact absurd hz (Nat.not_lt_zero _)
            | succ z ih_166 =>
              intro j z1 ez1 hj hz H locs hP hS ls hl
              subst ez1
              have hD := va_D_addr (ws := (wsM A cI cB I (vp_updL J 28 (mDigS F (I 6) n fd k)) (va_up F 15 (mDScr F (I 6) n k)))) (ws' := (wsM A cI cB I (vp_updL J 28 (mixN (F 14) (if 0 < n then mLand F (I 6) n (mDigS F (I 6) n fd n) else mDigS F (I 6) n fd n) j)) (va_up F 15 (mDScr F (I 6) n n)))) (wsM_fst.trans wsM_fst.symm) hD
              refine lv_iload_n hx hb dX4_digest_166 rfl (lv_at hl 1 rfl) ?_
              refine lv_aload_n hx hb dX4_digest_167 rfl (lv_at hl 0 rfl) ?_
              refine va_get (D := D) (ci := 4) (v := .int (I 13)) (C := RX4) (T := TX4) (N := 29) hx hb hts inlX4 hown hK hP 0 rfl rfl 13 (by decide) (hts _ kw_87) (fun _ h9 => h9) rfl dX4_digest_168 ?_
              refine topE (z := (nI sz)) h13 ?_
              refine lv_icmp_ge (tgt := 191) hx hb dX4_digest_171 (by decide) (fun c_3 => ?_) (fun c_3 => ?_)
              · have nc_3 : sz ≤ j := (nI_leI (a := sz) (b := j) (by omega) (by omega)).mp c_3
                refine lv_iconst (v := (0 : Int32)) hx hb dX4_digest_191 (by decide) ?_
                refine lv_istore_n (lv' := [(1, .int (0 : Int32)), (0, .ref (A 0))]) hx hb dX4_digest_192 rfl hl (by decide) rfl (fun ls hl => ?_)
                have loop_193 : ∀ (z : Nat) (v : Nat) (u1 : Int32), u1 = nI v → (v ≤ 8) → 8 - v < z → ∀ (H : Heap) (locs : List Loc), va_P D vwCl (wsM A cI cB I (vp_updL J 28 (mixN (fun w => mCount I (F 7) n (nI w)) (mixN (F 14) (if 0 < n then mLand F (I 6) n (mDigS F (I 6) n fd n) else mDigS F (I 6) n fd n) sz) v)) (va_up F 15 (mDScr F (I 6) n n))) H → va_S (FPw (wsM A cI cB I J F)) s.heap H locs → ∀ (ls : Array Slot), lv_has ls 3 [(0, .ref (A 0)), (1, .int u1)] → W p l e ({ frames := 7, cells := 0, slots := 0, locals := 169 } : Room) s m args below meth c H locs 0 0 (MQ below (QcW D (some (.long (mDigest I F n fd sz))) (wsM A cI cB I J F) (wsM A cI cB I (vp_updL J 28 (mDigest I F n fd sz)) (va_up F 15 (mDScr F (I 6) n n)))) args s 0 0 (FPw (wsM A cI cB I J F))) (F0 m 193 ls []) := by
                  intro z
                  induction z with
                  | zero =>
                    intro v u1 eu1 hv hz
                    exact absurd hz (Nat.not_lt_zero _)
                  | succ z ih_193 =>
                    intro v u1 eu1 hv hz H locs hP hS ls hl
                    subst eu1
                    have hD := va_D_addr (ws := (wsM A cI cB I (vp_updL J 28 (mixN (F 14) (if 0 < n then mLand F (I 6) n (mDigS F (I 6) n fd n) else mDigS F (I 6) n fd n) j)) (va_up F 15 (mDScr F (I 6) n n)))) (ws' := (wsM A cI cB I (vp_updL J 28 (mixN (fun w => mCount I (F 7) n (nI w)) (mixN (F 14) (if 0 < n then mLand F (I 6) n (mDigS F (I 6) n fd n) else mDigS F (I 6) n fd n) sz) v)) (va_up F 15 (mDScr F (I 6) n n)))) (wsM_fst.trans wsM_fst.symm) hD
                    refine lv_iload_n hx hb dX4_digest_193 rfl (lv_at hl 1 rfl) ?_
                    refine lv_bipush (v := (8 : Int32)) hx hb dX4_digest_194 (by decide) ?_
                    refine lv_icmp_ge (tgt := 215) hx hb dX4_digest_196 (by decide) (fun c_4 => ?_) (fun c_4 => ?_)
                    · have nc_4 : 8 ≤ v := (nI_leI (a := 8) (b := v) (by omega) (by omega)).mp c_4
                      refine lv_aload_n hx hb dX4_digest_215 rfl (lv_at hl 0 rfl) ?_
                      refine va_get (D := D) (ci := 4) (v := .long (mixN (fun w => mCount I (F 7) n (nI w)) (mixN (F 14) (if 0 < n then mLand F (I 6) n (mDigS F (I 6) n fd n) else mDigS F (I 6) n fd n) sz) v)) (C := RX4) (T := TX4) (N := 29) hx hb hts inlX4 hown hK hP 0 rfl rfl 28 (by decide) (hts _ kw_646) (fun _ h9 => h9) rfl dX4_digest_216 ?_
                      exact retWl hx hb hr hlk hP hS dX4_digest_219 (by have hvn : v = 8 := (by omega); subst hvn; rfl) (by have hvn : v = 8 := (by omega); subst hvn; rfl)
                    · have nc_4 : ¬ 8 ≤ v := fun h => c_4 ((nI_leI (a := 8) (b := v) (by omega) (by omega)).mpr h)
                      refine lv_aload_n hx hb dX4_digest_199 rfl (lv_at hl 0 rfl) ?_
                      refine lv_aload_n hx hb dX4_digest_200 rfl (lv_at hl 0 rfl) ?_
                      refine lv_iload_n hx hb dX4_digest_201 rfl (lv_at hl 1 rfl) ?_
                      refine rcVi (As := [.int (nI v)]) (rest := [.ref (A 0)]) hx hb hml hown hts hKK hP (c_X4_howMany l D cI cB cS hn h1 (nI v)) (cwV2 1 hts kw_619 kw_6 kw_616 kw_617 kw_618 rfl rfl (by decide +kernel) ⟨Nat.le_of_ble_eq_true rfl, Nat.le_of_ble_eq_true rfl⟩) 0 rfl rfl rfl rfl hl.1 rfl (Nat.le_of_ble_eq_true rfl) ⟨Nat.zero_le _, Nat.zero_le _⟩ dX4_digest_202 ?_
                      refine topE (z := (mCount I (F 7) n (nI v))) rfl ?_
                      refine lv_i2l (v := ((mCount I (F 7) n (nI v)).toInt64)) hx hb dX4_digest_205 rfl ?_
                      refine wcVv (As := [.long ((mCount I (F 7) n (nI v)).toInt64)]) (rest := []) hx hb hml hown hts hKK hP hD hS (c_X4_mix l D cI cB cS ((mCount I (F 7) n (nI v)).toInt64)) (cwV2 1 hts kw_650 kw_6 kw_647 kw_648 kw_649 rfl rfl (by decide +kernel) ⟨Nat.le_of_ble_eq_true rfl, Nat.le_of_ble_eq_true rfl⟩) 0 rfl rfl rfl rfl hl.1 rfl (Nat.le_of_ble_eq_true rfl) ⟨Nat.zero_le _, Nat.zero_le _⟩ dX4_digest_206 (fun H locs hP hS => ?_)
                      have hP : va_P D vwCl (wsM A cI cB I (vp_updL J 28 (mx (mixN (fun w => mCount I (F 7) n (nI w)) (mixN (F 14) (if 0 < n then mLand F (I 6) n (mDigS F (I 6) n fd n) else mDigS F (I 6) n fd n) sz) v) (mCount I (F 7) n (nI v)))) (va_up F 15 (mDScr F (I 6) n n))) H := hP
                      have hD : va_D (FPw (wsM A cI cB I J F)) (wsM A cI cB I (vp_updL J 28 (mx (mixN (fun w => mCount I (F 7) n (nI w)) (mixN (F 14) (if 0 < n then mLand F (I 6) n (mDigS F (I 6) n fd n) else mDigS F (I 6) n fd n) sz) v) (mCount I (F 7) n (nI v)))) (va_up F 15 (mDScr F (I 6) n n))) := va_D_addr (ws := (wsM A cI cB I (vp_updL J 28 (mixN (fun w => mCount I (F 7) n (nI w)) (mixN (F 14) (if 0 < n then mLand F (I 6) n (mDigS F (I 6) n fd n) else mDigS F (I 6) n fd n) sz) v)) (va_up F 15 (mDScr F (I 6) n n)))) (wsM_fst.trans wsM_fst.symm) hD
                      refine lv_iinc (v := (nI (v + 1))) (lv' := [(1, .int (nI (v + 1))), (0, .ref (A 0))]) hx hb dX4_digest_209 hl (k := 1) rfl (nI_add v 1) (by decide) rfl (fun ls hl => ?_)
                      refine lv_goto (tgt := 193) hx hb dX4_digest_212 (by decide) ?_
                      have hP9 : va_P D vwCl (wsM A cI cB I (vp_updL J 28 (mixN (fun w => mCount I (F 7) n (nI w)) (mixN (F 14) (if 0 < n then mLand F (I 6) n (mDigS F (I 6) n fd n) else mDigS F (I 6) n fd n) sz) (v + 1))) (va_up F 15 (mDScr F (I 6) n n))) H := by exact hP
                      exact ih_193 (v + 1) (nI (v + 1)) rfl (by omega) (by omega) H locs hP9 hS ls (lv_sub hl [1, 0] rfl)
                have hP9 : va_P D vwCl (wsM A cI cB I (vp_updL J 28 (mixN (fun w => mCount I (F 7) n (nI w)) (mixN (F 14) (if 0 < n then mLand F (I 6) n (mDigS F (I 6) n fd n) else mDigS F (I 6) n fd n) sz) 0)) (va_up F 15 (mDScr F (I 6) n n))) H := by have hjn : j = sz := (by omega); subst hjn; exact hP
                exact loop_193 ((8 - 0) + 1) 0 (0 : Int32) rfl (by omega) (by omega) H locs hP9 hS ls (lv_sub hl [1, 0] rfl)
              · have nc_3 : ¬ sz ≤ j := fun h => c_3 ((nI_leI (a := sz) (b := j) (by omega) (by omega)).mpr h)
                refine lv_aload_n hx hb dX4_digest_174 rfl (lv_at hl 0 rfl) ?_
                refine lv_aload_n hx hb dX4_digest_175 rfl (lv_at hl 0 rfl) ?_
                refine va_get (D := D) (ci := 4) (v := .ref (A 14)) (C := RX4) (T := TX4) (N := 29) hx hb hts inlX4 hown hK hP 0 rfl rfl 14 (by decide) (hts _ kw_68) (fun _ h9 => h9) rfl dX4_digest_176 ?_
                refine lv_iload_n hx hb dX4_digest_179 rfl (lv_at hl 1 rfl) ?_
                refine va_bald (D := D) hx hb hK hP 9 1 rfl rfl (vp_in_nI (by omega) (by omega)) dX4_digest_180 ?_
                refine topE (z := ((F 14) j)) (congrArg _ (nI_clamp (n := j) (by omega))) ?_
                refine lv_i2l (v := (((F 14) j).toInt64)) hx hb dX4_digest_181 rfl ?_
                refine wcVv (As := [.long (((F 14) j).toInt64)]) (rest := []) hx hb hml hown hts hKK hP hD hS (c_X4_mix l D cI cB cS (((F 14) j).toInt64)) (cwV2 1 hts kw_650 kw_6 kw_647 kw_648 kw_649 rfl rfl (by decide +kernel) ⟨Nat.le_of_ble_eq_true rfl, Nat.le_of_ble_eq_true rfl⟩) 0 rfl rfl rfl rfl hl.1 rfl (Nat.le_of_ble_eq_true rfl) ⟨Nat.zero_le _, Nat.zero_le _⟩ dX4_digest_182 (fun H locs hP hS => ?_)
                have hP : va_P D vwCl (wsM A cI cB I (vp_updL J 28 (mx (mixN (F 14) (if 0 < n then mLand F (I 6) n (mDigS F (I 6) n fd n) else mDigS F (I 6) n fd n) j) ((F 14) j))) (va_up F 15 (mDScr F (I 6) n n))) H := hP
                have hD : va_D (FPw (wsM A cI cB I J F)) (wsM A cI cB I (vp_updL J 28 (mx (mixN (F 14) (if 0 < n then mLand F (I 6) n (mDigS F (I 6) n fd n) else mDigS F (I 6) n fd n) j) ((F 14) j))) (va_up F 15 (mDScr F (I 6) n n))) := va_D_addr (ws := (wsM A cI cB I (vp_updL J 28 (mixN (F 14) (if 0 < n then mLand F (I 6) n (mDigS F (I 6) n fd n) else mDigS F (I 6) n fd n) j)) (va_up F 15 (mDScr F (I 6) n n)))) (wsM_fst.trans wsM_fst.symm) hD
                refine lv_iinc (v := (nI (j + 1))) (lv' := [(1, .int (nI (j + 1))), (0, .ref (A 0))]) hx hb dX4_digest_185 hl (k := 1) rfl (nI_add j 1) (by decide) rfl (fun ls hl => ?_)
                refine lv_goto (tgt := 166) hx hb dX4_digest_188 (by decide) ?_
                have hP9 : va_P D vwCl (wsM A cI cB I (vp_updL J 28 (mixN (F 14) (if 0 < n then mLand F (I 6) n (mDigS F (I 6) n fd n) else mDigS F (I 6) n fd n) (j + 1))) (va_up F 15 (mDScr F (I 6) n n))) H := by exact hP
                exact ih_166 (j + 1) (nI (j + 1)) rfl (by omega) (by omega) H locs hP9 hS ls (lv_sub hl [1, 0] rfl)
          have hP9 : va_P D vwCl (wsM A cI cB I (vp_updL J 28 (mixN (F 14) (if 0 < n then mLand F (I 6) n (mDigS F (I 6) n fd n) else mDigS F (I 6) n fd n) 0)) (va_up F 15 (mDScr F (I 6) n n))) H := by have hkn : k = n := (by omega); subst hkn; rw [if_neg (by omega)]; exact hP
          exact loop_166 ((sz - 0) + 1) 0 (0 : Int32) rfl (by omega) (by omega) H locs hP9 hS ls (lv_sub hl [1, 0] rfl)
        · have nc_2 : ¬ n ≤ 0 := fun h => c_2 ((nI_leI (a := n) (b := 0) (by omega) (by omega)).mpr h)
          refine lv_iconst (v := (0 : Int32)) hx hb dX4_digest_90 (by decide) ?_
          refine lv_istore_n (lv' := [(1, .int (0 : Int32)), (0, .ref (A 0))]) hx hb dX4_digest_91 rfl hl (by decide) rfl (fun ls hl => ?_)
          have loop_92 : ∀ (z : Nat) (cl : Nat) (y1 : Int32), y1 = nI cl → (cl ≤ 10) → 10 - cl < z → ∀ (H : Heap) (locs : List Loc), va_P D vwCl (wsM A cI cB I (vp_updL J 28 (mix2 (F 7) (fun c => mTo F (I 6) n (nI c) 4) (mDigS F (I 6) n fd n) cl)) (va_up F 15 (mDScr F (I 6) n n))) H → va_S (FPw (wsM A cI cB I J F)) s.heap H locs → ∀ (ls : Array Slot), lv_has ls 3 [(0, .ref (A 0)), (1, .int y1)] → W p l e ({ frames := 7, cells := 0, slots := 0, locals := 169 } : Room) s m args below meth c H locs 0 0 (MQ below (QcW D (some (.long (mDigest I F n fd sz))) (wsM A cI cB I J F) (wsM A cI cB I (vp_updL J 28 (mDigest I F n fd sz)) (va_up F 15 (mDScr F (I 6) n n)))) args s 0 0 (FPw (wsM A cI cB I J F))) (F0 m 92 ls []) := by
            intro z
            induction z with
            | zero =>
              intro cl y1 ey1 hc hz
              exact absurd hz (Nat.not_lt_zero _)
            | succ z ih_92 =>
              intro cl y1 ey1 hc hz H locs hP hS ls hl
              subst ey1
              have hD := va_D_addr (ws := (wsM A cI cB I (vp_updL J 28 (mDigS F (I 6) n fd k)) (va_up F 15 (mDScr F (I 6) n k)))) (ws' := (wsM A cI cB I (vp_updL J 28 (mix2 (F 7) (fun c => mTo F (I 6) n (nI c) 4) (mDigS F (I 6) n fd n) cl)) (va_up F 15 (mDScr F (I 6) n n)))) (wsM_fst.trans wsM_fst.symm) hD
              refine lv_iload_n hx hb dX4_digest_92 rfl (lv_at hl 1 rfl) ?_
              refine lv_bipush (v := (10 : Int32)) hx hb dX4_digest_93 (by decide) ?_
              refine lv_icmp_ge (tgt := 126) hx hb dX4_digest_95 (by decide) (fun c_5 => ?_) (fun c_5 => ?_)
              · have nc_5 : 10 ≤ cl := (nI_leI (a := 10) (b := cl) (by omega) (by omega)).mp c_5
                have hc10 : cl = 10 := by omega
                subst hc10
                refine lv_aload_n hx hb dX4_digest_126 rfl (lv_at hl 0 rfl) ?_
                refine lv_aload_n hx hb dX4_digest_127 rfl (lv_at hl 0 rfl) ?_
                refine lv_iconst (v := (5 : Int32)) hx hb dX4_digest_128 (by decide) ?_
                refine rcVi (As := [.int (5 : Int32)]) (rest := [.ref (A 0)]) hx hb hml hown hts hKK hP (c_X4_hillsNow l D cI cB cS hn h1 (5 : Int32)) (cwV2 1 hts kw_440 kw_6 kw_437 kw_438 kw_439 rfl rfl (by decide +kernel) ⟨Nat.le_of_ble_eq_true rfl, Nat.le_of_ble_eq_true rfl⟩) 0 rfl rfl rfl rfl hl.1 rfl (Nat.le_of_ble_eq_true rfl) ⟨Nat.zero_le _, Nat.zero_le _⟩ dX4_digest_129 ?_
                refine topE (z := (mHillN (F 7) (5 : Int32) 10)) rfl ?_
                refine lv_i2l (v := ((mHillN (F 7) (5 : Int32) 10).toInt64)) hx hb dX4_digest_132 rfl ?_
                refine wcVv (As := [.long ((mHillN (F 7) (5 : Int32) 10).toInt64)]) (rest := []) hx hb hml hown hts hKK hP hD hS (c_X4_mix l D cI cB cS ((mHillN (F 7) (5 : Int32) 10).toInt64)) (cwV2 1 hts kw_650 kw_6 kw_647 kw_648 kw_649 rfl rfl (by decide +kernel) ⟨Nat.le_of_ble_eq_true rfl, Nat.le_of_ble_eq_true rfl⟩) 0 rfl rfl rfl rfl hl.1 rfl (Nat.le_of_ble_eq_true rfl) ⟨Nat.zero_le _, Nat.zero_le _⟩ dX4_digest_133 (fun H locs hP hS => ?_)
                have hP : va_P D vwCl (wsM A cI cB I (vp_updL J 28 (mx (mix2 (F 7) (fun c => mTo F (I 6) n (nI c) 4) (mDigS F (I 6) n fd n) 10) (mHillN (F 7) (5 : Int32) 10))) (va_up F 15 (mDScr F (I 6) n n))) H := hP
                have hD : va_D (FPw (wsM A cI cB I J F)) (wsM A cI cB I (vp_updL J 28 (mx (mix2 (F 7) (fun c => mTo F (I 6) n (nI c) 4) (mDigS F (I 6) n fd n) 10) (mHillN (F 7) (5 : Int32) 10))) (va_up F 15 (mDScr F (I 6) n n))) := va_D_addr (ws := (wsM A cI cB I (vp_updL J 28 (mix2 (F 7) (fun c => mTo F (I 6) n (nI c) 4) (mDigS F (I 6) n fd n) 10)) (va_up F 15 (mDScr F (I 6) n n)))) (wsM_fst.trans wsM_fst.symm) hD
                refine lv_aload_n hx hb dX4_digest_136 rfl (lv_at hl 0 rfl) ?_
                refine lv_aload_n hx hb dX4_digest_137 rfl (lv_at hl 0 rfl) ?_
                refine lv_iconst (v := (4 : Int32)) hx hb dX4_digest_138 (by decide) ?_
                refine lv_sipush (v := (1023 : Int32)) hx hb dX4_digest_139 (by decide) ?_
                refine lv_iconst (v := (0 : Int32)) hx hb dX4_digest_142 (by decide) ?_
                refine wcVi (As := [.int (4 : Int32), .int (1023 : Int32), .int (0 : Int32)]) (rest := [.ref (A 0)]) hx hb hml hown hts hKK hP hD hS (c_X4_sandNow l D cI cB cS hn h1 (4 : Int32) (1023 : Int32) (0 : Int32)) (cwV2 3 hts kw_479 kw_6 kw_476 kw_477 kw_478 rfl rfl (by decide +kernel) ⟨Nat.le_of_ble_eq_true rfl, Nat.le_of_ble_eq_true rfl⟩) 0 rfl rfl rfl rfl hl.1 rfl (Nat.le_of_ble_eq_true rfl) ⟨Nat.zero_le _, Nat.zero_le _⟩ dX4_digest_143 (fun H locs hP hS => ?_)
                have hP : va_P D vwCl (wsM A cI cB I (vp_updL J 28 (mx (mix2 (F 7) (fun c => mTo F (I 6) n (nI c) 4) (mDigS F (I 6) n fd n) 10) (mHillN (F 7) (5 : Int32) 10))) (va_up F 15 (mDScr F (I 6) n n))) H := hP
                have hD : va_D (FPw (wsM A cI cB I J F)) (wsM A cI cB I (vp_updL J 28 (mx (mix2 (F 7) (fun c => mTo F (I 6) n (nI c) 4) (mDigS F (I 6) n fd n) 10) (mHillN (F 7) (5 : Int32) 10))) (va_up F 15 (mDScr F (I 6) n n))) := va_D_addr (ws := (wsM A cI cB I (vp_updL J 28 (mx (mix2 (F 7) (fun c => mTo F (I 6) n (nI c) 4) (mDigS F (I 6) n fd n) 10) (mHillN (F 7) (5 : Int32) 10))) (va_up F 15 (mDScr F (I 6) n n)))) (wsM_fst.trans wsM_fst.symm) hD
                refine topE (z := (mSand F (I 6) n (4 : Int32) (1023 : Int32) (0 : Int32))) mSand_15 ?_
                refine lv_i2l (v := ((mSand F (I 6) n (4 : Int32) (1023 : Int32) (0 : Int32)).toInt64)) hx hb dX4_digest_146 rfl ?_
                refine wcVv (As := [.long ((mSand F (I 6) n (4 : Int32) (1023 : Int32) (0 : Int32)).toInt64)]) (rest := []) hx hb hml hown hts hKK hP hD hS (c_X4_mix l D cI cB cS ((mSand F (I 6) n (4 : Int32) (1023 : Int32) (0 : Int32)).toInt64)) (cwV2 1 hts kw_650 kw_6 kw_647 kw_648 kw_649 rfl rfl (by decide +kernel) ⟨Nat.le_of_ble_eq_true rfl, Nat.le_of_ble_eq_true rfl⟩) 0 rfl rfl rfl rfl hl.1 rfl (Nat.le_of_ble_eq_true rfl) ⟨Nat.zero_le _, Nat.zero_le _⟩ dX4_digest_147 (fun H locs hP hS => ?_)
                have hP : va_P D vwCl (wsM A cI cB I (vp_updL J 28 (mx (mx (mix2 (F 7) (fun c => mTo F (I 6) n (nI c) 4) (mDigS F (I 6) n fd n) 10) (mHillN (F 7) (5 : Int32) 10)) (mSand F (I 6) n (4 : Int32) (1023 : Int32) (0 : Int32)))) (va_up F 15 (mDScr F (I 6) n n))) H := hP
                have hD : va_D (FPw (wsM A cI cB I J F)) (wsM A cI cB I (vp_updL J 28 (mx (mx (mix2 (F 7) (fun c => mTo F (I 6) n (nI c) 4) (mDigS F (I 6) n fd n) 10) (mHillN (F 7) (5 : Int32) 10)) (mSand F (I 6) n (4 : Int32) (1023 : Int32) (0 : Int32)))) (va_up F 15 (mDScr F (I 6) n n))) := va_D_addr (ws := (wsM A cI cB I (vp_updL J 28 (mx (mix2 (F 7) (fun c => mTo F (I 6) n (nI c) 4) (mDigS F (I 6) n fd n) 10) (mHillN (F 7) (5 : Int32) 10))) (va_up F 15 (mDScr F (I 6) n n)))) (wsM_fst.trans wsM_fst.symm) hD
                refine lv_aload_n hx hb dX4_digest_150 rfl (lv_at hl 0 rfl) ?_
                refine lv_aload_n hx hb dX4_digest_151 rfl (lv_at hl 0 rfl) ?_
                refine lv_iconst (v := (4 : Int32)) hx hb dX4_digest_152 (by decide) ?_
                refine lv_sipush (v := (1023 : Int32)) hx hb dX4_digest_153 (by decide) ?_
                refine lv_iconst (v := (1 : Int32)) hx hb dX4_digest_156 (by decide) ?_
                refine wcVi (As := [.int (4 : Int32), .int (1023 : Int32), .int (1 : Int32)]) (rest := [.ref (A 0)]) hx hb hml hown hts hKK hP hD hS (c_X4_sandNow l D cI cB cS hn h1 (4 : Int32) (1023 : Int32) (1 : Int32)) (cwV2 3 hts kw_479 kw_6 kw_476 kw_477 kw_478 rfl rfl (by decide +kernel) ⟨Nat.le_of_ble_eq_true rfl, Nat.le_of_ble_eq_true rfl⟩) 0 rfl rfl rfl rfl hl.1 rfl (Nat.le_of_ble_eq_true rfl) ⟨Nat.zero_le _, Nat.zero_le _⟩ dX4_digest_157 (fun H locs hP hS => ?_)
                have hP : va_P D vwCl (wsM A cI cB I (vp_updL J 28 (mx (mx (mix2 (F 7) (fun c => mTo F (I 6) n (nI c) 4) (mDigS F (I 6) n fd n) 10) (mHillN (F 7) (5 : Int32) 10)) (mSand F (I 6) n (4 : Int32) (1023 : Int32) (0 : Int32)))) (va_up F 15 (mDScr F (I 6) n n))) H := hP
                have hD : va_D (FPw (wsM A cI cB I J F)) (wsM A cI cB I (vp_updL J 28 (mx (mx (mix2 (F 7) (fun c => mTo F (I 6) n (nI c) 4) (mDigS F (I 6) n fd n) 10) (mHillN (F 7) (5 : Int32) 10)) (mSand F (I 6) n (4 : Int32) (1023 : Int32) (0 : Int32)))) (va_up F 15 (mDScr F (I 6) n n))) := va_D_addr (ws := (wsM A cI cB I (vp_updL J 28 (mx (mx (mix2 (F 7) (fun c => mTo F (I 6) n (nI c) 4) (mDigS F (I 6) n fd n) 10) (mHillN (F 7) (5 : Int32) 10)) (mSand F (I 6) n (4 : Int32) (1023 : Int32) (0 : Int32)))) (va_up F 15 (mDScr F (I 6) n n)))) (wsM_fst.trans wsM_fst.symm) hD
                refine topE (z := (mSand F (I 6) n (4 : Int32) (1023 : Int32) (1 : Int32))) mSand_15 ?_
                refine lv_i2l (v := ((mSand F (I 6) n (4 : Int32) (1023 : Int32) (1 : Int32)).toInt64)) hx hb dX4_digest_160 rfl ?_
                refine wcVv (As := [.long ((mSand F (I 6) n (4 : Int32) (1023 : Int32) (1 : Int32)).toInt64)]) (rest := []) hx hb hml hown hts hKK hP hD hS (c_X4_mix l D cI cB cS ((mSand F (I 6) n (4 : Int32) (1023 : Int32) (1 : Int32)).toInt64)) (cwV2 1 hts kw_650 kw_6 kw_647 kw_648 kw_649 rfl rfl (by decide +kernel) ⟨Nat.le_of_ble_eq_true rfl, Nat.le_of_ble_eq_true rfl⟩) 0 rfl rfl rfl rfl hl.1 rfl (Nat.le_of_ble_eq_true rfl) ⟨Nat.zero_le _, Nat.zero_le _⟩ dX4_digest_161 (fun H locs hP hS => ?_)
                have hP : va_P D vwCl (wsM A cI cB I (vp_updL J 28 (mx (mx (mx (mix2 (F 7) (fun c => mTo F (I 6) n (nI c) 4) (mDigS F (I 6) n fd n) 10) (mHillN (F 7) (5 : Int32) 10)) (mSand F (I 6) n (4 : Int32) (1023 : Int32) (0 : Int32))) (mSand F (I 6) n (4 : Int32) (1023 : Int32) (1 : Int32)))) (va_up F 15 (mDScr F (I 6) n n))) H := hP
                have hD : va_D (FPw (wsM A cI cB I J F)) (wsM A cI cB I (vp_updL J 28 (mx (mx (mx (mix2 (F 7) (fun c => mTo F (I 6) n (nI c) 4) (mDigS F (I 6) n fd n) 10) (mHillN (F 7) (5 : Int32) 10)) (mSand F (I 6) n (4 : Int32) (1023 : Int32) (0 : Int32))) (mSand F (I 6) n (4 : Int32) (1023 : Int32) (1 : Int32)))) (va_up F 15 (mDScr F (I 6) n n))) := va_D_addr (ws := (wsM A cI cB I (vp_updL J 28 (mx (mx (mix2 (F 7) (fun c => mTo F (I 6) n (nI c) 4) (mDigS F (I 6) n fd n) 10) (mHillN (F 7) (5 : Int32) 10)) (mSand F (I 6) n (4 : Int32) (1023 : Int32) (0 : Int32)))) (va_up F 15 (mDScr F (I 6) n n)))) (wsM_fst.trans wsM_fst.symm) hD
                refine lv_iconst (v := (0 : Int32)) hx hb dX4_digest_164 (by decide) ?_
                refine lv_istore_n (lv' := [(1, .int (0 : Int32)), (0, .ref (A 0))]) hx hb dX4_digest_165 rfl hl (by decide) rfl (fun ls hl => ?_)
                have loop_166 : ∀ (z : Nat) (j : Nat) (z1 : Int32), z1 = nI j → (j ≤ sz) → sz - j < z → ∀ (H : Heap) (locs : List Loc), va_P D vwCl (wsM A cI cB I (vp_updL J 28 (mixN (F 14) (if 0 < n then mLand F (I 6) n (mDigS F (I 6) n fd n) else mDigS F (I 6) n fd n) j)) (va_up F 15 (mDScr F (I 6) n n))) H → va_S (FPw (wsM A cI cB I J F)) s.heap H locs → ∀ (ls : Array Slot), lv_has ls 3 [(0, .ref (A 0)), (1, .int z1)] → W p l e ({ frames := 7, cells := 0, slots := 0, locals := 169 } : Room) s m args below meth c H locs 0 0 (MQ below (QcW D (some (.long (mDigest I F n fd sz))) (wsM A cI cB I J F) (wsM A cI cB I (vp_updL J 28 (mDigest I F n fd sz)) (va_up F 15 (mDScr F (I 6) n n)))) args s 0 0 (FPw (wsM A cI cB I J F))) (F0 m 166 ls []) := by
                  intro z
                  induction z with
                  | zero =>
                    intro j z1 ez1 hj hz
                    exact absurd hz (Nat.not_lt_zero _)
                  | succ z ih_166 =>
                    intro j z1 ez1 hj hz H locs hP hS ls hl
                    subst ez1
                    have hD := va_D_addr (ws := (wsM A cI cB I (vp_updL J 28 (mx (mx (mx (mix2 (F 7) (fun c => mTo F (I 6) n (nI c) 4) (mDigS F (I 6) n fd n) 10) (mHillN (F 7) (5 : Int32) 10)) (mSand F (I 6) n (4 : Int32) (1023 : Int32) (0 : Int32))) (mSand F (I 6) n (4 : Int32) (1023 : Int32) (1 : Int32)))) (va_up F 15 (mDScr F (I 6) n n)))) (ws' := (wsM A cI cB I (vp_updL J 28 (mixN (F 14) (if 0 < n then mLand F (I 6) n (mDigS F (I 6) n fd n) else mDigS F (I 6) n fd n) j)) (va_up F 15 (mDScr F (I 6) n n)))) (wsM_fst.trans wsM_fst.symm) hD
                    refine lv_iload_n hx hb dX4_digest_166 rfl (lv_at hl 1 rfl) ?_
                    refine lv_aload_n hx hb dX4_digest_167 rfl (lv_at hl 0 rfl) ?_
                    refine va_get (D := D) (ci := 4) (v := .int (I 13)) (C := RX4) (T := TX4) (N := 29) hx hb hts inlX4 hown hK hP 0 rfl rfl 13 (by decide) (hts _ kw_87) (fun _ h9 => h9) rfl dX4_digest_168 ?_
                    refine topE (z := (nI sz)) h13 ?_
                    refine lv_icmp_ge (tgt := 191) hx hb dX4_digest_171 (by decide) (fun c_6 => ?_) (fun c_6 => ?_)
                    · have nc_6 : sz ≤ j := (nI_leI (a := sz) (b := j) (by omega) (by omega)).mp c_6
                      refine lv_iconst (v := (0 : Int32)) hx hb dX4_digest_191 (by decide) ?_
                      refine lv_istore_n (lv' := [(1, .int (0 : Int32)), (0, .ref (A 0))]) hx hb dX4_digest_192 rfl hl (by decide) rfl (fun ls hl => ?_)
                      have loop_193 : ∀ (z : Nat) (v : Nat) (u1 : Int32), u1 = nI v → (v ≤ 8) → 8 - v < z → ∀ (H : Heap) (locs : List Loc), va_P D vwCl (wsM A cI cB I (vp_updL J 28 (mixN (fun w => mCount I (F 7) n (nI w)) (mixN (F 14) (if 0 < n then mLand F (I 6) n (mDigS F (I 6) n fd n) else mDigS F (I 6) n fd n) sz) v)) (va_up F 15 (mDScr F (I 6) n n))) H → va_S (FPw (wsM A cI cB I J F)) s.heap H locs → ∀ (ls : Array Slot), lv_has ls 3 [(0, .ref (A 0)), (1, .int u1)] → W p l e ({ frames := 7, cells := 0, slots := 0, locals := 169 } : Room) s m args below meth c H locs 0 0 (MQ below (QcW D (some (.long (mDigest I F n fd sz))) (wsM A cI cB I J F) (wsM A cI cB I (vp_updL J 28 (mDigest I F n fd sz)) (va_up F 15 (mDScr F (I 6) n n)))) args s 0 0 (FPw (wsM A cI cB I J F))) (F0 m 193 ls []) := by
                        intro z
                        induction z with
                        | zero =>
                          intro v u1 eu1 hv hz
                          exact absurd hz (Nat.not_lt_zero _)
                        | succ z ih_193 =>
                          intro v u1 eu1 hv hz H locs hP hS ls hl
                          subst eu1
                          have hD := va_D_addr (ws := (wsM A cI cB I (vp_updL J 28 (mixN (F 14) (if 0 < n then mLand F (I 6) n (mDigS F (I 6) n fd n) else mDigS F (I 6) n fd n) j)) (va_up F 15 (mDScr F (I 6) n n)))) (ws' := (wsM A cI cB I (vp_updL J 28 (mixN (fun w => mCount I (F 7) n (nI w)) (mixN (F 14) (if 0 < n then mLand F (I 6) n (mDigS F (I 6) n fd n) else mDigS F (I 6) n fd n) sz) v)) (va_up F 15 (mDScr F (I 6) n n)))) (wsM_fst.trans wsM_fst.symm) hD
                          refine lv_iload_n hx hb dX4_digest_193 rfl (lv_at hl 1 rfl) ?_
                          refine lv_bipush (v := (8 : Int32)) hx hb dX4_digest_194 (by decide) ?_
                          refine lv_icmp_ge (tgt := 215) hx hb dX4_digest_196 (by decide) (fun c_7 => ?_) (fun c_7 => ?_)
                          · have nc_7 : 8 ≤ v := (nI_leI (a := 8) (b := v) (by omega) (by omega)).mp c_7
                            refine lv_aload_n hx hb dX4_digest_215 rfl (lv_at hl 0 rfl) ?_
                            refine va_get (D := D) (ci := 4) (v := .long (mixN (fun w => mCount I (F 7) n (nI w)) (mixN (F 14) (if 0 < n then mLand F (I 6) n (mDigS F (I 6) n fd n) else mDigS F (I 6) n fd n) sz) v)) (C := RX4) (T := TX4) (N := 29) hx hb hts inlX4 hown hK hP 0 rfl rfl 28 (by decide) (hts _ kw_646) (fun _ h9 => h9) rfl dX4_digest_216 ?_
                            exact retWl hx hb hr hlk hP hS dX4_digest_219 (by have hvn : v = 8 := (by omega); subst hvn; rfl) (by have hvn : v = 8 := (by omega); subst hvn; rfl)
                          · have nc_7 : ¬ 8 ≤ v := fun h => c_7 ((nI_leI (a := 8) (b := v) (by omega) (by omega)).mpr h)
                            refine lv_aload_n hx hb dX4_digest_199 rfl (lv_at hl 0 rfl) ?_
                            refine lv_aload_n hx hb dX4_digest_200 rfl (lv_at hl 0 rfl) ?_
                            refine lv_iload_n hx hb dX4_digest_201 rfl (lv_at hl 1 rfl) ?_
                            refine rcVi (As := [.int (nI v)]) (rest := [.ref (A 0)]) hx hb hml hown hts hKK hP (c_X4_howMany l D cI cB cS hn h1 (nI v)) (cwV2 1 hts kw_619 kw_6 kw_616 kw_617 kw_618 rfl rfl (by decide +kernel) ⟨Nat.le_of_ble_eq_true rfl, Nat.le_of_ble_eq_true rfl⟩) 0 rfl rfl rfl rfl hl.1 rfl (Nat.le_of_ble_eq_true rfl) ⟨Nat.zero_le _, Nat.zero_le _⟩ dX4_digest_202 ?_
                            refine topE (z := (mCount I (F 7) n (nI v))) rfl ?_
                            refine lv_i2l (v := ((mCount I (F 7) n (nI v)).toInt64)) hx hb dX4_digest_205 rfl ?_
                            refine wcVv (As := [.long ((mCount I (F 7) n (nI v)).toInt64)]) (rest := []) hx hb hml hown hts hKK hP hD hS (c_X4_mix l D cI cB cS ((mCount I (F 7) n (nI v)).toInt64)) (cwV2 1 hts kw_650 kw_6 kw_647 kw_648 kw_649 rfl rfl (by decide +kernel) ⟨Nat.le_of_ble_eq_true rfl, Nat.le_of_ble_eq_true rfl⟩) 0 rfl rfl rfl rfl hl.1 rfl (Nat.le_of_ble_eq_true rfl) ⟨Nat.zero_le _, Nat.zero_le _⟩ dX4_digest_206 (fun H locs hP hS => ?_)
                            have hP : va_P D vwCl (wsM A cI cB I (vp_updL J 28 (mx (mixN (fun w => mCount I (F 7) n (nI w)) (mixN (F 14) (if 0 < n then mLand F (I 6) n (mDigS F (I 6) n fd n) else mDigS F (I 6) n fd n) sz) v) (mCount I (F 7) n (nI v)))) (va_up F 15 (mDScr F (I 6) n n))) H := hP
                            have hD : va_D (FPw (wsM A cI cB I J F)) (wsM A cI cB I (vp_updL J 28 (mx (mixN (fun w => mCount I (F 7) n (nI w)) (mixN (F 14) (if 0 < n then mLand F (I 6) n (mDigS F (I 6) n fd n) else mDigS F (I 6) n fd n) sz) v) (mCount I (F 7) n (nI v)))) (va_up F 15 (mDScr F (I 6) n n))) := va_D_addr (ws := (wsM A cI cB I (vp_updL J 28 (mixN (fun w => mCount I (F 7) n (nI w)) (mixN (F 14) (if 0 < n then mLand F (I 6) n (mDigS F (I 6) n fd n) else mDigS F (I 6) n fd n) sz) v)) (va_up F 15 (mDScr F (I 6) n n)))) (wsM_fst.trans wsM_fst.symm) hD
                            refine lv_iinc (v := (nI (v + 1))) (lv' := [(1, .int (nI (v + 1))), (0, .ref (A 0))]) hx hb dX4_digest_209 hl (k := 1) rfl (nI_add v 1) (by decide) rfl (fun ls hl => ?_)
                            refine lv_goto (tgt := 193) hx hb dX4_digest_212 (by decide) ?_
                            have hP9 : va_P D vwCl (wsM A cI cB I (vp_updL J 28 (mixN (fun w => mCount I (F 7) n (nI w)) (mixN (F 14) (if 0 < n then mLand F (I 6) n (mDigS F (I 6) n fd n) else mDigS F (I 6) n fd n) sz) (v + 1))) (va_up F 15 (mDScr F (I 6) n n))) H := by exact hP
                            exact ih_193 (v + 1) (nI (v + 1)) rfl (by omega) (by omega) H locs hP9 hS ls (lv_sub hl [1, 0] rfl)
                      have hP9 : va_P D vwCl (wsM A cI cB I (vp_updL J 28 (mixN (fun w => mCount I (F 7) n (nI w)) (mixN (F 14) (if 0 < n then mLand F (I 6) n (mDigS F (I 6) n fd n) else mDigS F (I 6) n fd n) sz) 0)) (va_up F 15 (mDScr F (I 6) n n))) H := by have hjn : j = sz := (by omega); subst hjn; exact hP
                      exact loop_193 ((8 - 0) + 1) 0 (0 : Int32) rfl (by omega) (by omega) H locs hP9 hS ls (lv_sub hl [1, 0] rfl)
                    · have nc_6 : ¬ sz ≤ j := fun h => c_6 ((nI_leI (a := sz) (b := j) (by omega) (by omega)).mpr h)
                      refine lv_aload_n hx hb dX4_digest_174 rfl (lv_at hl 0 rfl) ?_
                      refine lv_aload_n hx hb dX4_digest_175 rfl (lv_at hl 0 rfl) ?_
                      refine va_get (D := D) (ci := 4) (v := .ref (A 14)) (C := RX4) (T := TX4) (N := 29) hx hb hts inlX4 hown hK hP 0 rfl rfl 14 (by decide) (hts _ kw_68) (fun _ h9 => h9) rfl dX4_digest_176 ?_
                      refine lv_iload_n hx hb dX4_digest_179 rfl (lv_at hl 1 rfl) ?_
                      refine va_bald (D := D) hx hb hK hP 9 1 rfl rfl (vp_in_nI (by omega) (by omega)) dX4_digest_180 ?_
                      refine topE (z := ((F 14) j)) (congrArg _ (nI_clamp (n := j) (by omega))) ?_
                      refine lv_i2l (v := (((F 14) j).toInt64)) hx hb dX4_digest_181 rfl ?_
                      refine wcVv (As := [.long (((F 14) j).toInt64)]) (rest := []) hx hb hml hown hts hKK hP hD hS (c_X4_mix l D cI cB cS (((F 14) j).toInt64)) (cwV2 1 hts kw_650 kw_6 kw_647 kw_648 kw_649 rfl rfl (by decide +kernel) ⟨Nat.le_of_ble_eq_true rfl, Nat.le_of_ble_eq_true rfl⟩) 0 rfl rfl rfl rfl hl.1 rfl (Nat.le_of_ble_eq_true rfl) ⟨Nat.zero_le _, Nat.zero_le _⟩ dX4_digest_182 (fun H locs hP hS => ?_)
                      have hP : va_P D vwCl (wsM A cI cB I (vp_updL J 28 (mx (mixN (F 14) (if 0 < n then mLand F (I 6) n (mDigS F (I 6) n fd n) else mDigS F (I 6) n fd n) j) ((F 14) j))) (va_up F 15 (mDScr F (I 6) n n))) H := hP
                      have hD : va_D (FPw (wsM A cI cB I J F)) (wsM A cI cB I (vp_updL J 28 (mx (mixN (F 14) (if 0 < n then mLand F (I 6) n (mDigS F (I 6) n fd n) else mDigS F (I 6) n fd n) j) ((F 14) j))) (va_up F 15 (mDScr F (I 6) n n))) := va_D_addr (ws := (wsM A cI cB I (vp_updL J 28 (mixN (F 14) (if 0 < n then mLand F (I 6) n (mDigS F (I 6) n fd n) else mDigS F (I 6) n fd n) j)) (va_up F 15 (mDScr F (I 6) n n)))) (wsM_fst.trans wsM_fst.symm) hD
                      refine lv_iinc (v := (nI (j + 1))) (lv' := [(1, .int (nI (j + 1))), (0, .ref (A 0))]) hx hb dX4_digest_185 hl (k := 1) rfl (nI_add j 1) (by decide) rfl (fun ls hl => ?_)
                      refine lv_goto (tgt := 166) hx hb dX4_digest_188 (by decide) ?_
                      have hP9 : va_P D vwCl (wsM A cI cB I (vp_updL J 28 (mixN (F 14) (if 0 < n then mLand F (I 6) n (mDigS F (I 6) n fd n) else mDigS F (I 6) n fd n) (j + 1))) (va_up F 15 (mDScr F (I 6) n n))) H := by exact hP
                      exact ih_166 (j + 1) (nI (j + 1)) rfl (by omega) (by omega) H locs hP9 hS ls (lv_sub hl [1, 0] rfl)
                have hP9 : va_P D vwCl (wsM A cI cB I (vp_updL J 28 (mixN (F 14) (if 0 < n then mLand F (I 6) n (mDigS F (I 6) n fd n) else mDigS F (I 6) n fd n) 0)) (va_up F 15 (mDScr F (I 6) n n))) H := by rw [if_pos (by omega)]; exact hP
                exact loop_166 ((sz - 0) + 1) 0 (0 : Int32) rfl (by omega) (by omega) H locs hP9 hS ls (lv_sub hl [1, 0] rfl)
              · have nc_5 : ¬ 10 ≤ cl := fun h => c_5 ((nI_leI (a := 10) (b := cl) (by omega) (by omega)).mpr h)
                refine lv_aload_n hx hb dX4_digest_98 rfl (lv_at hl 0 rfl) ?_
                refine lv_aload_n hx hb dX4_digest_99 rfl (lv_at hl 0 rfl) ?_
                refine va_get (D := D) (ci := 4) (v := .ref (A 7)) (C := RX4) (T := TX4) (N := 29) hx hb hts inlX4 hown hK hP 0 rfl rfl 7 (by decide) (hts _ kw_63) (fun _ h9 => h9) rfl dX4_digest_100 ?_
                refine lv_iload_n hx hb dX4_digest_103 rfl (lv_at hl 1 rfl) ?_
                refine va_iald (D := D) hx hb hK hP 5 0 rfl rfl (vp_in_nI (by omega) (by omega)) dX4_digest_104 ?_
                refine topE (z := ((F 7) cl)) (congrArg _ (nI_clamp (n := cl) (by omega))) ?_
                refine lv_i2l (v := (((F 7) cl).toInt64)) hx hb dX4_digest_105 rfl ?_
                refine wcVv (As := [.long (((F 7) cl).toInt64)]) (rest := []) hx hb hml hown hts hKK hP hD hS (c_X4_mix l D cI cB cS (((F 7) cl).toInt64)) (cwV2 1 hts kw_650 kw_6 kw_647 kw_648 kw_649 rfl rfl (by decide +kernel) ⟨Nat.le_of_ble_eq_true rfl, Nat.le_of_ble_eq_true rfl⟩) 0 rfl rfl rfl rfl hl.1 rfl (Nat.le_of_ble_eq_true rfl) ⟨Nat.zero_le _, Nat.zero_le _⟩ dX4_digest_106 (fun H locs hP hS => ?_)
                have hP : va_P D vwCl (wsM A cI cB I (vp_updL J 28 (mx (mix2 (F 7) (fun c => mTo F (I 6) n (nI c) 4) (mDigS F (I 6) n fd n) cl) ((F 7) cl))) (va_up F 15 (mDScr F (I 6) n n))) H := hP
                have hD : va_D (FPw (wsM A cI cB I J F)) (wsM A cI cB I (vp_updL J 28 (mx (mix2 (F 7) (fun c => mTo F (I 6) n (nI c) 4) (mDigS F (I 6) n fd n) cl) ((F 7) cl))) (va_up F 15 (mDScr F (I 6) n n))) := va_D_addr (ws := (wsM A cI cB I (vp_updL J 28 (mix2 (F 7) (fun c => mTo F (I 6) n (nI c) 4) (mDigS F (I 6) n fd n) cl)) (va_up F 15 (mDScr F (I 6) n n)))) (wsM_fst.trans wsM_fst.symm) hD
                refine lv_aload_n hx hb dX4_digest_109 rfl (lv_at hl 0 rfl) ?_
                refine lv_aload_n hx hb dX4_digest_110 rfl (lv_at hl 0 rfl) ?_
                refine lv_iload_n hx hb dX4_digest_111 rfl (lv_at hl 1 rfl) ?_
                refine lv_iconst (v := (4 : Int32)) hx hb dX4_digest_112 (by decide) ?_
                refine rcVi (As := [.int (nI cl), .int (4 : Int32)]) (rest := [.ref (A 0)]) hx hb hml hown hts hKK hP (c_X4_comesTo l D cI cB cS hn h1 (nI cl) (4 : Int32)) (cwV2 2 hts kw_319 kw_6 kw_316 kw_317 kw_318 rfl rfl (by decide +kernel) ⟨Nat.le_of_ble_eq_true rfl, Nat.le_of_ble_eq_true rfl⟩) 0 rfl rfl rfl rfl hl.1 rfl (Nat.le_of_ble_eq_true rfl) ⟨Nat.zero_le _, Nat.zero_le _⟩ dX4_digest_113 ?_
                refine topE (z := (mTo F (I 6) n (nI cl) (4 : Int32))) rfl ?_
                refine lv_i2l (v := ((mTo F (I 6) n (nI cl) (4 : Int32)).toInt64)) hx hb dX4_digest_116 rfl ?_
                refine wcVv (As := [.long ((mTo F (I 6) n (nI cl) (4 : Int32)).toInt64)]) (rest := []) hx hb hml hown hts hKK hP hD hS (c_X4_mix l D cI cB cS ((mTo F (I 6) n (nI cl) (4 : Int32)).toInt64)) (cwV2 1 hts kw_650 kw_6 kw_647 kw_648 kw_649 rfl rfl (by decide +kernel) ⟨Nat.le_of_ble_eq_true rfl, Nat.le_of_ble_eq_true rfl⟩) 0 rfl rfl rfl rfl hl.1 rfl (Nat.le_of_ble_eq_true rfl) ⟨Nat.zero_le _, Nat.zero_le _⟩ dX4_digest_117 (fun H locs hP hS => ?_)
                have hP : va_P D vwCl (wsM A cI cB I (vp_updL J 28 (mx (mx (mix2 (F 7) (fun c => mTo F (I 6) n (nI c) 4) (mDigS F (I 6) n fd n) cl) ((F 7) cl)) (mTo F (I 6) n (nI cl) (4 : Int32)))) (va_up F 15 (mDScr F (I 6) n n))) H := hP
                have hD : va_D (FPw (wsM A cI cB I J F)) (wsM A cI cB I (vp_updL J 28 (mx (mx (mix2 (F 7) (fun c => mTo F (I 6) n (nI c) 4) (mDigS F (I 6) n fd n) cl) ((F 7) cl)) (mTo F (I 6) n (nI cl) (4 : Int32)))) (va_up F 15 (mDScr F (I 6) n n))) := va_D_addr (ws := (wsM A cI cB I (vp_updL J 28 (mx (mix2 (F 7) (fun c => mTo F (I 6) n (nI c) 4) (mDigS F (I 6) n fd n) cl) ((F 7) cl))) (va_up F 15 (mDScr F (I 6) n n)))) (wsM_fst.trans wsM_fst.symm) hD
                refine lv_iinc (v := (nI (cl + 1))) (lv' := [(1, .int (nI (cl + 1))), (0, .ref (A 0))]) hx hb dX4_digest_120 hl (k := 1) rfl (nI_add cl 1) (by decide) rfl (fun ls hl => ?_)
                refine lv_goto (tgt := 92) hx hb dX4_digest_123 (by decide) ?_
                have hP9 : va_P D vwCl (wsM A cI cB I (vp_updL J 28 (mix2 (F 7) (fun c => mTo F (I 6) n (nI c) 4) (mDigS F (I 6) n fd n) (cl + 1))) (va_up F 15 (mDScr F (I 6) n n))) H := by exact hP
                exact ih_92 (cl + 1) (nI (cl + 1)) rfl (by omega) (by omega) H locs hP9 hS ls (lv_sub hl [1, 0] rfl)
          have hP9 : va_P D vwCl (wsM A cI cB I (vp_updL J 28 (mix2 (F 7) (fun c => mTo F (I 6) n (nI c) 4) (mDigS F (I 6) n fd n) 0)) (va_up F 15 (mDScr F (I 6) n n))) H := by have hkn : k = n := (by omega); subst hkn; exact hP
          exact loop_92 ((10 - 0) + 1) 0 (0 : Int32) rfl (by omega) (by omega) H locs hP9 hS ls (lv_sub hl [1, 0] rfl)
      · have nc_1 : ¬ n ≤ k := fun h => c_1 ((nI_leI (a := n) (b := k) (by omega) (by omega)).mpr h)
        refine lv_iconst (v := (0 : Int32)) hx hb dX4_digest_17 (by decide) ?_
        refine lv_istore_n (lv' := [(2, .int (0 : Int32)), (0, .ref (A 0)), (1, .int (nI k))]) hx hb dX4_digest_18 rfl hl (by decide) rfl (fun ls hl => ?_)
        have loop_19 : ∀ (z : Nat) (q : Nat) (x2 : Int32), x2 = nI q → (q ≤ 6) → 6 - q < z → ∀ (H : Heap) (locs : List Loc), va_P D vwCl (wsM A cI cB I (vp_updL J 28 (mixN (fun w => mStroke F (I 6) n fd k (nI w)) (mDigS F (I 6) n fd k) q)) (va_up F 15 (mDScr F (I 6) n k))) H → va_S (FPw (wsM A cI cB I J F)) s.heap H locs → ∀ (ls : Array Slot), lv_has ls 3 [(0, .ref (A 0)), (1, .int (nI k)), (2, .int x2)] → W p l e ({ frames := 7, cells := 0, slots := 0, locals := 169 } : Room) s m args below meth c H locs 0 0 (MQ below (QcW D (some (.long (mDigest I F n fd sz))) (wsM A cI cB I J F) (wsM A cI cB I (vp_updL J 28 (mDigest I F n fd sz)) (va_up F 15 (mDScr F (I 6) n n)))) args s 0 0 (FPw (wsM A cI cB I J F))) (F0 m 19 ls []) := by
          intro z
          induction z with
          | zero =>
            intro q x2 ex2 hq hz
            exact absurd hz (Nat.not_lt_zero _)
          | succ z ih_19 =>
            intro q x2 ex2 hq hz H locs hP hS ls hl
            subst ex2
            have hD := va_D_addr (ws := (wsM A cI cB I (vp_updL J 28 (mDigS F (I 6) n fd k)) (va_up F 15 (mDScr F (I 6) n k)))) (ws' := (wsM A cI cB I (vp_updL J 28 (mixN (fun w => mStroke F (I 6) n fd k (nI w)) (mDigS F (I 6) n fd k) q)) (va_up F 15 (mDScr F (I 6) n k)))) (wsM_fst.trans wsM_fst.symm) hD
            refine lv_iload_n hx hb dX4_digest_19 rfl (lv_at hl 2 rfl) ?_
            refine lv_bipush (v := (6 : Int32)) hx hb dX4_digest_20 (by decide) ?_
            refine lv_icmp_ge (tgt := 42) hx hb dX4_digest_22 (by decide) (fun c_8 => ?_) (fun c_8 => ?_)
            · have nc_8 : 6 ≤ q := (nI_leI (a := 6) (b := q) (by omega) (by omega)).mp c_8
              have hq6 : q = 6 := by omega
              subst hq6
              refine lv_aload_n hx hb dX4_digest_42 rfl (lv_at hl 0 rfl) ?_
              refine lv_aload_n hx hb dX4_digest_43 rfl (lv_at hl 0 rfl) ?_
              refine lv_iload_n hx hb dX4_digest_44 rfl (lv_at hl 1 rfl) ?_
              refine lv_iconst (v := (3 : Int32)) hx hb dX4_digest_45 (by decide) ?_
              refine rcVi (As := [.int (nI k), .int (3 : Int32)]) (rest := [.ref (A 0)]) hx hb hml hown hts hKK hP (c_X4_wetAt l D cI cB cS hn h1 (k := k) (by omega) (3 : Int32)) (cwV2 2 hts kw_327 kw_6 kw_324 kw_325 kw_326 rfl rfl (by decide +kernel) ⟨Nat.le_of_ble_eq_true rfl, Nat.le_of_ble_eq_true rfl⟩) 0 rfl rfl rfl rfl hl.1 rfl (Nat.le_of_ble_eq_true rfl) ⟨Nat.zero_le _, Nat.zero_le _⟩ dX4_digest_46 ?_
              refine topE (z := (mWet F (I 6) k (3 : Int32))) rfl ?_
              refine lv_i2l (v := ((mWet F (I 6) k (3 : Int32)).toInt64)) hx hb dX4_digest_49 rfl ?_
              refine wcVv (As := [.long ((mWet F (I 6) k (3 : Int32)).toInt64)]) (rest := []) hx hb hml hown hts hKK hP hD hS (c_X4_mix l D cI cB cS ((mWet F (I 6) k (3 : Int32)).toInt64)) (cwV2 1 hts kw_650 kw_6 kw_647 kw_648 kw_649 rfl rfl (by decide +kernel) ⟨Nat.le_of_ble_eq_true rfl, Nat.le_of_ble_eq_true rfl⟩) 0 rfl rfl rfl rfl hl.1 rfl (Nat.le_of_ble_eq_true rfl) ⟨Nat.zero_le _, Nat.zero_le _⟩ dX4_digest_50 (fun H locs hP hS => ?_)
              have hP : va_P D vwCl (wsM A cI cB I (vp_updL J 28 (mx (mixN (fun w => mStroke F (I 6) n fd k (nI w)) (mDigS F (I 6) n fd k) 6) (mWet F (I 6) k (3 : Int32)))) (va_up F 15 (mDScr F (I 6) n k))) H := hP
              have hD : va_D (FPw (wsM A cI cB I J F)) (wsM A cI cB I (vp_updL J 28 (mx (mixN (fun w => mStroke F (I 6) n fd k (nI w)) (mDigS F (I 6) n fd k) 6) (mWet F (I 6) k (3 : Int32)))) (va_up F 15 (mDScr F (I 6) n k))) := va_D_addr (ws := (wsM A cI cB I (vp_updL J 28 (mixN (fun w => mStroke F (I 6) n fd k (nI w)) (mDigS F (I 6) n fd k) 6)) (va_up F 15 (mDScr F (I 6) n k)))) (wsM_fst.trans wsM_fst.symm) hD
              refine lv_aload_n hx hb dX4_digest_53 rfl (lv_at hl 0 rfl) ?_
              refine lv_aload_n hx hb dX4_digest_54 rfl (lv_at hl 0 rfl) ?_
              refine lv_iload_n hx hb dX4_digest_55 rfl (lv_at hl 1 rfl) ?_
              refine lv_bipush (v := (9 : Int32)) hx hb dX4_digest_56 (by decide) ?_
              refine rcVi (As := [.int (nI k), .int (9 : Int32)]) (rest := [.ref (A 0)]) hx hb hml hown hts hKK hP (c_X4_wetAt l D cI cB cS hn h1 (k := k) (by omega) (9 : Int32)) (cwV2 2 hts kw_327 kw_6 kw_324 kw_325 kw_326 rfl rfl (by decide +kernel) ⟨Nat.le_of_ble_eq_true rfl, Nat.le_of_ble_eq_true rfl⟩) 0 rfl rfl rfl rfl hl.1 rfl (Nat.le_of_ble_eq_true rfl) ⟨Nat.zero_le _, Nat.zero_le _⟩ dX4_digest_58 ?_
              refine topE (z := (mWet F (I 6) k (9 : Int32))) rfl ?_
              refine lv_i2l (v := ((mWet F (I 6) k (9 : Int32)).toInt64)) hx hb dX4_digest_61 rfl ?_
              refine wcVv (As := [.long ((mWet F (I 6) k (9 : Int32)).toInt64)]) (rest := []) hx hb hml hown hts hKK hP hD hS (c_X4_mix l D cI cB cS ((mWet F (I 6) k (9 : Int32)).toInt64)) (cwV2 1 hts kw_650 kw_6 kw_647 kw_648 kw_649 rfl rfl (by decide +kernel) ⟨Nat.le_of_ble_eq_true rfl, Nat.le_of_ble_eq_true rfl⟩) 0 rfl rfl rfl rfl hl.1 rfl (Nat.le_of_ble_eq_true rfl) ⟨Nat.zero_le _, Nat.zero_le _⟩ dX4_digest_62 (fun H locs hP hS => ?_)
              have hP : va_P D vwCl (wsM A cI cB I (vp_updL J 28 (mx (mx (mixN (fun w => mStroke F (I 6) n fd k (nI w)) (mDigS F (I 6) n fd k) 6) (mWet F (I 6) k (3 : Int32))) (mWet F (I 6) k (9 : Int32)))) (va_up F 15 (mDScr F (I 6) n k))) H := hP
              have hD : va_D (FPw (wsM A cI cB I J F)) (wsM A cI cB I (vp_updL J 28 (mx (mx (mixN (fun w => mStroke F (I 6) n fd k (nI w)) (mDigS F (I 6) n fd k) 6) (mWet F (I 6) k (3 : Int32))) (mWet F (I 6) k (9 : Int32)))) (va_up F 15 (mDScr F (I 6) n k))) := va_D_addr (ws := (wsM A cI cB I (vp_updL J 28 (mx (mixN (fun w => mStroke F (I 6) n fd k (nI w)) (mDigS F (I 6) n fd k) 6) (mWet F (I 6) k (3 : Int32)))) (va_up F 15 (mDScr F (I 6) n k)))) (wsM_fst.trans wsM_fst.symm) hD
              refine lv_aload_n hx hb dX4_digest_65 rfl (lv_at hl 0 rfl) ?_
              refine lv_aload_n hx hb dX4_digest_66 rfl (lv_at hl 0 rfl) ?_
              refine lv_iload_n hx hb dX4_digest_67 rfl (lv_at hl 1 rfl) ?_
              refine lv_bipush (v := (6 : Int32)) hx hb dX4_digest_68 (by decide) ?_
              refine wcVi (As := [.int (nI k), .int (6 : Int32)]) (rest := [.ref (A 0)]) hx hb hml hown hts hKK hP hD hS (c_X4_lookNow l D cI cB cS hn h1 hfd h9 (k := k) (by omega) (6 : Int32)) (cwV2 2 hts kw_527 kw_6 kw_524 kw_525 kw_526 rfl rfl (by decide +kernel) ⟨Nat.le_of_ble_eq_true rfl, Nat.le_of_ble_eq_true rfl⟩) 0 rfl rfl rfl rfl hl.1 rfl (Nat.le_of_ble_eq_true rfl) ⟨Nat.zero_le _, Nat.zero_le _⟩ dX4_digest_70 (fun H locs hP hS => ?_)
              have hP : va_P D vwCl (wsM A cI cB I (vp_updL J 28 (mx (mx (mixN (fun w => mStroke F (I 6) n fd k (nI w)) (mDigS F (I 6) n fd k) 6) (mWet F (I 6) k (3 : Int32))) (mWet F (I 6) k (9 : Int32)))) (va_up F 15 (mLay F (I 6) n k (6 : Int32) (mDScr F (I 6) n k)))) H := hP
              have hD : va_D (FPw (wsM A cI cB I J F)) (wsM A cI cB I (vp_updL J 28 (mx (mx (mixN (fun w => mStroke F (I 6) n fd k (nI w)) (mDigS F (I 6) n fd k) 6) (mWet F (I 6) k (3 : Int32))) (mWet F (I 6) k (9 : Int32)))) (va_up F 15 (mLay F (I 6) n k (6 : Int32) (mDScr F (I 6) n k)))) := va_D_addr (ws := (wsM A cI cB I (vp_updL J 28 (mx (mx (mixN (fun w => mStroke F (I 6) n fd k (nI w)) (mDigS F (I 6) n fd k) 6) (mWet F (I 6) k (3 : Int32))) (mWet F (I 6) k (9 : Int32)))) (va_up F 15 (mDScr F (I 6) n k)))) (wsM_fst.trans wsM_fst.symm) hD
              refine topE (z := (mLookN F (I 6) n fd k (6 : Int32))) rfl ?_
              refine lv_i2l (v := ((mLookN F (I 6) n fd k (6 : Int32)).toInt64)) hx hb dX4_digest_73 rfl ?_
              refine wcVv (As := [.long ((mLookN F (I 6) n fd k (6 : Int32)).toInt64)]) (rest := []) hx hb hml hown hts hKK hP hD hS (c_X4_mix l D cI cB cS ((mLookN F (I 6) n fd k (6 : Int32)).toInt64)) (cwV2 1 hts kw_650 kw_6 kw_647 kw_648 kw_649 rfl rfl (by decide +kernel) ⟨Nat.le_of_ble_eq_true rfl, Nat.le_of_ble_eq_true rfl⟩) 0 rfl rfl rfl rfl hl.1 rfl (Nat.le_of_ble_eq_true rfl) ⟨Nat.zero_le _, Nat.zero_le _⟩ dX4_digest_74 (fun H locs hP hS => ?_)
              have hP : va_P D vwCl (wsM A cI cB I (vp_updL J 28 (mx (mx (mx (mixN (fun w => mStroke F (I 6) n fd k (nI w)) (mDigS F (I 6) n fd k) 6) (mWet F (I 6) k (3 : Int32))) (mWet F (I 6) k (9 : Int32))) (mLookN F (I 6) n fd k (6 : Int32)))) (va_up F 15 (mLay F (I 6) n k (6 : Int32) (mDScr F (I 6) n k)))) H := hP
              have hD : va_D (FPw (wsM A cI cB I J F)) (wsM A cI cB I (vp_updL J 28 (mx (mx (mx (mixN (fun w => mStroke F (I 6) n fd k (nI w)) (mDigS F (I 6) n fd k) 6) (mWet F (I 6) k (3 : Int32))) (mWet F (I 6) k (9 : Int32))) (mLookN F (I 6) n fd k (6 : Int32)))) (va_up F 15 (mLay F (I 6) n k (6 : Int32) (mDScr F (I 6) n k)))) := va_D_addr (ws := (wsM A cI cB I (vp_updL J 28 (mx (mx (mixN (fun w => mStroke F (I 6) n fd k (nI w)) (mDigS F (I 6) n fd k) 6) (mWet F (I 6) k (3 : Int32))) (mWet F (I 6) k (9 : Int32)))) (va_up F 15 (mLay F (I 6) n k (6 : Int32) (mDScr F (I 6) n k))))) (wsM_fst.trans wsM_fst.symm) hD
              refine lv_iinc (v := (nI (k + 1))) (lv' := [(1, .int (nI (k + 1))), (0, .ref (A 0)), (2, .int (nI 6))]) hx hb dX4_digest_77 hl (k := 1) rfl (nI_add k 1) (by decide) rfl (fun ls hl => ?_)
              refine lv_goto (tgt := 9) hx hb dX4_digest_80 (by decide) ?_
              have hP9 : va_P D vwCl (wsM A cI cB I (vp_updL J 28 (mDigS F (I 6) n fd (k + 1))) (va_up F 15 (mDScr F (I 6) n (k + 1)))) H := by exact hP
              exact ih_9 (k + 1) (nI (k + 1)) rfl (by omega) (by omega) H locs hP9 hS ls (lv_sub hl [1, 0] rfl)
            · have nc_8 : ¬ 6 ≤ q := fun h => c_8 ((nI_leI (a := 6) (b := q) (by omega) (by omega)).mpr h)
              refine lv_aload_n hx hb dX4_digest_25 rfl (lv_at hl 0 rfl) ?_
              refine lv_aload_n hx hb dX4_digest_26 rfl (lv_at hl 0 rfl) ?_
              refine lv_iload_n hx hb dX4_digest_27 rfl (lv_at hl 1 rfl) ?_
              refine lv_iload_n hx hb dX4_digest_28 rfl (lv_at hl 2 rfl) ?_
              refine wcVi (As := [.int (nI k), .int (nI q)]) (rest := [.ref (A 0)]) hx hb hml hown hts hKK hP hD hS (c_X4_strokeNow l D cI cB cS hn h1 hfd h9 (k := k) (by omega) (nI q)) (cwV2 2 hts kw_307 kw_6 kw_304 kw_305 kw_306 rfl rfl (by decide +kernel) ⟨Nat.le_of_ble_eq_true rfl, Nat.le_of_ble_eq_true rfl⟩) 0 rfl rfl rfl rfl hl.1 rfl (Nat.le_of_ble_eq_true rfl) ⟨Nat.zero_le _, Nat.zero_le _⟩ dX4_digest_29 (fun H locs hP hS => ?_)
              have hP : va_P D vwCl (wsM A cI cB I (vp_updL J 28 (mixN (fun w => mStroke F (I 6) n fd k (nI w)) (mDigS F (I 6) n fd k) q)) (va_up F 15 (mDScr F (I 6) n k))) H := hP
              have hD : va_D (FPw (wsM A cI cB I J F)) (wsM A cI cB I (vp_updL J 28 (mixN (fun w => mStroke F (I 6) n fd k (nI w)) (mDigS F (I 6) n fd k) q)) (va_up F 15 (mDScr F (I 6) n k))) := va_D_addr (ws := (wsM A cI cB I (vp_updL J 28 (mixN (fun w => mStroke F (I 6) n fd k (nI w)) (mDigS F (I 6) n fd k) q)) (va_up F 15 (mDScr F (I 6) n k)))) (wsM_fst.trans wsM_fst.symm) hD
              refine topE (z := (mStroke F (I 6) n fd k (nI q))) rfl ?_
              refine lv_i2l (v := ((mStroke F (I 6) n fd k (nI q)).toInt64)) hx hb dX4_digest_32 rfl ?_
              refine wcVv (As := [.long ((mStroke F (I 6) n fd k (nI q)).toInt64)]) (rest := []) hx hb hml hown hts hKK hP hD hS (c_X4_mix l D cI cB cS ((mStroke F (I 6) n fd k (nI q)).toInt64)) (cwV2 1 hts kw_650 kw_6 kw_647 kw_648 kw_649 rfl rfl (by decide +kernel) ⟨Nat.le_of_ble_eq_true rfl, Nat.le_of_ble_eq_true rfl⟩) 0 rfl rfl rfl rfl hl.1 rfl (Nat.le_of_ble_eq_true rfl) ⟨Nat.zero_le _, Nat.zero_le _⟩ dX4_digest_33 (fun H locs hP hS => ?_)
              have hP : va_P D vwCl (wsM A cI cB I (vp_updL J 28 (mx (mixN (fun w => mStroke F (I 6) n fd k (nI w)) (mDigS F (I 6) n fd k) q) (mStroke F (I 6) n fd k (nI q)))) (va_up F 15 (mDScr F (I 6) n k))) H := hP
              have hD : va_D (FPw (wsM A cI cB I J F)) (wsM A cI cB I (vp_updL J 28 (mx (mixN (fun w => mStroke F (I 6) n fd k (nI w)) (mDigS F (I 6) n fd k) q) (mStroke F (I 6) n fd k (nI q)))) (va_up F 15 (mDScr F (I 6) n k))) := va_D_addr (ws := (wsM A cI cB I (vp_updL J 28 (mixN (fun w => mStroke F (I 6) n fd k (nI w)) (mDigS F (I 6) n fd k) q)) (va_up F 15 (mDScr F (I 6) n k)))) (wsM_fst.trans wsM_fst.symm) hD
              refine lv_iinc (v := (nI (q + 1))) (lv' := [(2, .int (nI (q + 1))), (0, .ref (A 0)), (1, .int (nI k))]) hx hb dX4_digest_36 hl (k := 2) rfl (nI_add q 1) (by decide) rfl (fun ls hl => ?_)
              refine lv_goto (tgt := 19) hx hb dX4_digest_39 (by decide) ?_
              have hP9 : va_P D vwCl (wsM A cI cB I (vp_updL J 28 (mixN (fun w => mStroke F (I 6) n fd k (nI w)) (mDigS F (I 6) n fd k) (q + 1))) (va_up F 15 (mDScr F (I 6) n k))) H := by exact hP
              exact ih_19 (q + 1) (nI (q + 1)) rfl (by omega) (by omega) H locs hP9 hS ls (lv_sub hl [1, 2, 0] rfl)
        have hP9 : va_P D vwCl (wsM A cI cB I (vp_updL J 28 (mixN (fun w => mStroke F (I 6) n fd k (nI w)) (mDigS F (I 6) n fd k) 0)) (va_up F 15 (mDScr F (I 6) n k))) H := by exact hP
        exact loop_19 ((6 - 0) + 1) 0 (0 : Int32) rfl (by omega) (by omega) H locs hP9 hS ls (lv_sub hl [1, 2, 0] rfl)
  have hP9 : va_P D vwCl (wsM A cI cB I (vp_updL J 28 (mDigS F (I 6) n fd 0)) (va_up F 15 (mDScr F (I 6) n 0))) H := by exact hP
  exact loop_9 ((n - 0) + 1) 0 (0 : Int32) rfl (by omega) (by omega) H locs hP9 hS ls (lv_sub hl [1, 0] rfl)
