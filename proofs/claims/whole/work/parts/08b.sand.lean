set_option maxHeartbeats 1000000 in
set_option maxRecDepth 100000 in
theorem c_X4_sandNow (l : Launch) (D : va_G) (cI cB cS : ClassId) {A : Nat → Nat} {I : Nat → Int32} {J : Nat → Int64} {F : Nat → Nat → Int32} {n : Nat} (hn : n ≤ 6) (h1 : I 1 = nI n) (p0 p1 p2 : Int32) : Met l yX4_sandNow (Wm yX4_sandNow cX4_sandNow 8 (some .int)) ({ frames := 5, cells := 0, slots := 0, locals := 120 }) (va_Pc [.ref (A 0), .int p0, .int p1, .int p2] (PW D (TYS cI cB cS) (wsM A cI cB I J F))) (QcW D (some (.int (mSand F (I 6) n p0 p1 p2))) (wsM A cI cB I J F) (wsM A cI cB I J F)) 0 0 (FPw (wsM A cI cB I J F)) := by
  refine metW (by decide) [.ref (A 0), .int p0, .int p1, .int p2] (Nat.le_of_ble_eq_true rfl) ?_
  intro p e s m args below meth c hx hb hml hr hlk hown hts hKK hP hD hS ls hl
  obtain ⟨hK, hN⟩ := id hKK
  have hl : lv_has ls 8 [(0, .ref (A 0)), (1, .int p0), (2, .int p1), (3, .int p2)] := hl
  have h2n := two_n hn
  refine lv_aload_n hx hb dX4_sandNow_0 rfl (lv_at hl 0 rfl) ?_
  refine va_get (D := D) (ci := 4) (v := .int (I 6)) (C := RX4) (T := TX4) (N := 29) hx hb hts inlX4 hown hK hP 0 rfl rfl 6 (by decide) (hts _ kw_253) (fun _ h9 => h9) rfl dX4_sandNow_1 ?_
  refine lv_istore (lv' := [(4, .int (I 6)), (0, .ref (A 0)), (1, .int p0), (2, .int p1), (3, .int p2)]) hx hb dX4_sandNow_4 hl (by decide) rfl (fun ls hl => ?_)
  refine lv_iconst (v := (-1 : Int32)) hx hb dX4_sandNow_6 (by decide) ?_
  refine lv_istore (lv' := [(5, .int (-1 : Int32)), (4, .int (I 6)), (0, .ref (A 0)), (1, .int p0), (2, .int p1), (3, .int p2)]) hx hb dX4_sandNow_7 hl (by decide) rfl (fun ls hl => ?_)
  refine lv_iconst (v := (0 : Int32)) hx hb dX4_sandNow_9 (by decide) ?_
  refine lv_istore (lv' := [(6, .int (0 : Int32)), (5, .int (-1 : Int32)), (4, .int (I 6)), (0, .ref (A 0)), (1, .int p0), (2, .int p1), (3, .int p2)]) hx hb dX4_sandNow_10 hl (by decide) rfl (fun ls hl => ?_)
  have loop_12 : ∀ (z : Nat) (t : Nat) (x5 : Int32) (x6 : Int32), x5 = mSandB F (I 6) n p0 p1 t → x6 = nI t → (t ≤ 2 ^ n) → 2 ^ n - t < z → ∀ (H : Heap) (locs : List Loc), va_P D vwCl (wsM A cI cB (upd I 6 (mWs (I 6) t)) J F) H → va_S (FPw (wsM A cI cB I J F)) s.heap H locs → ∀ (ls : Array Slot), lv_has ls 8 [(0, .ref (A 0)), (1, .int p0), (2, .int p1), (3, .int p2), (4, .int (I 6)), (5, .int x5), (6, .int x6)] → W p l e ({ frames := 5, cells := 0, slots := 0, locals := 120 } : Room) s m args below meth c H locs 0 0 (MQ below (QcW D (some (.int (mSand F (I 6) n p0 p1 p2))) (wsM A cI cB I J F) (wsM A cI cB I J F)) args s 0 0 (FPw (wsM A cI cB I J F))) (F0 m 12 ls []) := by
    intro z
    induction z with
    | zero =>
      intro t x5 x6 ex5 ex6 ht hz
      exact absurd hz (Nat.not_lt_zero _)
    | succ z ih_12 =>
      intro t x5 x6 ex5 ex6 ht hz H locs hP hS ls hl
      subst ex5
      subst ex6
      have hD := va_D_addr (ws := (wsM A cI cB I J F)) (ws' := (wsM A cI cB (upd I 6 (mWs (I 6) t)) J F)) rfl hD
      refine lv_iload hx hb dX4_sandNow_12 (lv_at hl 6 rfl) ?_
      refine lv_iconst (v := (1 : Int32)) hx hb dX4_sandNow_14 (by decide) ?_
      refine lv_aload_n hx hb dX4_sandNow_15 rfl (lv_at hl 0 rfl) ?_
      refine va_get (D := D) (ci := 4) (v := .int (I 1)) (C := RX4) (T := TX4) (N := 29) hx hb hts inlX4 hown hK hP 0 rfl rfl 1 (by decide) (hts _ kw_251) (fun _ h9 => h9) rfl dX4_sandNow_16 ?_
      refine topE (z := (nI n)) h1 ?_
      refine lv_ishl hx hb dX4_sandNow_19 ?_
      refine topE (z := (nI (2 ^ n))) (by exact shl_n hn) ?_
      refine lv_icmp_ge (tgt := 95) hx hb dX4_sandNow_20 (by decide) (fun c_1 => ?_) (fun c_1 => ?_)
      · have nc_1 : (2 ^ n) ≤ t := (nI_leI (a := (2 ^ n)) (b := t) (by omega) (by omega)).mp c_1
        refine lv_aload_n hx hb dX4_sandNow_95 rfl (lv_at hl 0 rfl) ?_
        refine lv_iload hx hb dX4_sandNow_96 (lv_at hl 4 rfl) ?_
        refine va_put (D := D) (ci := 4) (v := .int (I 6)) (ty := tyX4 6) (C := RX4) (T := TX4) (N := 29) hx hb hts inlX4 tyX4 tyX4_ok nmX4 hown hK hP hD hS 0 rfl rfl 6 (by decide) (hts _ kw_253) (fun _ h9 => h9) rfl (tyX4_ok 6 (by decide)) rfl rfl (Nat.le_of_ble_eq_true rfl) dX4_sandNow_98 (fun H locs hP hD hS => ?_)
        have hP : va_P D vwCl (wsM A cI cB (upd I 6 (I 6)) J F) H := hP
        have hD : va_D (FPw (wsM A cI cB I J F)) (wsM A cI cB (upd I 6 (I 6)) J F) := hD
        refine lv_iload_n hx hb dX4_sandNow_101 rfl (lv_at hl 3 rfl) ?_
        refine lv_iconst (v := (1 : Int32)) hx hb dX4_sandNow_102 (by decide) ?_
        refine lv_icmp_ne (tgt := 111) hx hb dX4_sandNow_103 (by decide) (fun c_2 => ?_) (fun c_2 => ?_)
        · refine lv_iload hx hb dX4_sandNow_111 (lv_at hl 5 rfl) ?_
          refine rcSi (As := [.int (mSandB F (I 6) n p0 p1 t)]) (rest := []) hx hb hml hown hts hKK hP (c_X4_size l D cI cB cS (mSandB F (I 6) n p0 p1 t)) (cwS2 1 hts kw_482 kw_6 kw_480 kw_481 rfl rfl (by decide +kernel) ⟨Nat.le_of_ble_eq_true rfl, Nat.le_of_ble_eq_true rfl⟩) rfl hl.1 rfl (Nat.le_of_ble_eq_true rfl) ⟨Nat.zero_le _, Nat.zero_le _⟩ dX4_sandNow_113 ?_
          exact retWi hx hb hr hlk hP hS dX4_sandNow_116 (by have htn : t = 2 ^ n := (by omega); subst htn; rw [mSand]; first | (rw [if_pos (by assumption)]; done) | (rw [if_neg (by assumption)]; done)) rfl
        · refine lv_iload hx hb dX4_sandNow_106 (lv_at hl 5 rfl) ?_
          refine lv_goto (tgt := 116) hx hb dX4_sandNow_108 (by decide) ?_
          exact retWi hx hb hr hlk hP hS dX4_sandNow_116 (by have htn : t = 2 ^ n := (by omega); subst htn; rw [mSand]; first | (rw [if_pos (by assumption)]; done) | (rw [if_neg (by assumption)]; done)) rfl
      · have nc_1 : ¬ (2 ^ n) ≤ t := fun h => c_1 ((nI_leI (a := (2 ^ n)) (b := t) (by omega) (by omega)).mpr h)
        refine lv_iload hx hb dX4_sandNow_23 (lv_at hl 6 rfl) ?_
        refine lv_iload hx hb dX4_sandNow_25 (lv_at hl 4 rfl) ?_
        refine lv_iand hx hb dX4_sandNow_27 ?_
        refine lv_if_ne (tgt := 54) hx hb dX4_sandNow_28 (by decide) (fun c_3 => ?_) (fun c_3 => ?_)
        · refine lv_iconst (v := (0 : Int32)) hx hb dX4_sandNow_54 (by decide) ?_
          refine lv_istore (lv' := [(7, .int (0 : Int32)), (0, .ref (A 0)), (1, .int p0), (2, .int p1), (3, .int p2), (4, .int (I 6)), (5, .int (mSandB F (I 6) n p0 p1 t)), (6, .int (nI t))]) hx hb dX4_sandNow_55 hl (by decide) rfl (fun ls hl => ?_)
          refine lv_aload_n hx hb dX4_sandNow_57 rfl (lv_at hl 1 rfl) ?_
          refine lv_iload hx hb dX4_sandNow_58 (lv_at hl 5 rfl) ?_
          refine lv_iload hx hb dX4_sandNow_60 (lv_at hl 7 rfl) ?_
          refine lv_ior hx hb dX4_sandNow_62 ?_
          refine va_put (D := D) (ci := 4) (v := .int ((I 6) ||| nI t)) (ty := tyX4 6) (C := RX4) (T := TX4) (N := 29) hx hb hts inlX4 tyX4 tyX4_ok nmX4 hown hK hP hD hS 0 rfl rfl 6 (by decide) (hts _ kw_253) (fun _ h9 => h9) rfl (tyX4_ok 6 (by decide)) rfl rfl (Nat.le_of_ble_eq_true rfl) dX4_sandNow_63 (fun H locs hP hD hS => ?_)
          have hP : va_P D vwCl (wsM A cI cB (upd I 6 ((I 6) ||| nI t)) J F) H := hP
          have hD : va_D (FPw (wsM A cI cB I J F)) (wsM A cI cB (upd I 6 ((I 6) ||| nI t)) J F) := hD
          have hz : (I 6 ||| nI t) = mWs (I 6) (t + 1) := rfl
          refine lv_iload hx hb dX4_sandNow_66 (lv_at hl 0 rfl) ?_
          refine lv_if_eq (tgt := 85) hx hb dX4_sandNow_68 (by decide) (fun c_4 => ?_) (fun c_4 => ?_)
          · refine lv_iload hx hb dX4_sandNow_85 (lv_at hl 6 rfl) ?_
            refine lv_istore (lv' := [(5, .int (mSandB F (I 6) n p0 p1 t)), (7, .int (0 : Int32)), (0, .ref (A 0)), (1, .int p0), (2, .int p1), (3, .int p2), (4, .int (I 6)), (6, .int (nI t))]) hx hb dX4_sandNow_87 hl (by decide) rfl (fun ls hl => ?_)
            refine lv_iinc (v := (nI (t + 1))) (lv' := [(6, .int (nI (t + 1))), (5, .int (mSandB F (I 6) n p0 p1 t)), (7, .int (0 : Int32)), (0, .ref (A 0)), (1, .int p0), (2, .int p1), (3, .int p2), (4, .int (I 6))]) hx hb dX4_sandNow_89 hl (k := 7) rfl (nI_add t 1) (by decide) rfl (fun ls hl => ?_)
            refine lv_goto (tgt := 12) hx hb dX4_sandNow_92 (by decide) ?_
            have hP9 : va_P D vwCl (wsM A cI cB (upd I 6 (mWs (I 6) (t + 1))) J F) H := by exact hP
            exact ih_12 (t + 1) (mSandB F (I 6) n p0 p1 t) (nI (t + 1)) (by rw [mSandB]; first | (rw [if_pos (by grind)]; done) | (rw [if_neg (by grind)]; done)) rfl (by omega) (by omega) H locs hP9 hS ls (lv_sub hl [3, 4, 5, 6, 7, 1, 0] rfl)
          · exact absurd c_4 (by decide)
        · refine lv_iload hx hb dX4_sandNow_31 (lv_at hl 5 rfl) ?_
          refine lv_iconst (v := (-1 : Int32)) hx hb dX4_sandNow_33 (by decide) ?_
          refine lv_icmp_eq (tgt := 50) hx hb dX4_sandNow_34 (by decide) (fun c_5 => ?_) (fun c_5 => ?_)
          · refine lv_iconst (v := (1 : Int32)) hx hb dX4_sandNow_50 (by decide) ?_
            refine lv_goto (tgt := 55) hx hb dX4_sandNow_51 (by decide) ?_
            refine lv_istore (lv' := [(7, .int (1 : Int32)), (0, .ref (A 0)), (1, .int p0), (2, .int p1), (3, .int p2), (4, .int (I 6)), (5, .int (mSandB F (I 6) n p0 p1 t)), (6, .int (nI t))]) hx hb dX4_sandNow_55 hl (by decide) rfl (fun ls hl => ?_)
            refine lv_aload_n hx hb dX4_sandNow_57 rfl (lv_at hl 1 rfl) ?_
            refine lv_iload hx hb dX4_sandNow_58 (lv_at hl 5 rfl) ?_
            refine lv_iload hx hb dX4_sandNow_60 (lv_at hl 7 rfl) ?_
            refine lv_ior hx hb dX4_sandNow_62 ?_
            refine va_put (D := D) (ci := 4) (v := .int ((I 6) ||| nI t)) (ty := tyX4 6) (C := RX4) (T := TX4) (N := 29) hx hb hts inlX4 tyX4 tyX4_ok nmX4 hown hK hP hD hS 0 rfl rfl 6 (by decide) (hts _ kw_253) (fun _ h9 => h9) rfl (tyX4_ok 6 (by decide)) rfl rfl (Nat.le_of_ble_eq_true rfl) dX4_sandNow_63 (fun H locs hP hD hS => ?_)
            have hP : va_P D vwCl (wsM A cI cB (upd I 6 ((I 6) ||| nI t)) J F) H := hP
            have hD : va_D (FPw (wsM A cI cB I J F)) (wsM A cI cB (upd I 6 ((I 6) ||| nI t)) J F) := hD
            have hz : (I 6 ||| nI t) = mWs (I 6) (t + 1) := rfl
            refine lv_iload hx hb dX4_sandNow_66 (lv_at hl 0 rfl) ?_
            refine lv_if_eq (tgt := 85) hx hb dX4_sandNow_68 (by decide) (fun c_6 => ?_) (fun c_6 => ?_)
            · exact absurd c_6 (by decide)
            · refine lv_aload_n hx hb dX4_sandNow_71 rfl (lv_at hl 1 rfl) ?_
              refine lv_iload_n hx hb dX4_sandNow_72 rfl (lv_at hl 2 rfl) ?_
              refine lv_iload_n hx hb dX4_sandNow_73 rfl (lv_at hl 3 rfl) ?_
              refine rcVi (As := [.int p0, .int p1]) (rest := []) hx hb hml hown hts hKK hP (c_X4_isDryAt l D cI cB cS hn (show (upd I 6 ((I 6) ||| nI t)) 1 = nI n from h1) p0 p1) (cwV2 2 hts kw_486 kw_6 kw_483 kw_484 kw_485 rfl rfl (by decide +kernel) ⟨Nat.le_of_ble_eq_true rfl, Nat.le_of_ble_eq_true rfl⟩) 0 rfl rfl rfl rfl hl.1 rfl (Nat.le_of_ble_eq_true rfl) ⟨Nat.zero_le _, Nat.zero_le _⟩ dX4_sandNow_74 ?_
              refine topE (z := (b2 (mDryAt F ((I 6) ||| nI t) n p0 p1))) rfl ?_
              refine lv_if_eq (tgt := 85) hx hb dX4_sandNow_77 (by decide) (fun c_7 => ?_) (fun c_7 => ?_)
              · have c_7 := b2_z c_7
                refine lv_iload hx hb dX4_sandNow_85 (lv_at hl 6 rfl) ?_
                refine lv_istore (lv' := [(5, .int (mSandB F (I 6) n p0 p1 t)), (7, .int (1 : Int32)), (0, .ref (A 0)), (1, .int p0), (2, .int p1), (3, .int p2), (4, .int (I 6)), (6, .int (nI t))]) hx hb dX4_sandNow_87 hl (by decide) rfl (fun ls hl => ?_)
                refine lv_iinc (v := (nI (t + 1))) (lv' := [(6, .int (nI (t + 1))), (5, .int (mSandB F (I 6) n p0 p1 t)), (7, .int (1 : Int32)), (0, .ref (A 0)), (1, .int p0), (2, .int p1), (3, .int p2), (4, .int (I 6))]) hx hb dX4_sandNow_89 hl (k := 7) rfl (nI_add t 1) (by decide) rfl (fun ls hl => ?_)
                refine lv_goto (tgt := 12) hx hb dX4_sandNow_92 (by decide) ?_
                have hP9 : va_P D vwCl (wsM A cI cB (upd I 6 (mWs (I 6) (t + 1))) J F) H := by exact hP
                exact ih_12 (t + 1) (mSandB F (I 6) n p0 p1 t) (nI (t + 1)) (by rw [mSandB]; first | (rw [if_pos (by grind)]; done) | (rw [if_neg (by grind)]; done)) rfl (by omega) (by omega) H locs hP9 hS ls (lv_sub hl [3, 4, 5, 6, 7, 1, 0] rfl)
              · have c_7 := b2_nz c_7
                refine lv_iload hx hb dX4_sandNow_80 (lv_at hl 7 rfl) ?_
                refine lv_goto (tgt := 87) hx hb dX4_sandNow_82 (by decide) ?_
                refine lv_istore (lv' := [(5, .int (nI t)), (7, .int (1 : Int32)), (0, .ref (A 0)), (1, .int p0), (2, .int p1), (3, .int p2), (4, .int (I 6)), (6, .int (nI t))]) hx hb dX4_sandNow_87 hl (by decide) rfl (fun ls hl => ?_)
                refine lv_iinc (v := (nI (t + 1))) (lv' := [(6, .int (nI (t + 1))), (5, .int (nI t)), (7, .int (1 : Int32)), (0, .ref (A 0)), (1, .int p0), (2, .int p1), (3, .int p2), (4, .int (I 6))]) hx hb dX4_sandNow_89 hl (k := 7) rfl (nI_add t 1) (by decide) rfl (fun ls hl => ?_)
                refine lv_goto (tgt := 12) hx hb dX4_sandNow_92 (by decide) ?_
                have hP9 : va_P D vwCl (wsM A cI cB (upd I 6 (mWs (I 6) (t + 1))) J F) H := by exact hP
                exact ih_12 (t + 1) (nI t) (nI (t + 1)) (by rw [mSandB]; first | (rw [if_pos (by grind)]; done) | (rw [if_neg (by grind)]; done)) rfl (by omega) (by omega) H locs hP9 hS ls (lv_sub hl [3, 4, 5, 6, 7, 1, 0] rfl)
          · refine lv_iload hx hb dX4_sandNow_37 (lv_at hl 6 rfl) ?_
            refine rcSi (As := [.int (nI t)]) (rest := []) hx hb hml hown hts hKK hP (c_X4_size l D cI cB cS (nI t)) (cwS2 1 hts kw_482 kw_6 kw_480 kw_481 rfl rfl (by decide +kernel) ⟨Nat.le_of_ble_eq_true rfl, Nat.le_of_ble_eq_true rfl⟩) rfl hl.1 rfl (Nat.le_of_ble_eq_true rfl) ⟨Nat.zero_le _, Nat.zero_le _⟩ dX4_sandNow_39 ?_
            refine lv_iload hx hb dX4_sandNow_42 (lv_at hl 5 rfl) ?_
            refine rcSi (As := [.int (mSandB F (I 6) n p0 p1 t)]) (rest := [.int (mSize (nI t))]) hx hb hml hown hts hKK hP (c_X4_size l D cI cB cS (mSandB F (I 6) n p0 p1 t)) (cwS2 1 hts kw_482 kw_6 kw_480 kw_481 rfl rfl (by decide +kernel) ⟨Nat.le_of_ble_eq_true rfl, Nat.le_of_ble_eq_true rfl⟩) rfl hl.1 rfl (Nat.le_of_ble_eq_true rfl) ⟨Nat.zero_le _, Nat.zero_le _⟩ dX4_sandNow_44 ?_
            refine lv_icmp_ge (tgt := 54) hx hb dX4_sandNow_47 (by decide) (fun c_8 => ?_) (fun c_8 => ?_)
            · refine lv_iconst (v := (0 : Int32)) hx hb dX4_sandNow_54 (by decide) ?_
              refine lv_istore (lv' := [(7, .int (0 : Int32)), (0, .ref (A 0)), (1, .int p0), (2, .int p1), (3, .int p2), (4, .int (I 6)), (5, .int (mSandB F (I 6) n p0 p1 t)), (6, .int (nI t))]) hx hb dX4_sandNow_55 hl (by decide) rfl (fun ls hl => ?_)
              refine lv_aload_n hx hb dX4_sandNow_57 rfl (lv_at hl 1 rfl) ?_
              refine lv_iload hx hb dX4_sandNow_58 (lv_at hl 5 rfl) ?_
              refine lv_iload hx hb dX4_sandNow_60 (lv_at hl 7 rfl) ?_
              refine lv_ior hx hb dX4_sandNow_62 ?_
              refine va_put (D := D) (ci := 4) (v := .int ((I 6) ||| nI t)) (ty := tyX4 6) (C := RX4) (T := TX4) (N := 29) hx hb hts inlX4 tyX4 tyX4_ok nmX4 hown hK hP hD hS 0 rfl rfl 6 (by decide) (hts _ kw_253) (fun _ h9 => h9) rfl (tyX4_ok 6 (by decide)) rfl rfl (Nat.le_of_ble_eq_true rfl) dX4_sandNow_63 (fun H locs hP hD hS => ?_)
              have hP : va_P D vwCl (wsM A cI cB (upd I 6 ((I 6) ||| nI t)) J F) H := hP
              have hD : va_D (FPw (wsM A cI cB I J F)) (wsM A cI cB (upd I 6 ((I 6) ||| nI t)) J F) := hD
              have hz : (I 6 ||| nI t) = mWs (I 6) (t + 1) := rfl
              refine lv_iload hx hb dX4_sandNow_66 (lv_at hl 0 rfl) ?_
              refine lv_if_eq (tgt := 85) hx hb dX4_sandNow_68 (by decide) (fun c_9 => ?_) (fun c_9 => ?_)
              · refine lv_iload hx hb dX4_sandNow_85 (lv_at hl 6 rfl) ?_
                refine lv_istore (lv' := [(5, .int (mSandB F (I 6) n p0 p1 t)), (7, .int (0 : Int32)), (0, .ref (A 0)), (1, .int p0), (2, .int p1), (3, .int p2), (4, .int (I 6)), (6, .int (nI t))]) hx hb dX4_sandNow_87 hl (by decide) rfl (fun ls hl => ?_)
                refine lv_iinc (v := (nI (t + 1))) (lv' := [(6, .int (nI (t + 1))), (5, .int (mSandB F (I 6) n p0 p1 t)), (7, .int (0 : Int32)), (0, .ref (A 0)), (1, .int p0), (2, .int p1), (3, .int p2), (4, .int (I 6))]) hx hb dX4_sandNow_89 hl (k := 7) rfl (nI_add t 1) (by decide) rfl (fun ls hl => ?_)
                refine lv_goto (tgt := 12) hx hb dX4_sandNow_92 (by decide) ?_
                have hP9 : va_P D vwCl (wsM A cI cB (upd I 6 (mWs (I 6) (t + 1))) J F) H := by exact hP
                exact ih_12 (t + 1) (mSandB F (I 6) n p0 p1 t) (nI (t + 1)) (by rw [mSandB]; first | (rw [if_pos (by grind)]; done) | (rw [if_neg (by grind)]; done)) rfl (by omega) (by omega) H locs hP9 hS ls (lv_sub hl [3, 4, 5, 6, 7, 1, 0] rfl)
              · exact absurd c_9 (by decide)
            · refine lv_iconst (v := (1 : Int32)) hx hb dX4_sandNow_50 (by decide) ?_
              refine lv_goto (tgt := 55) hx hb dX4_sandNow_51 (by decide) ?_
              refine lv_istore (lv' := [(7, .int (1 : Int32)), (0, .ref (A 0)), (1, .int p0), (2, .int p1), (3, .int p2), (4, .int (I 6)), (5, .int (mSandB F (I 6) n p0 p1 t)), (6, .int (nI t))]) hx hb dX4_sandNow_55 hl (by decide) rfl (fun ls hl => ?_)
              refine lv_aload_n hx hb dX4_sandNow_57 rfl (lv_at hl 1 rfl) ?_
              refine lv_iload hx hb dX4_sandNow_58 (lv_at hl 5 rfl) ?_
              refine lv_iload hx hb dX4_sandNow_60 (lv_at hl 7 rfl) ?_
              refine lv_ior hx hb dX4_sandNow_62 ?_
              refine va_put (D := D) (ci := 4) (v := .int ((I 6) ||| nI t)) (ty := tyX4 6) (C := RX4) (T := TX4) (N := 29) hx hb hts inlX4 tyX4 tyX4_ok nmX4 hown hK hP hD hS 0 rfl rfl 6 (by decide) (hts _ kw_253) (fun _ h9 => h9) rfl (tyX4_ok 6 (by decide)) rfl rfl (Nat.le_of_ble_eq_true rfl) dX4_sandNow_63 (fun H locs hP hD hS => ?_)
              have hP : va_P D vwCl (wsM A cI cB (upd I 6 ((I 6) ||| nI t)) J F) H := hP
              have hD : va_D (FPw (wsM A cI cB I J F)) (wsM A cI cB (upd I 6 ((I 6) ||| nI t)) J F) := hD
              have hz : (I 6 ||| nI t) = mWs (I 6) (t + 1) := rfl
              refine lv_iload hx hb dX4_sandNow_66 (lv_at hl 0 rfl) ?_
              refine lv_if_eq (tgt := 85) hx hb dX4_sandNow_68 (by decide) (fun c_10 => ?_) (fun c_10 => ?_)
              · exact absurd c_10 (by decide)
              · refine lv_aload_n hx hb dX4_sandNow_71 rfl (lv_at hl 1 rfl) ?_
                refine lv_iload_n hx hb dX4_sandNow_72 rfl (lv_at hl 2 rfl) ?_
                refine lv_iload_n hx hb dX4_sandNow_73 rfl (lv_at hl 3 rfl) ?_
                refine rcVi (As := [.int p0, .int p1]) (rest := []) hx hb hml hown hts hKK hP (c_X4_isDryAt l D cI cB cS hn (show (upd I 6 ((I 6) ||| nI t)) 1 = nI n from h1) p0 p1) (cwV2 2 hts kw_486 kw_6 kw_483 kw_484 kw_485 rfl rfl (by decide +kernel) ⟨Nat.le_of_ble_eq_true rfl, Nat.le_of_ble_eq_true rfl⟩) 0 rfl rfl rfl rfl hl.1 rfl (Nat.le_of_ble_eq_true rfl) ⟨Nat.zero_le _, Nat.zero_le _⟩ dX4_sandNow_74 ?_
                refine topE (z := (b2 (mDryAt F ((I 6) ||| nI t) n p0 p1))) rfl ?_
                refine lv_if_eq (tgt := 85) hx hb dX4_sandNow_77 (by decide) (fun c_11 => ?_) (fun c_11 => ?_)
                · have c_11 := b2_z c_11
                  refine lv_iload hx hb dX4_sandNow_85 (lv_at hl 6 rfl) ?_
                  refine lv_istore (lv' := [(5, .int (mSandB F (I 6) n p0 p1 t)), (7, .int (1 : Int32)), (0, .ref (A 0)), (1, .int p0), (2, .int p1), (3, .int p2), (4, .int (I 6)), (6, .int (nI t))]) hx hb dX4_sandNow_87 hl (by decide) rfl (fun ls hl => ?_)
                  refine lv_iinc (v := (nI (t + 1))) (lv' := [(6, .int (nI (t + 1))), (5, .int (mSandB F (I 6) n p0 p1 t)), (7, .int (1 : Int32)), (0, .ref (A 0)), (1, .int p0), (2, .int p1), (3, .int p2), (4, .int (I 6))]) hx hb dX4_sandNow_89 hl (k := 7) rfl (nI_add t 1) (by decide) rfl (fun ls hl => ?_)
                  refine lv_goto (tgt := 12) hx hb dX4_sandNow_92 (by decide) ?_
                  have hP9 : va_P D vwCl (wsM A cI cB (upd I 6 (mWs (I 6) (t + 1))) J F) H := by exact hP
                  exact ih_12 (t + 1) (mSandB F (I 6) n p0 p1 t) (nI (t + 1)) (by rw [mSandB]; first | (rw [if_pos (by grind)]; done) | (rw [if_neg (by grind)]; done)) rfl (by omega) (by omega) H locs hP9 hS ls (lv_sub hl [3, 4, 5, 6, 7, 1, 0] rfl)
                · have c_11 := b2_nz c_11
                  refine lv_iload hx hb dX4_sandNow_80 (lv_at hl 7 rfl) ?_
                  refine lv_goto (tgt := 87) hx hb dX4_sandNow_82 (by decide) ?_
                  refine lv_istore (lv' := [(5, .int (nI t)), (7, .int (1 : Int32)), (0, .ref (A 0)), (1, .int p0), (2, .int p1), (3, .int p2), (4, .int (I 6)), (6, .int (nI t))]) hx hb dX4_sandNow_87 hl (by decide) rfl (fun ls hl => ?_)
                  refine lv_iinc (v := (nI (t + 1))) (lv' := [(6, .int (nI (t + 1))), (5, .int (nI t)), (7, .int (1 : Int32)), (0, .ref (A 0)), (1, .int p0), (2, .int p1), (3, .int p2), (4, .int (I 6))]) hx hb dX4_sandNow_89 hl (k := 7) rfl (nI_add t 1) (by decide) rfl (fun ls hl => ?_)
                  refine lv_goto (tgt := 12) hx hb dX4_sandNow_92 (by decide) ?_
                  have hP9 : va_P D vwCl (wsM A cI cB (upd I 6 (mWs (I 6) (t + 1))) J F) H := by exact hP
                  exact ih_12 (t + 1) (nI t) (nI (t + 1)) (by rw [mSandB]; first | (rw [if_pos (by grind)]; done) | (rw [if_neg (by grind)]; done)) rfl (by omega) (by omega) H locs hP9 hS ls (lv_sub hl [3, 4, 5, 6, 7, 1, 0] rfl)
  have hP9 : va_P D vwCl (wsM A cI cB (upd I 6 (mWs (I 6) 0)) J F) s.heap := by exact hP
  exact loop_12 ((2 ^ n - 0) + 1) 0 (-1 : Int32) (0 : Int32) rfl rfl (by exact Nat.zero_le _) (by omega) s.heap [] hP9 hS ls (lv_sub hl [3, 4, 5, 6, 2, 1, 0] rfl)
set_option maxHeartbeats 1000000 in
set_option maxRecDepth 100000 in
theorem c_X4_toSand (l : Launch) (D : va_G) (cI cB cS : ClassId) {A : Nat → Nat} {I : Nat → Int32} {J : Nat → Int64} {F : Nat → Nat → Int32} {n : Nat} (hn : n ≤ 6) (h1 : I 1 = nI n) (p0 p1 p2 : Int32) : Met l yX4_toSand (Wm yX4_toSand cX4_toSand 4 (some .int)) ({ frames := 6, cells := 0, slots := 0, locals := 147 }) (va_Pc [.ref (A 0), .int p0, .int p1, .int p2] (PW D (TYS cI cB cS) (wsM A cI cB I J F))) (QcW D (some (.int (mToSand F (I 6) n p0 p1 p2))) (wsM A cI cB I J F) (wsM A cI cB I J F)) 0 0 (FPw (wsM A cI cB I J F)) := by
  refine metW (by decide) [.ref (A 0), .int p0, .int p1, .int p2] (Nat.le_of_ble_eq_true rfl) ?_
  intro p e s m args below meth c hx hb hml hr hlk hown hts hKK hP hD hS ls hl
  obtain ⟨hK, hN⟩ := id hKK
  have hl : lv_has ls 4 [(0, .ref (A 0)), (1, .int p0), (2, .int p1), (3, .int p2)] := hl
  refine lv_iload_n hx hb dX4_toSand_0 rfl (lv_at hl 1 rfl) ?_
  refine rcSi (As := [.int p0]) (rest := []) hx hb hml hown hts hKK hP (c_X4_isMinute l D cI cB cS p0) (cwS2 1 hts kw_383 kw_6 kw_381 kw_382 rfl rfl (by decide +kernel) ⟨Nat.le_of_ble_eq_true rfl, Nat.le_of_ble_eq_true rfl⟩) rfl hl.1 rfl (Nat.le_of_ble_eq_true rfl) ⟨Nat.zero_le _, Nat.zero_le _⟩ dX4_toSand_1 ?_
  refine lv_if_eq (tgt := 27) hx hb dX4_toSand_4 (by decide) (fun c_1 => ?_) (fun c_1 => ?_)
  · have c_1 := b2_z c_1
    refine lv_bipush (v := (-102 : Int32)) hx hb dX4_toSand_27 (by decide) ?_
    exact retWi hx hb hr hlk hP hS dX4_toSand_29 (by grind [mToSand]) rfl
  · have c_1 := b2_nz c_1
    refine lv_iload_n hx hb dX4_toSand_7 rfl (lv_at hl 2 rfl) ?_
    refine lv_iconst (v := (0 : Int32)) hx hb dX4_toSand_8 (by decide) ?_
    refine lv_sipush (v := (1023 : Int32)) hx hb dX4_toSand_9 (by decide) ?_
    refine rcSi (As := [.int p1, .int (0 : Int32), .int (1023 : Int32)]) (rest := []) hx hb hml hown hts hKK hP (c_X4_within l D cI cB cS p1 (0 : Int32) (1023 : Int32)) (cwS2 3 hts kw_90 kw_6 kw_88 kw_89 rfl rfl (by decide +kernel) ⟨Nat.le_of_ble_eq_true rfl, Nat.le_of_ble_eq_true rfl⟩) rfl hl.1 rfl (Nat.le_of_ble_eq_true rfl) ⟨Nat.zero_le _, Nat.zero_le _⟩ dX4_toSand_12 ?_
    refine lv_if_eq (tgt := 27) hx hb dX4_toSand_15 (by decide) (fun c_2 => ?_) (fun c_2 => ?_)
    · have c_2 := b2_z c_2
      refine lv_bipush (v := (-102 : Int32)) hx hb dX4_toSand_27 (by decide) ?_
      exact retWi hx hb hr hlk hP hS dX4_toSand_29 (by grind [mToSand]) rfl
    · have c_2 := b2_nz c_2
      refine lv_iload_n hx hb dX4_toSand_18 rfl (lv_at hl 3 rfl) ?_
      refine lv_iconst (v := (0 : Int32)) hx hb dX4_toSand_19 (by decide) ?_
      refine lv_iconst (v := (1 : Int32)) hx hb dX4_toSand_20 (by decide) ?_
      refine rcSi (As := [.int p2, .int (0 : Int32), .int (1 : Int32)]) (rest := []) hx hb hml hown hts hKK hP (c_X4_within l D cI cB cS p2 (0 : Int32) (1 : Int32)) (cwS2 3 hts kw_90 kw_6 kw_88 kw_89 rfl rfl (by decide +kernel) ⟨Nat.le_of_ble_eq_true rfl, Nat.le_of_ble_eq_true rfl⟩) rfl hl.1 rfl (Nat.le_of_ble_eq_true rfl) ⟨Nat.zero_le _, Nat.zero_le _⟩ dX4_toSand_21 ?_
      refine lv_if_ne (tgt := 30) hx hb dX4_toSand_24 (by decide) (fun c_3 => ?_) (fun c_3 => ?_)
      · have c_3 := b2_nz c_3
        refine lv_aload_n hx hb dX4_toSand_30 rfl (lv_at hl 0 rfl) ?_
        refine va_get (D := D) (ci := 4) (v := .int (I 1)) (C := RX4) (T := TX4) (N := 29) hx hb hts inlX4 hown hK hP 0 rfl rfl 1 (by decide) (hts _ kw_251) (fun _ h9 => h9) rfl dX4_toSand_31 ?_
        refine topE (z := (nI n)) h1 ?_
        refine lv_if_ne (tgt := 42) hx hb dX4_toSand_34 (by decide) (fun c_4 => ?_) (fun c_4 => ?_)
        · have nc_4 : ¬ n = 0 := fun h => c_4 ((nI_eq (a := n) (b := 0) (by omega) (by omega)).mpr h)
          refine lv_aload_n hx hb dX4_toSand_42 rfl (lv_at hl 0 rfl) ?_
          refine lv_iload_n hx hb dX4_toSand_43 rfl (lv_at hl 1 rfl) ?_
          refine lv_iload_n hx hb dX4_toSand_44 rfl (lv_at hl 2 rfl) ?_
          refine lv_iload_n hx hb dX4_toSand_45 rfl (lv_at hl 3 rfl) ?_
          refine wcVi (As := [.int p0, .int p1, .int p2]) (rest := []) hx hb hml hown hts hKK hP hD hS (c_X4_sandNow l D cI cB cS hn h1 p0 p1 p2) (cwV2 3 hts kw_479 kw_6 kw_476 kw_477 kw_478 rfl rfl (by decide +kernel) ⟨Nat.le_of_ble_eq_true rfl, Nat.le_of_ble_eq_true rfl⟩) 0 rfl rfl rfl rfl hl.1 rfl (Nat.le_of_ble_eq_true rfl) ⟨Nat.zero_le _, Nat.zero_le _⟩ dX4_toSand_46 (fun H locs hP hS => ?_)
          have hP : va_P D vwCl (wsM A cI cB I J F) H := hP
          have hD : va_D (FPw (wsM A cI cB I J F)) (wsM A cI cB I J F) := va_D_addr (ws := (wsM A cI cB I J F)) rfl hD
          refine topE (z := (mSand F (I 6) n p0 p1 p2)) rfl ?_
          exact retWi hx hb hr hlk hP hS dX4_toSand_49 (by grind [mToSand]) rfl
        · have nc_4 : n = 0 := (nI_eq (a := n) (b := 0) (by omega) (by omega)).mp c_4
          refine lv_bipush (v := (-103 : Int32)) hx hb dX4_toSand_37 (by decide) ?_
          refine lv_goto (tgt := 49) hx hb dX4_toSand_39 (by decide) ?_
          exact retWi hx hb hr hlk hP hS dX4_toSand_49 (by grind [mToSand]) rfl
      · have c_3 := b2_z c_3
        refine lv_bipush (v := (-102 : Int32)) hx hb dX4_toSand_27 (by decide) ?_
        exact retWi hx hb hr hlk hP hS dX4_toSand_29 (by grind [mToSand]) rfl
set_option maxHeartbeats 1000000 in
set_option maxRecDepth 100000 in
theorem c_X4_found (l : Launch) (D : va_G) (cI cB cS : ClassId) {A : Nat → Nat} {I : Nat → Int32} {J : Nat → Int64} {F : Nat → Nat → Int32} {n : Nat} (hn : n ≤ 6) (h1 : I 1 = nI n) {fd : Nat} (hfd : fd ≤ 6) (h9 : I 9 = nI fd) (p0 p1 p2 : Int32) : Met l yX4_found (Wm yX4_found cX4_found 4 (some .int)) ({ frames := 2, cells := 0, slots := 0, locals := 43 }) (va_Pc [.ref (A 0), .int p0, .int p1, .int p2] (PW D (TYS cI cB cS) (wsM A cI cB I J F))) (QcW D (some (.int (cFound n fd p0 p1 p2))) (wsM A cI cB I J F) (if 0 < n ∧ okCell p0 ∧ okMin p1 ∧ okMuch p2 ∧ fd < 6 then wsM A cI cB (upd I 9 (nI (fd + 1))) J (va_up (va_up (va_up F 10 (upd (F 10) fd p0)) 11 (upd (F 11) fd p1)) 12 (upd (F 12) fd p2)) else wsM A cI cB I J F)) 0 0 (FPw (wsM A cI cB I J F)) := by
  refine metW (by decide) [.ref (A 0), .int p0, .int p1, .int p2] (Nat.le_of_ble_eq_true rfl) ?_
  intro p e s m args below meth c hx hb hml hr hlk hown hts hKK hP hD hS ls hl
  obtain ⟨hK, hN⟩ := id hKK
  have hl : lv_has ls 4 [(0, .ref (A 0)), (1, .int p0), (2, .int p1), (3, .int p2)] := hl
  refine lv_aload_n hx hb dX4_found_0 rfl (lv_at hl 0 rfl) ?_
  refine lv_iload_n hx hb dX4_found_1 rfl (lv_at hl 1 rfl) ?_
  refine rcVi (As := [.int p0]) (rest := []) hx hb hml hown hts hKK hP (c_X4_isCell l D cI cB cS hn h1 p0) (cwV2 1 hts kw_399 kw_6 kw_396 kw_397 kw_398 rfl rfl (by decide +kernel) ⟨Nat.le_of_ble_eq_true rfl, Nat.le_of_ble_eq_true rfl⟩) 0 rfl rfl rfl rfl hl.1 rfl (Nat.le_of_ble_eq_true rfl) ⟨Nat.zero_le _, Nat.zero_le _⟩ dX4_found_2 ?_
  refine lv_if_ne (tgt := 11) hx hb dX4_found_5 (by decide) (fun c_1 => ?_) (fun c_1 => ?_)
  · have c_1 := b2_nz c_1
    refine lv_iload_n hx hb dX4_found_11 rfl (lv_at hl 2 rfl) ?_
    refine rcSi (As := [.int p1]) (rest := []) hx hb hml hown hts hKK hP (c_X4_isMinute l D cI cB cS p1) (cwS2 1 hts kw_383 kw_6 kw_381 kw_382 rfl rfl (by decide +kernel) ⟨Nat.le_of_ble_eq_true rfl, Nat.le_of_ble_eq_true rfl⟩) rfl hl.1 rfl (Nat.le_of_ble_eq_true rfl) ⟨Nat.zero_le _, Nat.zero_le _⟩ dX4_found_12 ?_
    refine lv_if_eq (tgt := 28) hx hb dX4_found_15 (by decide) (fun c_2 => ?_) (fun c_2 => ?_)
    · have c_2 := b2_z c_2
      refine lv_bipush (v := (-102 : Int32)) hx hb dX4_found_28 (by decide) ?_
      exact retWi hx hb hr hlk hP hS dX4_found_30 (by grind [cFound]) (by first | exact (if_pos (by grind)).symm | exact (if_neg (by grind)).symm)
    · have c_2 := b2_nz c_2
      refine lv_iload_n hx hb dX4_found_18 rfl (lv_at hl 3 rfl) ?_
      refine lv_iconst (v := (0 : Int32)) hx hb dX4_found_19 (by decide) ?_
      refine lv_bipush (v := (99 : Int32)) hx hb dX4_found_20 (by decide) ?_
      refine rcSi (As := [.int p2, .int (0 : Int32), .int (99 : Int32)]) (rest := []) hx hb hml hown hts hKK hP (c_X4_within l D cI cB cS p2 (0 : Int32) (99 : Int32)) (cwS2 3 hts kw_90 kw_6 kw_88 kw_89 rfl rfl (by decide +kernel) ⟨Nat.le_of_ble_eq_true rfl, Nat.le_of_ble_eq_true rfl⟩) rfl hl.1 rfl (Nat.le_of_ble_eq_true rfl) ⟨Nat.zero_le _, Nat.zero_le _⟩ dX4_found_22 ?_
      refine topE (z := (b2 (okMuch p2))) rfl ?_
      refine lv_if_ne (tgt := 31) hx hb dX4_found_25 (by decide) (fun c_3 => ?_) (fun c_3 => ?_)
      · have c_3 := b2_nz c_3
        refine lv_aload_n hx hb dX4_found_31 rfl (lv_at hl 0 rfl) ?_
        refine va_get (D := D) (ci := 4) (v := .int (I 9)) (C := RX4) (T := TX4) (N := 29) hx hb hts inlX4 hown hK hP 0 rfl rfl 9 (by decide) (hts _ kw_255) (fun _ h9 => h9) rfl dX4_found_32 ?_
        refine topE (z := (nI fd)) h9 ?_
        refine lv_bipush (v := (6 : Int32)) hx hb dX4_found_35 (by decide) ?_
        refine lv_icmp_ne (tgt := 43) hx hb dX4_found_37 (by decide) (fun c_4 => ?_) (fun c_4 => ?_)
        · have nc_4 : ¬ fd = 6 := fun h => c_4 ((nI_eq (a := fd) (b := 6) (by omega) (by omega)).mpr h)
          refine lv_aload_n hx hb dX4_found_43 rfl (lv_at hl 0 rfl) ?_
          refine va_get (D := D) (ci := 4) (v := .ref (A 10)) (C := RX4) (T := TX4) (N := 29) hx hb hts inlX4 hown hK hP 0 rfl rfl 10 (by decide) (hts _ kw_64) (fun _ h9 => h9) rfl dX4_found_44 ?_
          refine lv_aload_n hx hb dX4_found_47 rfl (lv_at hl 0 rfl) ?_
          refine va_get (D := D) (ci := 4) (v := .int (I 9)) (C := RX4) (T := TX4) (N := 29) hx hb hts inlX4 hown hK hP 0 rfl rfl 9 (by decide) (hts _ kw_255) (fun _ h9 => h9) rfl dX4_found_48 ?_
          refine topE (z := (nI fd)) h9 ?_
          refine lv_iload_n hx hb dX4_found_51 rfl (lv_at hl 1 rfl) ?_
          refine va_iast (D := D) hx hb hK hP hD hS 6 0 rfl rfl (vp_in_nI (by omega) (by omega)) dX4_found_52 (fun H locs hP hD hS => ?_)
          rw [nI_clamp (n := fd) (by omega)] at hP hD
          have hP : va_P D vwCl (wsM A cI cB I J (va_up F 10 (upd (F 10) fd p0))) H := hP
          have hD : va_D (FPw (wsM A cI cB I J F)) (wsM A cI cB I J (va_up F 10 (upd (F 10) fd p0))) := hD
          refine lv_aload_n hx hb dX4_found_53 rfl (lv_at hl 0 rfl) ?_
          refine va_get (D := D) (ci := 4) (v := .ref (A 11)) (C := RX4) (T := TX4) (N := 29) hx hb hts inlX4 hown hK hP 0 rfl rfl 11 (by decide) (hts _ kw_65) (fun _ h9 => h9) rfl dX4_found_54 ?_
          refine lv_aload_n hx hb dX4_found_57 rfl (lv_at hl 0 rfl) ?_
          refine va_get (D := D) (ci := 4) (v := .int (I 9)) (C := RX4) (T := TX4) (N := 29) hx hb hts inlX4 hown hK hP 0 rfl rfl 9 (by decide) (hts _ kw_255) (fun _ h9 => h9) rfl dX4_found_58 ?_
          refine topE (z := (nI fd)) h9 ?_
          refine lv_iload_n hx hb dX4_found_61 rfl (lv_at hl 2 rfl) ?_
          refine va_iast (D := D) hx hb hK hP hD hS 7 0 rfl rfl (vp_in_nI (by omega) (by omega)) dX4_found_62 (fun H locs hP hD hS => ?_)
          rw [nI_clamp (n := fd) (by omega)] at hP hD
          have hP : va_P D vwCl (wsM A cI cB I J (va_up (va_up F 10 (upd (F 10) fd p0)) 11 (upd (F 11) fd p1))) H := hP
          have hD : va_D (FPw (wsM A cI cB I J F)) (wsM A cI cB I J (va_up (va_up F 10 (upd (F 10) fd p0)) 11 (upd (F 11) fd p1))) := hD
          refine lv_aload_n hx hb dX4_found_63 rfl (lv_at hl 0 rfl) ?_
          refine va_get (D := D) (ci := 4) (v := .ref (A 12)) (C := RX4) (T := TX4) (N := 29) hx hb hts inlX4 hown hK hP 0 rfl rfl 12 (by decide) (hts _ kw_66) (fun _ h9 => h9) rfl dX4_found_64 ?_
          refine lv_aload_n hx hb dX4_found_67 rfl (lv_at hl 0 rfl) ?_
          refine va_get (D := D) (ci := 4) (v := .int (I 9)) (C := RX4) (T := TX4) (N := 29) hx hb hts inlX4 hown hK hP 0 rfl rfl 9 (by decide) (hts _ kw_255) (fun _ h9 => h9) rfl dX4_found_68 ?_
          refine topE (z := (nI fd)) h9 ?_
          refine lv_iload_n hx hb dX4_found_71 rfl (lv_at hl 3 rfl) ?_
          refine va_iast (D := D) hx hb hK hP hD hS 8 0 rfl rfl (vp_in_nI (by omega) (by omega)) dX4_found_72 (fun H locs hP hD hS => ?_)
          rw [nI_clamp (n := fd) (by omega)] at hP hD
          have hP : va_P D vwCl (wsM A cI cB I J (va_up (va_up (va_up F 10 (upd (F 10) fd p0)) 11 (upd (F 11) fd p1)) 12 (upd (F 12) fd p2))) H := hP
          have hD : va_D (FPw (wsM A cI cB I J F)) (wsM A cI cB I J (va_up (va_up (va_up F 10 (upd (F 10) fd p0)) 11 (upd (F 11) fd p1)) 12 (upd (F 12) fd p2))) := hD
          refine lv_aload_n hx hb dX4_found_73 rfl (lv_at hl 0 rfl) ?_
          refine lv_dup hx hb dX4_found_74 rfl ?_
          refine va_get (D := D) (ci := 4) (v := .int (I 9)) (C := RX4) (T := TX4) (N := 29) hx hb hts inlX4 hown hK hP 0 rfl rfl 9 (by decide) (hts _ kw_255) (fun _ h9 => h9) rfl dX4_found_75 ?_
          refine topE (z := (nI fd)) h9 ?_
          refine lv_iconst (v := (1 : Int32)) hx hb dX4_found_78 (by decide) ?_
          refine lv_iadd hx hb dX4_found_79 ?_
          refine topE (z := (nI (fd + 1))) (nI_add fd 1) ?_
          refine va_put (D := D) (ci := 4) (v := .int (nI (fd + 1))) (ty := tyX4 9) (C := RX4) (T := TX4) (N := 29) hx hb hts inlX4 tyX4 tyX4_ok nmX4 hown hK hP hD hS 0 rfl rfl 9 (by decide) (hts _ kw_255) (fun _ h9 => h9) rfl (tyX4_ok 9 (by decide)) rfl rfl (Nat.le_of_ble_eq_true rfl) dX4_found_80 (fun H locs hP hD hS => ?_)
          have hP : va_P D vwCl (wsM A cI cB (upd I 9 (nI (fd + 1))) J (va_up (va_up (va_up F 10 (upd (F 10) fd p0)) 11 (upd (F 11) fd p1)) 12 (upd (F 12) fd p2))) H := hP
          have hD : va_D (FPw (wsM A cI cB I J F)) (wsM A cI cB (upd I 9 (nI (fd + 1))) J (va_up (va_up (va_up F 10 (upd (F 10) fd p0)) 11 (upd (F 11) fd p1)) 12 (upd (F 12) fd p2))) := hD
          refine lv_aload_n hx hb dX4_found_83 rfl (lv_at hl 0 rfl) ?_
          refine va_get (D := D) (ci := 4) (v := .int (nI (fd + 1))) (C := RX4) (T := TX4) (N := 29) hx hb hts inlX4 hown hK hP 0 rfl rfl 9 (by decide) (hts _ kw_255) (fun _ h9 => h9) rfl dX4_found_84 ?_
          exact retWi hx hb hr hlk hP hS dX4_found_87 (by grind [cFound]) (by first | exact (if_pos (by grind)).symm | exact (if_neg (by grind)).symm)
        · have nc_4 : fd = 6 := (nI_eq (a := fd) (b := 6) (by omega) (by omega)).mp c_4
          refine lv_bipush (v := (-104 : Int32)) hx hb dX4_found_40 (by decide) ?_
          exact retWi hx hb hr hlk hP hS dX4_found_42 (by grind [cFound]) (by first | exact (if_pos (by grind)).symm | exact (if_neg (by grind)).symm)
      · have c_3 := b2_z c_3
        refine lv_bipush (v := (-102 : Int32)) hx hb dX4_found_28 (by decide) ?_
        exact retWi hx hb hr hlk hP hS dX4_found_30 (by grind [cFound]) (by first | exact (if_pos (by grind)).symm | exact (if_neg (by grind)).symm)
  · have c_1 := b2_z c_1
    refine lv_bipush (v := (-101 : Int32)) hx hb dX4_found_8 (by decide) ?_
    exact retWi hx hb hr hlk hP hS dX4_found_10 (by grind [cFound]) (by first | exact (if_pos (by grind)).symm | exact (if_neg (by grind)).symm)
set_option maxHeartbeats 1000000 in
set_option maxRecDepth 100000 in
theorem c_X4_draw (l : Launch) (D : va_G) (cI cB cS : ClassId) {A : Nat → Nat} {I : Nat → Int32} {J : Nat → Int64} {F : Nat → Nat → Int32} : Met l yX4_draw (Wm yX4_draw cX4_draw 2 (some .int)) ({ frames := 0, cells := 0, slots := 0, locals := 0 }) (va_Pc [.ref (A 0), .int (21 : Int32)] (PW D (TYS cI cB cS) (wsM A cI cB I J F))) (QcW D (some (.int (mMin (mSd (J 16))))) (wsM A cI cB I J F) (wsM A cI cB I (vp_updL J 16 (mSd (J 16))) F)) 0 0 (FPw (wsM A cI cB I J F)) := by
  refine metW (by decide) [.ref (A 0), .int (21 : Int32)] (Nat.le_of_ble_eq_true rfl) ?_
  intro p e s m args below meth c hx hb hml hr hlk hown hts hKK hP hD hS ls hl
  obtain ⟨hK, hN⟩ := id hKK
  have hl : lv_has ls 2 [(0, .ref (A 0)), (1, .int (21 : Int32))] := hl
  refine lv_aload_n hx hb dX4_draw_0 rfl (lv_at hl 0 rfl) ?_
  refine lv_ldc2 (v := (1103515245 : Int64)) hx hb hown (hts _ kw_570) dX4_draw_1 ?_
  refine lv_aload_n hx hb dX4_draw_4 rfl (lv_at hl 0 rfl) ?_
  refine va_get (D := D) (ci := 4) (v := .long (J 16)) (C := RX4) (T := TX4) (N := 29) hx hb hts inlX4 hown hK hP 0 rfl rfl 16 (by decide) (hts _ kw_565) (fun _ h9 => h9) rfl dX4_draw_5 ?_
  refine lv_lmul hx hb dX4_draw_8 ?_
  refine lv_ldc2 (v := (12345 : Int64)) hx hb hown (hts _ kw_571) dX4_draw_9 ?_
  refine lv_ladd hx hb dX4_draw_12 ?_
  refine lv_ldc2 (v := (2147483647 : Int64)) hx hb hown (hts _ kw_572) dX4_draw_13 ?_
  refine lv_land hx hb dX4_draw_16 ?_
  refine va_put (D := D) (ci := 4) (v := .long ((((1103515245 : Int64) * (J 16)) + (12345 : Int64)) &&& (2147483647 : Int64))) (ty := tyX4 16) (C := RX4) (T := TX4) (N := 29) hx hb hts inlX4 tyX4 tyX4_ok nmX4 hown hK hP hD hS 0 rfl rfl 16 (by decide) (hts _ kw_565) (fun _ h9 => h9) rfl (tyX4_ok 16 (by decide)) rfl rfl (Nat.le_of_ble_eq_true rfl) dX4_draw_17 (fun H locs hP hD hS => ?_)
  have hP : va_P D vwCl (wsM A cI cB I (vp_updL J 16 ((((1103515245 : Int64) * (J 16)) + (12345 : Int64)) &&& (2147483647 : Int64))) F) H := hP
  have hD : va_D (FPw (wsM A cI cB I J F)) (wsM A cI cB I (vp_updL J 16 ((((1103515245 : Int64) * (J 16)) + (12345 : Int64)) &&& (2147483647 : Int64))) F) := hD
  refine lv_aload_n hx hb dX4_draw_20 rfl (lv_at hl 0 rfl) ?_
  refine va_get (D := D) (ci := 4) (v := .long ((((1103515245 : Int64) * (J 16)) + (12345 : Int64)) &&& (2147483647 : Int64))) (C := RX4) (T := TX4) (N := 29) hx hb hts inlX4 hown hK hP 0 rfl rfl 16 (by decide) (hts _ kw_565) (fun _ h9 => h9) rfl dX4_draw_21 ?_
  refine lv_ldc2 (v := (65536 : Int64)) hx hb hown (hts _ kw_573) dX4_draw_24 ?_
  refine lv_ldiv hx hb dX4_draw_27 (by decide) ?_
  refine lv_iload_n hx hb dX4_draw_28 rfl (lv_at hl 1 rfl) ?_
  refine lv_i2l (v := ((21 : Int32).toInt64)) hx hb dX4_draw_29 rfl ?_
  refine lv_lrem hx hb dX4_draw_30 (by decide) ?_
  refine lv_l2i (v := (((((((1103515245 : Int64) * (J 16)) + (12345 : Int64)) &&& (2147483647 : Int64)) / (65536 : Int64)) - (((((1103515245 : Int64) * (J 16)) + (12345 : Int64)) &&& (2147483647 : Int64)) / (65536 : Int64)) / ((21 : Int32).toInt64) * ((21 : Int32).toInt64)).toInt32)) hx hb dX4_draw_31 rfl ?_
  exact retWi hx hb hr hlk hP hS dX4_draw_32 rfl rfl
set_option maxHeartbeats 1000000 in
set_option maxRecDepth 100000 in
theorem c_X4_inkAll (l : Launch) (D : va_G) (cI cB cS : ClassId) {A : Nat → Nat} {I : Nat → Int32} {J : Nat → Int64} {F : Nat → Nat → Int32} : Met l yX4_inkAll (Wm yX4_inkAll cX4_inkAll 3 (some .int)) ({ frames := 0, cells := 0, slots := 0, locals := 0 }) (va_Pc [.ref (A 0)] (PR D (TYS cI cB cS) (wsM A cI cB I J F))) (QcV (some (.int (sumN (F 7) 10)))) 0 0 (fun _ => False) := by
  refine metR (by decide) [.ref (A 0)] (Nat.le_of_ble_eq_true rfl) ?_
  intro p e s m args below meth c hx hb hml hr hlk hown hts hKK hP ls hl
  obtain ⟨hK, hN⟩ := id hKK
  have hl : lv_has ls 3 [(0, .ref (A 0))] := hl
  refine lv_iconst (v := (0 : Int32)) hx hb dX4_inkAll_0 (by decide) ?_
  refine lv_istore_n (lv' := [(1, .int (0 : Int32)), (0, .ref (A 0))]) hx hb dX4_inkAll_1 rfl hl (by decide) rfl (fun ls hl => ?_)
  refine lv_iconst (v := (0 : Int32)) hx hb dX4_inkAll_2 (by decide) ?_
  refine lv_istore_n (lv' := [(2, .int (0 : Int32)), (1, .int (0 : Int32)), (0, .ref (A 0))]) hx hb dX4_inkAll_3 rfl hl (by decide) rfl (fun ls hl => ?_)
  have loop_4 : ∀ (z : Nat) (k : Nat) (x1 : Int32) (x2 : Int32), x1 = sumN (F 7) k → x2 = nI k → (k ≤ 10) → 10 - k < z → ∀ (ls : Array Slot), lv_has ls 3 [(0, .ref (A 0)), (1, .int x1), (2, .int x2)] → W p l e ({ frames := 0, cells := 0, slots := 0, locals := 0 } : Room) s m args below meth c s.heap [] 0 0 (MQ below (QcV (some (.int (sumN (F 7) 10)))) args s 0 0 (fun _ => False)) (F0 m 4 ls []) := by
    intro z
    induction z with
    | zero =>
      intro k x1 x2 ex1 ex2 hk hz
      exact absurd hz (Nat.not_lt_zero _)
    | succ z ih_4 =>
      intro k x1 x2 ex1 ex2 hk hz ls hl
      subst ex1
      subst ex2
      refine lv_iload_n hx hb dX4_inkAll_4 rfl (lv_at hl 2 rfl) ?_
      refine lv_bipush (v := (10 : Int32)) hx hb dX4_inkAll_5 (by decide) ?_
      refine lv_icmp_ge (tgt := 25) hx hb dX4_inkAll_7 (by decide) (fun c_1 => ?_) (fun c_1 => ?_)
      · have nc_1 : 10 ≤ k := (nI_leI (a := 10) (b := k) (by omega) (by omega)).mp c_1
        refine lv_iload_n hx hb dX4_inkAll_25 rfl (lv_at hl 1 rfl) ?_
        exact retRi hx hb hr hlk dX4_inkAll_26 (by have hkn : k = 10 := (by omega); subst hkn; rfl)
      · have nc_1 : ¬ 10 ≤ k := fun h => c_1 ((nI_leI (a := 10) (b := k) (by omega) (by omega)).mpr h)
        refine lv_iload_n hx hb dX4_inkAll_10 rfl (lv_at hl 1 rfl) ?_
        refine lv_aload_n hx hb dX4_inkAll_11 rfl (lv_at hl 0 rfl) ?_
        refine va_get (D := D) (ci := 4) (v := .ref (A 7)) (C := RX4) (T := TX4) (N := 29) hx hb hts inlX4 hown hK hP 0 rfl rfl 7 (by decide) (hts _ kw_63) (fun _ h9 => h9) rfl dX4_inkAll_12 ?_
        refine lv_iload_n hx hb dX4_inkAll_15 rfl (lv_at hl 2 rfl) ?_
        refine va_iald (D := D) hx hb hK hP 5 0 rfl rfl (vp_in_nI (by omega) (by omega)) dX4_inkAll_16 ?_
        refine topE (z := ((F 7) k)) (congrArg _ (nI_clamp (n := k) (by omega))) ?_
        refine lv_iadd hx hb dX4_inkAll_17 ?_
        refine lv_istore_n (lv' := [(1, .int (sumN (F 7) k + ((F 7) k))), (0, .ref (A 0)), (2, .int (nI k))]) hx hb dX4_inkAll_18 rfl hl (by decide) rfl (fun ls hl => ?_)
        refine lv_iinc (v := (nI (k + 1))) (lv' := [(2, .int (nI (k + 1))), (1, .int (sumN (F 7) k + ((F 7) k))), (0, .ref (A 0))]) hx hb dX4_inkAll_19 hl (k := 2) rfl (nI_add k 1) (by decide) rfl (fun ls hl => ?_)
        refine lv_goto (tgt := 4) hx hb dX4_inkAll_22 (by decide) ?_
        exact ih_4 (k + 1) (sumN (F 7) k + ((F 7) k)) (nI (k + 1)) rfl rfl (by omega) (by omega) ls (lv_sub hl [2, 1, 0] rfl)
  exact loop_4 ((10 - 0) + 1) 0 (0 : Int32) (0 : Int32) rfl rfl (by omega) (by omega) ls (lv_sub hl [2, 1, 0] rfl)
set_option maxHeartbeats 1000000 in
set_option maxRecDepth 100000 in
theorem c_X4_dry (l : Launch) (D : va_G) (cI cB cS : ClassId) {A : Nat → Nat} {I : Nat → Int32} {J : Nat → Int64} {F : Nat → Nat → Int32} {n : Nat} (hn : n ≤ 6) (h1 : I 1 = nI n) : Met l yX4_dry (Wm yX4_dry cX4_dry 3 (some .int)) ({ frames := 0, cells := 0, slots := 0, locals := 0 }) (va_Pc [.ref (A 0)] (PR D (TYS cI cB cS) (wsM A cI cB I J F))) (QcV (some (.int (mDryN (F 7) n)))) 0 0 (fun _ => False) := by
  refine metR (by decide) [.ref (A 0)] (Nat.le_of_ble_eq_true rfl) ?_
  intro p e s m args below meth c hx hb hml hr hlk hown hts hKK hP ls hl
  obtain ⟨hK, hN⟩ := id hKK
  have hl : lv_has ls 3 [(0, .ref (A 0))] := hl
  refine lv_iconst (v := (0 : Int32)) hx hb dX4_dry_0 (by decide) ?_
  refine lv_istore_n (lv' := [(1, .int (0 : Int32)), (0, .ref (A 0))]) hx hb dX4_dry_1 rfl hl (by decide) rfl (fun ls hl => ?_)
  refine lv_iconst (v := (0 : Int32)) hx hb dX4_dry_2 (by decide) ?_
  refine lv_istore_n (lv' := [(2, .int (0 : Int32)), (1, .int (0 : Int32)), (0, .ref (A 0))]) hx hb dX4_dry_3 rfl hl (by decide) rfl (fun ls hl => ?_)
  have loop_4 : ∀ (z : Nat) (k : Nat) (x1 : Int32) (x2 : Int32), x1 = sumN (fun c => if F 7 c = 0 then 1 else 0) k → x2 = nI k → (k ≤ 10) → (0 < n ∨ k = 0) → 10 - k < z → ∀ (ls : Array Slot), lv_has ls 3 [(0, .ref (A 0)), (1, .int x1), (2, .int x2)] → W p l e ({ frames := 0, cells := 0, slots := 0, locals := 0 } : Room) s m args below meth c s.heap [] 0 0 (MQ below (QcV (some (.int (mDryN (F 7) n)))) args s 0 0 (fun _ => False)) (F0 m 4 ls []) := by
    intro z
    induction z with
    | zero =>
      intro k x1 x2 ex1 ex2 hk hz hz
      exact absurd hz (Nat.not_lt_zero _)
    | succ z ih_4 =>
      intro k x1 x2 ex1 ex2 hk hz hz ls hl
      subst ex1
      subst ex2
      refine lv_iload_n hx hb dX4_dry_4 rfl (lv_at hl 2 rfl) ?_
      refine lv_bipush (v := (10 : Int32)) hx hb dX4_dry_5 (by decide) ?_
      refine lv_icmp_ge (tgt := 40) hx hb dX4_dry_7 (by decide) (fun c_1 => ?_) (fun c_1 => ?_)
      · have nc_1 : 10 ≤ k := (nI_leI (a := 10) (b := k) (by omega) (by omega)).mp c_1
        refine lv_iload_n hx hb dX4_dry_40 rfl (lv_at hl 1 rfl) ?_
        exact retRi hx hb hr hlk dX4_dry_41 (by unfold mDryN; by_cases h0 : 0 < n; (have hkn : k = 10 := (by omega); subst hkn; rw [if_pos h0]); (have hkn : k = 0 := (by omega); subst hkn; rw [if_neg h0]; rfl))
      · have nc_1 : ¬ 10 ≤ k := fun h => c_1 ((nI_leI (a := 10) (b := k) (by omega) (by omega)).mpr h)
        refine lv_aload_n hx hb dX4_dry_10 rfl (lv_at hl 0 rfl) ?_
        refine va_get (D := D) (ci := 4) (v := .int (I 1)) (C := RX4) (T := TX4) (N := 29) hx hb hts inlX4 hown hK hP 0 rfl rfl 1 (by decide) (hts _ kw_251) (fun _ h9 => h9) rfl dX4_dry_11 ?_
        refine topE (z := (nI n)) h1 ?_
        refine lv_if_le (tgt := 40) hx hb dX4_dry_14 (by decide) (fun c_2 => ?_) (fun c_2 => ?_)
        · have nc_2 : n ≤ 0 := (nI_leI (a := n) (b := 0) (by omega) (by omega)).mp c_2
          refine lv_iload_n hx hb dX4_dry_40 rfl (lv_at hl 1 rfl) ?_
          exact retRi hx hb hr hlk dX4_dry_41 (by unfold mDryN; by_cases h0 : 0 < n; (have hkn : k = 10 := (by omega); subst hkn; rw [if_pos h0]); (have hkn : k = 0 := (by omega); subst hkn; rw [if_neg h0]; rfl))
        · have nc_2 : ¬ n ≤ 0 := fun h => c_2 ((nI_leI (a := n) (b := 0) (by omega) (by omega)).mpr h)
          refine lv_iload_n hx hb dX4_dry_17 rfl (lv_at hl 1 rfl) ?_
          refine lv_aload_n hx hb dX4_dry_18 rfl (lv_at hl 0 rfl) ?_
          refine va_get (D := D) (ci := 4) (v := .ref (A 7)) (C := RX4) (T := TX4) (N := 29) hx hb hts inlX4 hown hK hP 0 rfl rfl 7 (by decide) (hts _ kw_63) (fun _ h9 => h9) rfl dX4_dry_19 ?_
          refine lv_iload_n hx hb dX4_dry_22 rfl (lv_at hl 2 rfl) ?_
          refine va_iald (D := D) hx hb hK hP 5 0 rfl rfl (vp_in_nI (by omega) (by omega)) dX4_dry_23 ?_
          refine topE (z := ((F 7) k)) (congrArg _ (nI_clamp (n := k) (by omega))) ?_
          refine lv_if_ne (tgt := 31) hx hb dX4_dry_24 (by decide) (fun c_3 => ?_) (fun c_3 => ?_)
          · refine lv_iconst (v := (0 : Int32)) hx hb dX4_dry_31 (by decide) ?_
            refine lv_iadd hx hb dX4_dry_32 ?_
            refine lv_istore_n (lv' := [(1, .int (sumN (fun c => if F 7 c = 0 then 1 else 0) k + (0 : Int32))), (0, .ref (A 0)), (2, .int (nI k))]) hx hb dX4_dry_33 rfl hl (by decide) rfl (fun ls hl => ?_)
            refine lv_iinc (v := (nI (k + 1))) (lv' := [(2, .int (nI (k + 1))), (1, .int (sumN (fun c => if F 7 c = 0 then 1 else 0) k + (0 : Int32))), (0, .ref (A 0))]) hx hb dX4_dry_34 hl (k := 2) rfl (nI_add k 1) (by decide) rfl (fun ls hl => ?_)
            refine lv_goto (tgt := 4) hx hb dX4_dry_37 (by decide) ?_
            exact ih_4 (k + 1) (sumN (fun c => if F 7 c = 0 then 1 else 0) k + (0 : Int32)) (nI (k + 1)) (by rw [sumN]; congr 1; first | (rw [if_pos (by assumption)]; done) | (rw [if_neg (by assumption)]; done)) rfl (by omega) (by omega) (by omega) ls (lv_sub hl [2, 1, 0] rfl)
          · refine lv_iconst (v := (1 : Int32)) hx hb dX4_dry_27 (by decide) ?_
            refine lv_goto (tgt := 32) hx hb dX4_dry_28 (by decide) ?_
            refine lv_iadd hx hb dX4_dry_32 ?_
            refine lv_istore_n (lv' := [(1, .int (sumN (fun c => if F 7 c = 0 then 1 else 0) k + (1 : Int32))), (0, .ref (A 0)), (2, .int (nI k))]) hx hb dX4_dry_33 rfl hl (by decide) rfl (fun ls hl => ?_)
            refine lv_iinc (v := (nI (k + 1))) (lv' := [(2, .int (nI (k + 1))), (1, .int (sumN (fun c => if F 7 c = 0 then 1 else 0) k + (1 : Int32))), (0, .ref (A 0))]) hx hb dX4_dry_34 hl (k := 2) rfl (nI_add k 1) (by decide) rfl (fun ls hl => ?_)
            refine lv_goto (tgt := 4) hx hb dX4_dry_37 (by decide) ?_
            exact ih_4 (k + 1) (sumN (fun c => if F 7 c = 0 then 1 else 0) k + (1 : Int32)) (nI (k + 1)) (by rw [sumN]; congr 1; first | (rw [if_pos (by assumption)]; done) | (rw [if_neg (by assumption)]; done)) rfl (by omega) (by omega) (by omega) ls (lv_sub hl [2, 1, 0] rfl)
  exact loop_4 ((10 - 0) + 1) 0 (0 : Int32) (0 : Int32) rfl rfl (by omega) (by omega) (by omega) ls (lv_sub hl [2, 1, 0] rfl)
