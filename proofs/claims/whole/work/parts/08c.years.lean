set_option maxHeartbeats 1000000 in
set_option maxRecDepth 100000 in
theorem c_X4_yearsNow (l : Launch) (D : va_G) (cI cB cS : ClassId) {A : Nat → Nat} {I : Nat → Int32} {J : Nat → Int64} {F : Nat → Nat → Int32} {n : Nat} (hn : n ≤ 6) (h1 : I 1 = nI n) {m9 : Nat} (hm9 : m9 ≤ 60) (p1 p2 : Int32) : Met l yX4_yearsNow (Wm yX4_yearsNow cX4_yearsNow 7 (some .int)) ({ frames := 5, cells := 0, slots := 0, locals := 120 }) (va_Pc [.ref (A 0), .int (nI m9), .int p1, .int p2] (PW D (TYS cI cB cS) (wsM A cI cB I J F))) (QcW D (some (.int (mYearsN n (mYRow F (I 6) n (F 7) p1.toInt64 m9) (mSeeds p1.toInt64 m9) p2))) (wsM A cI cB I J F) (wsM A cI cB I (vp_updL J 16 (mSeeds p1.toInt64 m9)) (va_up (va_up F 17 (rowN (F 7) (F 17) 10)) 7 (rowN (rowN (F 7) (F 17) 10) (mYRow F (I 6) n (F 7) p1.toInt64 m9) 10)))) 0 0 (FPw (wsM A cI cB I J F)) := by
  refine metW (by decide) [.ref (A 0), .int (nI m9), .int p1, .int p2] (Nat.le_of_ble_eq_true rfl) ?_
  intro p e s m args below meth c hx hb hml hr hlk hown hts hKK hP hD hS ls hl
  obtain ⟨hK, hN⟩ := id hKK
  have hl : lv_has ls 7 [(0, .ref (A 0)), (1, .int (nI m9)), (2, .int p1), (3, .int p2)] := hl
  refine lv_iconst (v := (0 : Int32)) hx hb dX4_yearsNow_0 (by decide) ?_
  refine lv_istore (lv' := [(4, .int (0 : Int32)), (0, .ref (A 0)), (1, .int (nI m9)), (2, .int p1), (3, .int p2)]) hx hb dX4_yearsNow_1 hl (by decide) rfl (fun ls hl => ?_)
  have loop_3 : ∀ (z : Nat) (k : Nat) (x4 : Int32), x4 = nI k → (k ≤ 10) → 10 - k < z → ∀ (H : Heap) (locs : List Loc), va_P D vwCl (wsM A cI cB I J (va_up F 17 (rowN (F 7) (F 17) k))) H → va_S (FPw (wsM A cI cB I J F)) s.heap H locs → ∀ (ls : Array Slot), lv_has ls 7 [(0, .ref (A 0)), (1, .int (nI m9)), (2, .int p1), (3, .int p2), (4, .int x4)] → W p l e ({ frames := 5, cells := 0, slots := 0, locals := 120 } : Room) s m args below meth c H locs 0 0 (MQ below (QcW D (some (.int (mYearsN n (mYRow F (I 6) n (F 7) p1.toInt64 m9) (mSeeds p1.toInt64 m9) p2))) (wsM A cI cB I J F) (wsM A cI cB I (vp_updL J 16 (mSeeds p1.toInt64 m9)) (va_up (va_up F 17 (rowN (F 7) (F 17) 10)) 7 (rowN (rowN (F 7) (F 17) 10) (mYRow F (I 6) n (F 7) p1.toInt64 m9) 10)))) args s 0 0 (FPw (wsM A cI cB I J F))) (F0 m 3 ls []) := by
    intro z
    induction z with
    | zero =>
      intro k x4 ex4 hk hz
      exact absurd hz (Nat.not_lt_zero _)
    | succ z ih_3 =>
      intro k x4 ex4 hk hz H locs hP hS ls hl
      subst ex4
      have hD := va_D_addr (ws := (wsM A cI cB I J F)) (ws' := (wsM A cI cB I J (va_up F 17 (rowN (F 7) (F 17) k)))) rfl hD
      refine lv_iload hx hb dX4_yearsNow_3 (lv_at hl 4 rfl) ?_
      refine lv_bipush (v := (10 : Int32)) hx hb dX4_yearsNow_5 (by decide) ?_
      refine lv_icmp_ge (tgt := 30) hx hb dX4_yearsNow_7 (by decide) (fun c_1 => ?_) (fun c_1 => ?_)
      · have nc_1 : 10 ≤ k := (nI_leI (a := 10) (b := k) (by omega) (by omega)).mp c_1
        refine lv_aload_n hx hb dX4_yearsNow_30 rfl (lv_at hl 0 rfl) ?_
        refine lv_iload_n hx hb dX4_yearsNow_31 rfl (lv_at hl 2 rfl) ?_
        refine lv_i2l (v := ((p1).toInt64)) hx hb dX4_yearsNow_32 rfl ?_
        refine va_put (D := D) (ci := 4) (v := .long ((p1).toInt64)) (ty := tyX4 16) (C := RX4) (T := TX4) (N := 29) hx hb hts inlX4 tyX4 tyX4_ok nmX4 hown hK hP hD hS 0 rfl rfl 16 (by decide) (hts _ kw_565) (fun _ h9 => h9) rfl (tyX4_ok 16 (by decide)) rfl rfl (Nat.le_of_ble_eq_true rfl) dX4_yearsNow_33 (fun H locs hP hD hS => ?_)
        have hP : va_P D vwCl (wsM A cI cB I (vp_updL J 16 ((p1).toInt64)) (va_up F 17 (rowN (F 7) (F 17) k))) H := hP
        have hD : va_D (FPw (wsM A cI cB I J F)) (wsM A cI cB I (vp_updL J 16 ((p1).toInt64)) (va_up F 17 (rowN (F 7) (F 17) k))) := hD
        refine lv_iconst (v := (0 : Int32)) hx hb dX4_yearsNow_36 (by decide) ?_
        refine lv_istore (lv' := [(4, .int (0 : Int32)), (0, .ref (A 0)), (1, .int (nI m9)), (2, .int p1), (3, .int p2)]) hx hb dX4_yearsNow_37 hl (by decide) rfl (fun ls hl => ?_)
        have loop_39 : ∀ (z : Nat) (j : Nat) (y4 : Int32), y4 = nI j → (j ≤ m9) → m9 - j < z → ∀ (H : Heap) (locs : List Loc), va_P D vwCl (wsM A cI cB I (vp_updL J 16 (mSeeds p1.toInt64 j)) (va_up (va_up F 17 (rowN (F 7) (F 17) 10)) 7 (mYRow F (I 6) n (F 7) p1.toInt64 j))) H → va_S (FPw (wsM A cI cB I J F)) s.heap H locs → ∀ (ls : Array Slot), lv_has ls 7 [(0, .ref (A 0)), (1, .int (nI m9)), (2, .int p1), (3, .int p2), (4, .int y4)] → W p l e ({ frames := 5, cells := 0, slots := 0, locals := 120 } : Room) s m args below meth c H locs 0 0 (MQ below (QcW D (some (.int (mYearsN n (mYRow F (I 6) n (F 7) p1.toInt64 m9) (mSeeds p1.toInt64 m9) p2))) (wsM A cI cB I J F) (wsM A cI cB I (vp_updL J 16 (mSeeds p1.toInt64 m9)) (va_up (va_up F 17 (rowN (F 7) (F 17) 10)) 7 (rowN (rowN (F 7) (F 17) 10) (mYRow F (I 6) n (F 7) p1.toInt64 m9) 10)))) args s 0 0 (FPw (wsM A cI cB I J F))) (F0 m 39 ls []) := by
          intro z
          induction z with
          | zero =>
            intro j y4 ey4 hj hz
            exact absurd hz (Nat.not_lt_zero _)
          | succ z ih_39 =>
            intro j y4 ey4 hj hz H locs hP hS ls hl
            subst ey4
            have hD := va_D_addr (ws := (wsM A cI cB I (vp_updL J 16 ((p1).toInt64)) (va_up F 17 (rowN (F 7) (F 17) k)))) (ws' := (wsM A cI cB I (vp_updL J 16 (mSeeds p1.toInt64 j)) (va_up (va_up F 17 (rowN (F 7) (F 17) 10)) 7 (mYRow F (I 6) n (F 7) p1.toInt64 j)))) rfl hD
            refine lv_iload hx hb dX4_yearsNow_39 (lv_at hl 4 rfl) ?_
            refine lv_iload_n hx hb dX4_yearsNow_41 rfl (lv_at hl 1 rfl) ?_
            refine lv_icmp_ge (tgt := 62) hx hb dX4_yearsNow_42 (by decide) (fun c_2 => ?_) (fun c_2 => ?_)
            · have nc_2 : m9 ≤ j := (nI_leI (a := m9) (b := j) (by omega) (by omega)).mp c_2
              refine lv_aload_n hx hb dX4_yearsNow_62 rfl (lv_at hl 0 rfl) ?_
              refine rcVi (As := []) (rest := []) hx hb hml hown hts hKK hP (c_X4_inkAll l D cI cB cS ) (cwV2 0 hts kw_577 kw_6 kw_574 kw_575 kw_576 rfl rfl (by decide +kernel) ⟨Nat.le_of_ble_eq_true rfl, Nat.le_of_ble_eq_true rfl⟩) 0 rfl rfl rfl rfl hl.1 rfl (Nat.le_of_ble_eq_true rfl) ⟨Nat.zero_le _, Nat.zero_le _⟩ dX4_yearsNow_63 ?_
              refine topE (z := (sumN (mYRow F (I 6) n (F 7) p1.toInt64 j) 10)) rfl ?_
              refine lv_istore (lv' := [(4, .int (sumN (mYRow F (I 6) n (F 7) p1.toInt64 j) 10)), (0, .ref (A 0)), (1, .int (nI m9)), (2, .int p1), (3, .int p2)]) hx hb dX4_yearsNow_66 hl (by decide) rfl (fun ls hl => ?_)
              refine lv_aload_n hx hb dX4_yearsNow_68 rfl (lv_at hl 1 rfl) ?_
              refine rcVi (As := []) (rest := []) hx hb hml hown hts hKK hP (c_X4_dry l D cI cB cS hn h1 ) (cwV2 0 hts kw_581 kw_6 kw_578 kw_579 kw_580 rfl rfl (by decide +kernel) ⟨Nat.le_of_ble_eq_true rfl, Nat.le_of_ble_eq_true rfl⟩) 0 rfl rfl rfl rfl hl.1 rfl (Nat.le_of_ble_eq_true rfl) ⟨Nat.zero_le _, Nat.zero_le _⟩ dX4_yearsNow_69 ?_
              refine topE (z := (mDryN (mYRow F (I 6) n (F 7) p1.toInt64 j) n)) rfl ?_
              refine lv_istore (lv' := [(5, .int (mDryN (mYRow F (I 6) n (F 7) p1.toInt64 j) n)), (4, .int (sumN (mYRow F (I 6) n (F 7) p1.toInt64 j) 10)), (0, .ref (A 0)), (1, .int (nI m9)), (2, .int p1), (3, .int p2)]) hx hb dX4_yearsNow_72 hl (by decide) rfl (fun ls hl => ?_)
              refine lv_iconst (v := (0 : Int32)) hx hb dX4_yearsNow_74 (by decide) ?_
              refine lv_istore (lv' := [(6, .int (0 : Int32)), (5, .int (mDryN (mYRow F (I 6) n (F 7) p1.toInt64 j) n)), (4, .int (sumN (mYRow F (I 6) n (F 7) p1.toInt64 j) 10)), (0, .ref (A 0)), (1, .int (nI m9)), (2, .int p1), (3, .int p2)]) hx hb dX4_yearsNow_75 hl (by decide) rfl (fun ls hl => ?_)
              have hjn : m9 = j := by omega
              subst hjn
              have loop_77 : ∀ (z : Nat) (i : Nat) (z6 : Int32), z6 = nI i → (i ≤ 10) → 10 - i < z → ∀ (H : Heap) (locs : List Loc), va_P D vwCl (wsM A cI cB I (vp_updL J 16 (mSeeds p1.toInt64 m9)) (va_up (va_up F 17 (rowN (F 7) (F 17) 10)) 7 (rowN (rowN (F 7) (F 17) 10) (mYRow F (I 6) n (F 7) p1.toInt64 m9) i))) H → va_S (FPw (wsM A cI cB I J F)) s.heap H locs → ∀ (ls : Array Slot), lv_has ls 7 [(0, .ref (A 0)), (1, .int (nI m9)), (2, .int p1), (3, .int p2), (4, .int (sumN (mYRow F (I 6) n (F 7) p1.toInt64 m9) 10)), (5, .int (mDryN (mYRow F (I 6) n (F 7) p1.toInt64 m9) n)), (6, .int z6)] → W p l e ({ frames := 5, cells := 0, slots := 0, locals := 120 } : Room) s m args below meth c H locs 0 0 (MQ below (QcW D (some (.int (mYearsN n (mYRow F (I 6) n (F 7) p1.toInt64 m9) (mSeeds p1.toInt64 m9) p2))) (wsM A cI cB I J F) (wsM A cI cB I (vp_updL J 16 (mSeeds p1.toInt64 m9)) (va_up (va_up F 17 (rowN (F 7) (F 17) 10)) 7 (rowN (rowN (F 7) (F 17) 10) (mYRow F (I 6) n (F 7) p1.toInt64 m9) 10)))) args s 0 0 (FPw (wsM A cI cB I J F))) (F0 m 77 ls []) := by
                intro z
                induction z with
                | zero =>
                  intro i z6 ez6 hi hz
                  exact absurd hz (Nat.not_lt_zero _)
                | succ z ih_77 =>
                  intro i z6 ez6 hi hz H locs hP hS ls hl
                  subst ez6
                  have hD := va_D_addr (ws := (wsM A cI cB I (vp_updL J 16 (mSeeds p1.toInt64 m9)) (va_up (va_up F 17 (rowN (F 7) (F 17) 10)) 7 (mYRow F (I 6) n (F 7) p1.toInt64 m9)))) (ws' := (wsM A cI cB I (vp_updL J 16 (mSeeds p1.toInt64 m9)) (va_up (va_up F 17 (rowN (F 7) (F 17) 10)) 7 (rowN (rowN (F 7) (F 17) 10) (mYRow F (I 6) n (F 7) p1.toInt64 m9) i)))) rfl hD
                  refine lv_iload hx hb dX4_yearsNow_77 (lv_at hl 6 rfl) ?_
                  refine lv_bipush (v := (10 : Int32)) hx hb dX4_yearsNow_79 (by decide) ?_
                  refine lv_icmp_ge (tgt := 104) hx hb dX4_yearsNow_81 (by decide) (fun c_3 => ?_) (fun c_3 => ?_)
                  · have nc_3 : 10 ≤ i := (nI_leI (a := 10) (b := i) (by omega) (by omega)).mp c_3
                    refine lv_iload_n hx hb dX4_yearsNow_104 rfl (lv_at hl 3 rfl) ?_
                    refine lv_if_ne (tgt := 113) hx hb dX4_yearsNow_105 (by decide) (fun c_4 => ?_) (fun c_4 => ?_)
                    · refine lv_iload_n hx hb dX4_yearsNow_113 rfl (lv_at hl 3 rfl) ?_
                      refine lv_iconst (v := (1 : Int32)) hx hb dX4_yearsNow_114 (by decide) ?_
                      refine lv_icmp_ne (tgt := 123) hx hb dX4_yearsNow_115 (by decide) (fun c_5 => ?_) (fun c_5 => ?_)
                      · refine lv_aload_n hx hb dX4_yearsNow_123 rfl (lv_at hl 0 rfl) ?_
                        refine va_get (D := D) (ci := 4) (v := .long (mSeeds p1.toInt64 m9)) (C := RX4) (T := TX4) (N := 29) hx hb hts inlX4 hown hK hP 0 rfl rfl 16 (by decide) (hts _ kw_565) (fun _ h9 => h9) rfl dX4_yearsNow_124 ?_
                        refine lv_l2i (v := ((mSeeds p1.toInt64 m9).toInt32)) hx hb dX4_yearsNow_127 rfl ?_
                        exact retWi hx hb hr hlk hP hS dX4_yearsNow_128 (by grind [mYearsN]) (by have hin : i = 10 := (by omega); subst hin; rfl)
                      · refine lv_iload hx hb dX4_yearsNow_118 (lv_at hl 5 rfl) ?_
                        refine lv_goto (tgt := 128) hx hb dX4_yearsNow_120 (by decide) ?_
                        exact retWi hx hb hr hlk hP hS dX4_yearsNow_128 (by grind [mYearsN]) (by have hin : i = 10 := (by omega); subst hin; rfl)
                    · refine lv_iload hx hb dX4_yearsNow_108 (lv_at hl 4 rfl) ?_
                      refine lv_goto (tgt := 128) hx hb dX4_yearsNow_110 (by decide) ?_
                      exact retWi hx hb hr hlk hP hS dX4_yearsNow_128 (by grind [mYearsN]) (by have hin : i = 10 := (by omega); subst hin; rfl)
                  · have nc_3 : ¬ 10 ≤ i := fun h => c_3 ((nI_leI (a := 10) (b := i) (by omega) (by omega)).mpr h)
                    refine lv_aload_n hx hb dX4_yearsNow_84 rfl (lv_at hl 0 rfl) ?_
                    refine va_get (D := D) (ci := 4) (v := .ref (A 7)) (C := RX4) (T := TX4) (N := 29) hx hb hts inlX4 hown hK hP 0 rfl rfl 7 (by decide) (hts _ kw_63) (fun _ h9 => h9) rfl dX4_yearsNow_85 ?_
                    refine lv_iload hx hb dX4_yearsNow_88 (lv_at hl 6 rfl) ?_
                    refine lv_aload_n hx hb dX4_yearsNow_90 rfl (lv_at hl 0 rfl) ?_
                    refine va_get (D := D) (ci := 4) (v := .ref (A 17)) (C := RX4) (T := TX4) (N := 29) hx hb hts inlX4 hown hK hP 0 rfl rfl 17 (by decide) (hts _ kw_70) (fun _ h9 => h9) rfl dX4_yearsNow_91 ?_
                    refine lv_iload hx hb dX4_yearsNow_94 (lv_at hl 6 rfl) ?_
                    refine va_iald (D := D) hx hb hK hP 11 0 rfl rfl (vp_in_nI (by omega) (by omega)) dX4_yearsNow_96 ?_
                    refine topE (z := ((rowN (F 7) (F 17) 10) i)) (congrArg _ (nI_clamp (n := i) (by omega))) ?_
                    refine va_iast (D := D) hx hb hK hP hD hS 5 0 rfl rfl (vp_in_nI (by omega) (by omega)) dX4_yearsNow_97 (fun H locs hP hD hS => ?_)
                    rw [nI_clamp (n := i) (by omega)] at hP hD
                    have hP : va_P D vwCl (wsM A cI cB I (vp_updL J 16 (mSeeds p1.toInt64 m9)) (va_up (va_up F 17 (rowN (F 7) (F 17) 10)) 7 (upd (rowN (rowN (F 7) (F 17) 10) (mYRow F (I 6) n (F 7) p1.toInt64 m9) i) i ((rowN (F 7) (F 17) 10) i)))) H := hP
                    have hD : va_D (FPw (wsM A cI cB I J F)) (wsM A cI cB I (vp_updL J 16 (mSeeds p1.toInt64 m9)) (va_up (va_up F 17 (rowN (F 7) (F 17) 10)) 7 (upd (rowN (rowN (F 7) (F 17) 10) (mYRow F (I 6) n (F 7) p1.toInt64 m9) i) i ((rowN (F 7) (F 17) 10) i)))) := hD
                    refine lv_iinc (v := (nI (i + 1))) (lv' := [(6, .int (nI (i + 1))), (0, .ref (A 0)), (1, .int (nI m9)), (2, .int p1), (3, .int p2), (4, .int (sumN (mYRow F (I 6) n (F 7) p1.toInt64 m9) 10)), (5, .int (mDryN (mYRow F (I 6) n (F 7) p1.toInt64 m9) n))]) hx hb dX4_yearsNow_98 hl (k := 6) rfl (nI_add i 1) (by decide) rfl (fun ls hl => ?_)
                    refine lv_goto (tgt := 77) hx hb dX4_yearsNow_101 (by decide) ?_
                    have hP9 : va_P D vwCl (wsM A cI cB I (vp_updL J 16 (mSeeds p1.toInt64 m9)) (va_up (va_up F 17 (rowN (F 7) (F 17) 10)) 7 (rowN (rowN (F 7) (F 17) 10) (mYRow F (I 6) n (F 7) p1.toInt64 m9) (i + 1)))) H := by rw [← rowN_upd (i := i)]; exact hP
                    exact ih_77 (i + 1) (nI (i + 1)) rfl (by omega) (by omega) H locs hP9 hS ls (lv_sub hl [1, 2, 3, 4, 5, 6, 0] rfl)
              have hP9 : va_P D vwCl (wsM A cI cB I (vp_updL J 16 (mSeeds p1.toInt64 m9)) (va_up (va_up F 17 (rowN (F 7) (F 17) 10)) 7 (rowN (rowN (F 7) (F 17) 10) (mYRow F (I 6) n (F 7) p1.toInt64 m9) 0))) H := by rw [rowN_0]; exact hP
              exact loop_77 ((10 - 0) + 1) 0 (0 : Int32) rfl (by omega) (by omega) H locs hP9 hS ls (lv_sub hl [3, 4, 5, 6, 2, 1, 0] rfl)
            · have nc_2 : ¬ m9 ≤ j := fun h => c_2 ((nI_leI (a := m9) (b := j) (by omega) (by omega)).mpr h)
              refine lv_aload_n hx hb dX4_yearsNow_45 rfl (lv_at hl 0 rfl) ?_
              refine lv_aload_n hx hb dX4_yearsNow_46 rfl (lv_at hl 0 rfl) ?_
              refine lv_bipush (v := (21 : Int32)) hx hb dX4_yearsNow_47 (by decide) ?_
              refine wcVi (As := [.int (21 : Int32)]) (rest := [.ref (A 0)]) hx hb hml hown hts hKK hP hD hS (c_X4_draw l D cI cB cS ) (cwV2 1 hts kw_569 kw_6 kw_566 kw_567 kw_568 rfl rfl (by decide +kernel) ⟨Nat.le_of_ble_eq_true rfl, Nat.le_of_ble_eq_true rfl⟩) 0 rfl rfl rfl rfl hl.1 rfl (Nat.le_of_ble_eq_true rfl) ⟨Nat.zero_le _, Nat.zero_le _⟩ dX4_yearsNow_49 (fun H locs hP hS => ?_)
              have hP : va_P D vwCl (wsM A cI cB I (vp_updL J 16 (mSd (mSeeds p1.toInt64 j))) (va_up (va_up F 17 (rowN (F 7) (F 17) 10)) 7 (mYRow F (I 6) n (F 7) p1.toInt64 j))) H := hP
              have hD : va_D (FPw (wsM A cI cB I J F)) (wsM A cI cB I (vp_updL J 16 (mSd (mSeeds p1.toInt64 j))) (va_up (va_up F 17 (rowN (F 7) (F 17) 10)) 7 (mYRow F (I 6) n (F 7) p1.toInt64 j))) := va_D_addr (ws := (wsM A cI cB I (vp_updL J 16 (mSeeds p1.toInt64 j)) (va_up (va_up F 17 (rowN (F 7) (F 17) 10)) 7 (mYRow F (I 6) n (F 7) p1.toInt64 j)))) rfl hD
              refine topE (z := (mMin (mSd (mSeeds p1.toInt64 j)))) rfl ?_
              refine wcVi (As := [.int (mMin (mSd (mSeeds p1.toInt64 j)))]) (rest := []) hx hb hml hown hts hKK hP hD hS (c_X4_press l D cI cB cS hn h1 (mMin (mSd (mSeeds p1.toInt64 j)))) (cwV2 1 hts kw_428 kw_6 kw_425 kw_426 kw_427 rfl rfl (by decide +kernel) ⟨Nat.le_of_ble_eq_true rfl, Nat.le_of_ble_eq_true rfl⟩) 0 rfl rfl rfl rfl hl.1 rfl (Nat.le_of_ble_eq_true rfl) ⟨Nat.zero_le _, Nat.zero_le _⟩ dX4_yearsNow_52 (fun H locs hP hS => ?_)
              have hP : va_P D vwCl (wsM A cI cB I (vp_updL J 16 (mSd (mSeeds p1.toInt64 j))) (va_up (va_up F 17 (rowN (F 7) (F 17) 10)) 7 (rowN (mPress F (I 6) n (mMin (mSd (mSeeds p1.toInt64 j))) (mYRow F (I 6) n (F 7) p1.toInt64 j)) (mYRow F (I 6) n (F 7) p1.toInt64 j) 10))) H := hP
              have hD : va_D (FPw (wsM A cI cB I J F)) (wsM A cI cB I (vp_updL J 16 (mSd (mSeeds p1.toInt64 j))) (va_up (va_up F 17 (rowN (F 7) (F 17) 10)) 7 (rowN (mPress F (I 6) n (mMin (mSd (mSeeds p1.toInt64 j))) (mYRow F (I 6) n (F 7) p1.toInt64 j)) (mYRow F (I 6) n (F 7) p1.toInt64 j) 10))) := va_D_addr (ws := (wsM A cI cB I (vp_updL J 16 (mSd (mSeeds p1.toInt64 j))) (va_up (va_up F 17 (rowN (F 7) (F 17) 10)) 7 (mYRow F (I 6) n (F 7) p1.toInt64 j)))) rfl hD
              refine topE (z := (sumN (fun c => mTo F (I 6) n (nI c) (mMin (mSd (mSeeds p1.toInt64 j)))) 10)) rfl ?_
              refine lv_pop hx hb dX4_yearsNow_55 rfl ?_
              refine lv_iinc (v := (nI (j + 1))) (lv' := [(4, .int (nI (j + 1))), (0, .ref (A 0)), (1, .int (nI m9)), (2, .int p1), (3, .int p2)]) hx hb dX4_yearsNow_56 hl (k := 4) rfl (nI_add j 1) (by decide) rfl (fun ls hl => ?_)
              refine lv_goto (tgt := 39) hx hb dX4_yearsNow_59 (by decide) ?_
              have hP9 : va_P D vwCl (wsM A cI cB I (vp_updL J 16 (mSeeds p1.toInt64 (j + 1))) (va_up (va_up F 17 (rowN (F 7) (F 17) 10)) 7 (mYRow F (I 6) n (F 7) p1.toInt64 (j + 1)))) H := by exact hP
              exact ih_39 (j + 1) (nI (j + 1)) rfl (by omega) (by omega) H locs hP9 hS ls (lv_sub hl [1, 2, 3, 4, 0] rfl)
        have hP9 : va_P D vwCl (wsM A cI cB I (vp_updL J 16 (mSeeds p1.toInt64 0)) (va_up (va_up F 17 (rowN (F 7) (F 17) 10)) 7 (mYRow F (I 6) n (F 7) p1.toInt64 0))) H := by have hkn : k = 10 := (by omega); subst hkn; exact hP
        exact loop_39 ((m9 - 0) + 1) 0 (0 : Int32) rfl (by omega) (by omega) H locs hP9 hS ls (lv_sub hl [1, 2, 3, 4, 0] rfl)
      · have nc_1 : ¬ 10 ≤ k := fun h => c_1 ((nI_leI (a := 10) (b := k) (by omega) (by omega)).mpr h)
        refine lv_aload_n hx hb dX4_yearsNow_10 rfl (lv_at hl 0 rfl) ?_
        refine va_get (D := D) (ci := 4) (v := .ref (A 17)) (C := RX4) (T := TX4) (N := 29) hx hb hts inlX4 hown hK hP 0 rfl rfl 17 (by decide) (hts _ kw_70) (fun _ h9 => h9) rfl dX4_yearsNow_11 ?_
        refine lv_iload hx hb dX4_yearsNow_14 (lv_at hl 4 rfl) ?_
        refine lv_aload_n hx hb dX4_yearsNow_16 rfl (lv_at hl 0 rfl) ?_
        refine va_get (D := D) (ci := 4) (v := .ref (A 7)) (C := RX4) (T := TX4) (N := 29) hx hb hts inlX4 hown hK hP 0 rfl rfl 7 (by decide) (hts _ kw_63) (fun _ h9 => h9) rfl dX4_yearsNow_17 ?_
        refine lv_iload hx hb dX4_yearsNow_20 (lv_at hl 4 rfl) ?_
        refine va_iald (D := D) hx hb hK hP 5 0 rfl rfl (vp_in_nI (by omega) (by omega)) dX4_yearsNow_22 ?_
        refine topE (z := ((F 7) k)) (congrArg _ (nI_clamp (n := k) (by omega))) ?_
        refine va_iast (D := D) hx hb hK hP hD hS 11 0 rfl rfl (vp_in_nI (by omega) (by omega)) dX4_yearsNow_23 (fun H locs hP hD hS => ?_)
        rw [nI_clamp (n := k) (by omega)] at hP hD
        have hP : va_P D vwCl (wsM A cI cB I J (va_up F 17 (upd (rowN (F 7) (F 17) k) k ((F 7) k)))) H := hP
        have hD : va_D (FPw (wsM A cI cB I J F)) (wsM A cI cB I J (va_up F 17 (upd (rowN (F 7) (F 17) k) k ((F 7) k)))) := hD
        refine lv_iinc (v := (nI (k + 1))) (lv' := [(4, .int (nI (k + 1))), (0, .ref (A 0)), (1, .int (nI m9)), (2, .int p1), (3, .int p2)]) hx hb dX4_yearsNow_24 hl (k := 4) rfl (nI_add k 1) (by decide) rfl (fun ls hl => ?_)
        refine lv_goto (tgt := 3) hx hb dX4_yearsNow_27 (by decide) ?_
        have hP9 : va_P D vwCl (wsM A cI cB I J (va_up F 17 (rowN (F 7) (F 17) (k + 1)))) H := by rw [← rowN_upd]; exact hP
        exact ih_3 (k + 1) (nI (k + 1)) rfl (by omega) (by omega) H locs hP9 hS ls (lv_sub hl [1, 2, 3, 4, 0] rfl)
  have hP9 : va_P D vwCl (wsM A cI cB I J (va_up F 17 (rowN (F 7) (F 17) 0))) s.heap := by rw [rowN_0]; exact hP
  exact loop_3 ((10 - 0) + 1) 0 (0 : Int32) rfl (by omega) (by omega) s.heap [] hP9 hS ls (lv_sub hl [1, 2, 3, 4, 0] rfl)
set_option maxHeartbeats 1000000 in
set_option maxRecDepth 100000 in
theorem c_X4_years (l : Launch) (D : va_G) (cI cB cS : ClassId) {A : Nat → Nat} {I : Nat → Int32} {J : Nat → Int64} {F : Nat → Nat → Int32} {n : Nat} (hn : n ≤ 6) (h1 : I 1 = nI n) (p0 p1 p2 : Int32) : Met l yX4_years (Wm yX4_years cX4_years 4 (some .int)) ({ frames := 6, cells := 0, slots := 0, locals := 146 }) (va_Pc [.ref (A 0), .int p0, .int p1, .int p2] (PW D (TYS cI cB cS) (wsM A cI cB I J F))) (QcW D (some (.int (mYears n (mYRow F (I 6) n (F 7) p1.toInt64 p0.toNatClampNeg) (mSeeds p1.toInt64 p0.toNatClampNeg) p0 p1 p2))) (wsM A cI cB I J F) (if okY p0 p1 p2 ∧ 0 < n then wsM A cI cB I (vp_updL J 16 (mSeeds p1.toInt64 p0.toNatClampNeg)) (va_up (va_up F 17 (rowN (F 7) (F 17) 10)) 7 (rowN (rowN (F 7) (F 17) 10) (mYRow F (I 6) n (F 7) p1.toInt64 p0.toNatClampNeg) 10)) else wsM A cI cB I J F)) 0 0 (FPw (wsM A cI cB I J F)) := by
  refine metW (by decide) [.ref (A 0), .int p0, .int p1, .int p2] (Nat.le_of_ble_eq_true rfl) ?_
  intro p e s m args below meth c hx hb hml hr hlk hown hts hKK hP hD hS ls hl
  obtain ⟨hK, hN⟩ := id hKK
  have hl : lv_has ls 4 [(0, .ref (A 0)), (1, .int p0), (2, .int p1), (3, .int p2)] := hl
  refine lv_iload_n hx hb dX4_years_0 rfl (lv_at hl 1 rfl) ?_
  refine lv_iconst (v := (1 : Int32)) hx hb dX4_years_1 (by decide) ?_
  refine lv_bipush (v := (60 : Int32)) hx hb dX4_years_2 (by decide) ?_
  refine rcSi (As := [.int p0, .int (1 : Int32), .int (60 : Int32)]) (rest := []) hx hb hml hown hts hKK hP (c_X4_within l D cI cB cS p0 (1 : Int32) (60 : Int32)) (cwS2 3 hts kw_90 kw_6 kw_88 kw_89 rfl rfl (by decide +kernel) ⟨Nat.le_of_ble_eq_true rfl, Nat.le_of_ble_eq_true rfl⟩) rfl hl.1 rfl (Nat.le_of_ble_eq_true rfl) ⟨Nat.zero_le _, Nat.zero_le _⟩ dX4_years_4 ?_
  refine lv_if_eq (tgt := 23) hx hb dX4_years_7 (by decide) (fun c_1 => ?_) (fun c_1 => ?_)
  · have c_1 := b2_z c_1
    refine lv_bipush (v := (-102 : Int32)) hx hb dX4_years_23 (by decide) ?_
    exact retWi hx hb hr hlk hP hS dX4_years_25 (by grind [mYears]) (by first | exact (if_pos (by grind)).symm | exact (if_neg (by grind)).symm)
  · have c_1 := b2_nz c_1
    refine lv_iload_n hx hb dX4_years_10 rfl (lv_at hl 2 rfl) ?_
    refine lv_if_lt (tgt := 23) hx hb dX4_years_11 (by decide) (fun c_2 => ?_) (fun c_2 => ?_)
    · refine lv_bipush (v := (-102 : Int32)) hx hb dX4_years_23 (by decide) ?_
      exact retWi hx hb hr hlk hP hS dX4_years_25 (by grind [mYears]) (by first | exact (if_pos (by grind)).symm | exact (if_neg (by grind)).symm)
    · refine lv_iload_n hx hb dX4_years_14 rfl (lv_at hl 3 rfl) ?_
      refine lv_iconst (v := (0 : Int32)) hx hb dX4_years_15 (by decide) ?_
      refine lv_iconst (v := (2 : Int32)) hx hb dX4_years_16 (by decide) ?_
      refine rcSi (As := [.int p2, .int (0 : Int32), .int (2 : Int32)]) (rest := []) hx hb hml hown hts hKK hP (c_X4_within l D cI cB cS p2 (0 : Int32) (2 : Int32)) (cwS2 3 hts kw_90 kw_6 kw_88 kw_89 rfl rfl (by decide +kernel) ⟨Nat.le_of_ble_eq_true rfl, Nat.le_of_ble_eq_true rfl⟩) rfl hl.1 rfl (Nat.le_of_ble_eq_true rfl) ⟨Nat.zero_le _, Nat.zero_le _⟩ dX4_years_17 ?_
      refine lv_if_ne (tgt := 26) hx hb dX4_years_20 (by decide) (fun c_3 => ?_) (fun c_3 => ?_)
      · have c_3 := b2_nz c_3
        obtain ⟨ym, hym, hp0⟩ := yrs_nat c_1.1 c_1.2
        have hkc : p0.toNatClampNeg = ym := by rw [hp0]; exact nI_clamp (by omega)
        refine lv_aload_n hx hb dX4_years_26 rfl (lv_at hl 0 rfl) ?_
        refine va_get (D := D) (ci := 4) (v := .int (I 1)) (C := RX4) (T := TX4) (N := 29) hx hb hts inlX4 hown hK hP 0 rfl rfl 1 (by decide) (hts _ kw_251) (fun _ h9 => h9) rfl dX4_years_27 ?_
        refine topE (z := (nI n)) h1 ?_
        refine lv_if_ne (tgt := 38) hx hb dX4_years_30 (by decide) (fun c_4 => ?_) (fun c_4 => ?_)
        · have nc_4 : ¬ n = 0 := fun h => c_4 ((nI_eq (a := n) (b := 0) (by omega) (by omega)).mpr h)
          refine lv_aload_n hx hb dX4_years_38 rfl (lv_at hl 0 rfl) ?_
          refine lv_iload_n hx hb dX4_years_39 rfl (lv_at hl 1 rfl) ?_
          refine topE (z := (nI ym)) (by exact hp0) ?_
          refine lv_iload_n hx hb dX4_years_40 rfl (lv_at hl 2 rfl) ?_
          refine lv_iload_n hx hb dX4_years_41 rfl (lv_at hl 3 rfl) ?_
          refine wcVi (As := [.int (nI ym), .int p1, .int p2]) (rest := []) hx hb hml hown hts hKK hP hD hS (c_X4_yearsNow l D cI cB cS hn h1 (m9 := ym) (by omega) p1 p2) (cwV2 3 hts kw_564 kw_6 kw_561 kw_562 kw_563 rfl rfl (by decide +kernel) ⟨Nat.le_of_ble_eq_true rfl, Nat.le_of_ble_eq_true rfl⟩) 0 rfl rfl rfl rfl hl.1 rfl (Nat.le_of_ble_eq_true rfl) ⟨Nat.zero_le _, Nat.zero_le _⟩ dX4_years_42 (fun H locs hP hS => ?_)
          have hP : va_P D vwCl (wsM A cI cB I (vp_updL J 16 (mSeeds (p1).toInt64 ym)) (va_up (va_up F 17 (rowN (F 7) (F 17) 10)) 7 (rowN (rowN (F 7) (F 17) 10) (mYRow F (I 6) n (F 7) (p1).toInt64 ym) 10))) H := hP
          have hD : va_D (FPw (wsM A cI cB I J F)) (wsM A cI cB I (vp_updL J 16 (mSeeds (p1).toInt64 ym)) (va_up (va_up F 17 (rowN (F 7) (F 17) 10)) 7 (rowN (rowN (F 7) (F 17) 10) (mYRow F (I 6) n (F 7) (p1).toInt64 ym) 10))) := va_D_addr (ws := (wsM A cI cB I J F)) rfl hD
          exact retWi hx hb hr hlk hP hS dX4_years_45 (by rw [hkc]; grind [mYears]) (by rw [if_pos (by grind), hkc])
        · have nc_4 : n = 0 := (nI_eq (a := n) (b := 0) (by omega) (by omega)).mp c_4
          refine lv_bipush (v := (-103 : Int32)) hx hb dX4_years_33 (by decide) ?_
          refine lv_goto (tgt := 45) hx hb dX4_years_35 (by decide) ?_
          exact retWi hx hb hr hlk hP hS dX4_years_45 (by grind [mYears]) (by first | exact (if_pos (by grind)).symm | exact (if_neg (by grind)).symm)
      · have c_3 := b2_z c_3
        refine lv_bipush (v := (-102 : Int32)) hx hb dX4_years_23 (by decide) ?_
        exact retWi hx hb hr hlk hP hS dX4_years_25 (by grind [mYears]) (by first | exact (if_pos (by grind)).symm | exact (if_neg (by grind)).symm)
set_option maxHeartbeats 1000000 in
set_option maxRecDepth 100000 in
theorem c_X4_image (l : Launch) (D : va_G) (cI cB cS : ClassId) {A : Nat → Nat} {I : Nat → Int32} {J : Nat → Int64} {F : Nat → Nat → Int32} {n : Nat} (hn : n ≤ 6) (h1 : I 1 = nI n) : Met l yX4_image (Wm yX4_image cX4_image 2 (some .int)) ({ frames := 0, cells := 0, slots := 0, locals := 0 }) (va_Pc [.ref (A 0)] (PW D (TYS cI cB cS) (wsM A cI cB I J F))) (QcW D (some (.int (if 0 < n then I 8 else -103))) (wsM A cI cB I J F) (if 0 < n then wsM A cI cB (upd (upd (upd (upd (upd (upd I 18 1) 19 (I 0)) 20 (nI n)) 21 (I 6)) 22 (I 8)) 23 (I 9)) J (va_up (va_up (va_up (va_up F 24 (rowN (F 7) (F 24) 10)) 25 (rowN (F 10) (F 25) 6)) 26 (rowN (F 11) (F 26) 6)) 27 (rowN (F 12) (F 27) 6)) else wsM A cI cB I J F)) 0 0 (FPw (wsM A cI cB I J F)) := by
  refine metW (by decide) [.ref (A 0)] (Nat.le_of_ble_eq_true rfl) ?_
  intro p e s m args below meth c hx hb hml hr hlk hown hts hKK hP hD hS ls hl
  obtain ⟨hK, hN⟩ := id hKK
  have hl : lv_has ls 2 [(0, .ref (A 0))] := hl
  refine lv_aload_n hx hb dX4_image_0 rfl (lv_at hl 0 rfl) ?_
  refine va_get (D := D) (ci := 4) (v := .int (I 1)) (C := RX4) (T := TX4) (N := 29) hx hb hts inlX4 hown hK hP 0 rfl rfl 1 (by decide) (hts _ kw_251) (fun _ h9 => h9) rfl dX4_image_1 ?_
  refine topE (z := (nI n)) h1 ?_
  refine lv_if_ne (tgt := 10) hx hb dX4_image_4 (by decide) (fun c_1 => ?_) (fun c_1 => ?_)
  · have nc_1 : ¬ n = 0 := fun h => c_1 ((nI_eq (a := n) (b := 0) (by omega) (by omega)).mpr h)
    refine lv_aload_n hx hb dX4_image_10 rfl (lv_at hl 0 rfl) ?_
    refine lv_iconst (v := (1 : Int32)) hx hb dX4_image_11 (by decide) ?_
    refine va_put (D := D) (ci := 4) (v := .int (1 : Int32)) (ty := tyX4 18) (C := RX4) (T := TX4) (N := 29) hx hb hts inlX4 tyX4 tyX4_ok nmX4 hown hK hP hD hS 0 rfl rfl 18 (by decide) (hts _ kw_594) (fun _ h9 => h9) rfl (tyX4_ok 18 (by decide)) rfl rfl (Nat.le_of_ble_eq_true rfl) dX4_image_12 (fun H locs hP hD hS => ?_)
    have hP : va_P D vwCl (wsM A cI cB (upd I 18 (1 : Int32)) J F) H := hP
    have hD : va_D (FPw (wsM A cI cB I J F)) (wsM A cI cB (upd I 18 (1 : Int32)) J F) := hD
    refine lv_aload_n hx hb dX4_image_15 rfl (lv_at hl 0 rfl) ?_
    refine lv_aload_n hx hb dX4_image_16 rfl (lv_at hl 0 rfl) ?_
    refine va_get (D := D) (ci := 4) (v := .int (I 0)) (C := RX4) (T := TX4) (N := 29) hx hb hts inlX4 hown hK hP 0 rfl rfl 0 (by decide) (hts _ kw_252) (fun _ h9 => h9) rfl dX4_image_17 ?_
    refine va_put (D := D) (ci := 4) (v := .int (I 0)) (ty := tyX4 19) (C := RX4) (T := TX4) (N := 29) hx hb hts inlX4 tyX4 tyX4_ok nmX4 hown hK hP hD hS 0 rfl rfl 19 (by decide) (hts _ kw_595) (fun _ h9 => h9) rfl (tyX4_ok 19 (by decide)) rfl rfl (Nat.le_of_ble_eq_true rfl) dX4_image_20 (fun H locs hP hD hS => ?_)
    have hP : va_P D vwCl (wsM A cI cB (upd (upd I 18 (1 : Int32)) 19 (I 0)) J F) H := hP
    have hD : va_D (FPw (wsM A cI cB I J F)) (wsM A cI cB (upd (upd I 18 (1 : Int32)) 19 (I 0)) J F) := hD
    refine lv_aload_n hx hb dX4_image_23 rfl (lv_at hl 0 rfl) ?_
    refine lv_aload_n hx hb dX4_image_24 rfl (lv_at hl 0 rfl) ?_
    refine va_get (D := D) (ci := 4) (v := .int (I 1)) (C := RX4) (T := TX4) (N := 29) hx hb hts inlX4 hown hK hP 0 rfl rfl 1 (by decide) (hts _ kw_251) (fun _ h9 => h9) rfl dX4_image_25 ?_
    refine topE (z := (nI n)) h1 ?_
    refine va_put (D := D) (ci := 4) (v := .int (nI n)) (ty := tyX4 20) (C := RX4) (T := TX4) (N := 29) hx hb hts inlX4 tyX4 tyX4_ok nmX4 hown hK hP hD hS 0 rfl rfl 20 (by decide) (hts _ kw_596) (fun _ h9 => h9) rfl (tyX4_ok 20 (by decide)) rfl rfl (Nat.le_of_ble_eq_true rfl) dX4_image_28 (fun H locs hP hD hS => ?_)
    have hP : va_P D vwCl (wsM A cI cB (upd (upd (upd I 18 (1 : Int32)) 19 (I 0)) 20 (nI n)) J F) H := hP
    have hD : va_D (FPw (wsM A cI cB I J F)) (wsM A cI cB (upd (upd (upd I 18 (1 : Int32)) 19 (I 0)) 20 (nI n)) J F) := hD
    refine lv_aload_n hx hb dX4_image_31 rfl (lv_at hl 0 rfl) ?_
    refine lv_aload_n hx hb dX4_image_32 rfl (lv_at hl 0 rfl) ?_
    refine va_get (D := D) (ci := 4) (v := .int (I 6)) (C := RX4) (T := TX4) (N := 29) hx hb hts inlX4 hown hK hP 0 rfl rfl 6 (by decide) (hts _ kw_253) (fun _ h9 => h9) rfl dX4_image_33 ?_
    refine va_put (D := D) (ci := 4) (v := .int (I 6)) (ty := tyX4 21) (C := RX4) (T := TX4) (N := 29) hx hb hts inlX4 tyX4 tyX4_ok nmX4 hown hK hP hD hS 0 rfl rfl 21 (by decide) (hts _ kw_597) (fun _ h9 => h9) rfl (tyX4_ok 21 (by decide)) rfl rfl (Nat.le_of_ble_eq_true rfl) dX4_image_36 (fun H locs hP hD hS => ?_)
    have hP : va_P D vwCl (wsM A cI cB (upd (upd (upd (upd I 18 (1 : Int32)) 19 (I 0)) 20 (nI n)) 21 (I 6)) J F) H := hP
    have hD : va_D (FPw (wsM A cI cB I J F)) (wsM A cI cB (upd (upd (upd (upd I 18 (1 : Int32)) 19 (I 0)) 20 (nI n)) 21 (I 6)) J F) := hD
    refine lv_aload_n hx hb dX4_image_39 rfl (lv_at hl 0 rfl) ?_
    refine lv_aload_n hx hb dX4_image_40 rfl (lv_at hl 0 rfl) ?_
    refine va_get (D := D) (ci := 4) (v := .int (I 8)) (C := RX4) (T := TX4) (N := 29) hx hb hts inlX4 hown hK hP 0 rfl rfl 8 (by decide) (hts _ kw_254) (fun _ h9 => h9) rfl dX4_image_41 ?_
    refine va_put (D := D) (ci := 4) (v := .int (I 8)) (ty := tyX4 22) (C := RX4) (T := TX4) (N := 29) hx hb hts inlX4 tyX4 tyX4_ok nmX4 hown hK hP hD hS 0 rfl rfl 22 (by decide) (hts _ kw_598) (fun _ h9 => h9) rfl (tyX4_ok 22 (by decide)) rfl rfl (Nat.le_of_ble_eq_true rfl) dX4_image_44 (fun H locs hP hD hS => ?_)
    have hP : va_P D vwCl (wsM A cI cB (upd (upd (upd (upd (upd I 18 (1 : Int32)) 19 (I 0)) 20 (nI n)) 21 (I 6)) 22 (I 8)) J F) H := hP
    have hD : va_D (FPw (wsM A cI cB I J F)) (wsM A cI cB (upd (upd (upd (upd (upd I 18 (1 : Int32)) 19 (I 0)) 20 (nI n)) 21 (I 6)) 22 (I 8)) J F) := hD
    refine lv_aload_n hx hb dX4_image_47 rfl (lv_at hl 0 rfl) ?_
    refine lv_aload_n hx hb dX4_image_48 rfl (lv_at hl 0 rfl) ?_
    refine va_get (D := D) (ci := 4) (v := .int (I 9)) (C := RX4) (T := TX4) (N := 29) hx hb hts inlX4 hown hK hP 0 rfl rfl 9 (by decide) (hts _ kw_255) (fun _ h9 => h9) rfl dX4_image_49 ?_
    refine va_put (D := D) (ci := 4) (v := .int (I 9)) (ty := tyX4 23) (C := RX4) (T := TX4) (N := 29) hx hb hts inlX4 tyX4 tyX4_ok nmX4 hown hK hP hD hS 0 rfl rfl 23 (by decide) (hts _ kw_599) (fun _ h9 => h9) rfl (tyX4_ok 23 (by decide)) rfl rfl (Nat.le_of_ble_eq_true rfl) dX4_image_52 (fun H locs hP hD hS => ?_)
    have hP : va_P D vwCl (wsM A cI cB (upd (upd (upd (upd (upd (upd I 18 (1 : Int32)) 19 (I 0)) 20 (nI n)) 21 (I 6)) 22 (I 8)) 23 (I 9)) J F) H := hP
    have hD : va_D (FPw (wsM A cI cB I J F)) (wsM A cI cB (upd (upd (upd (upd (upd (upd I 18 (1 : Int32)) 19 (I 0)) 20 (nI n)) 21 (I 6)) 22 (I 8)) 23 (I 9)) J F) := hD
    refine lv_iconst (v := (0 : Int32)) hx hb dX4_image_55 (by decide) ?_
    refine lv_istore_n (lv' := [(1, .int (0 : Int32)), (0, .ref (A 0))]) hx hb dX4_image_56 rfl hl (by decide) rfl (fun ls hl => ?_)
    have loop_57 : ∀ (z : Nat) (k : Nat) (x1 : Int32), x1 = nI k → (k ≤ 10) → 10 - k < z → ∀ (H : Heap) (locs : List Loc), va_P D vwCl (wsM A cI cB (upd (upd (upd (upd (upd (upd I 18 (1 : Int32)) 19 (I 0)) 20 (nI n)) 21 (I 6)) 22 (I 8)) 23 (I 9)) J (va_up F 24 (rowN (F 7) (F 24) k))) H → va_S (FPw (wsM A cI cB I J F)) s.heap H locs → ∀ (ls : Array Slot), lv_has ls 2 [(0, .ref (A 0)), (1, .int x1)] → W p l e ({ frames := 0, cells := 0, slots := 0, locals := 0 } : Room) s m args below meth c H locs 0 0 (MQ below (QcW D (some (.int (if 0 < n then I 8 else -103))) (wsM A cI cB I J F) (if 0 < n then wsM A cI cB (upd (upd (upd (upd (upd (upd I 18 1) 19 (I 0)) 20 (nI n)) 21 (I 6)) 22 (I 8)) 23 (I 9)) J (va_up (va_up (va_up (va_up F 24 (rowN (F 7) (F 24) 10)) 25 (rowN (F 10) (F 25) 6)) 26 (rowN (F 11) (F 26) 6)) 27 (rowN (F 12) (F 27) 6)) else wsM A cI cB I J F)) args s 0 0 (FPw (wsM A cI cB I J F))) (F0 m 57 ls []) := by
      intro z
      induction z with
      | zero =>
        intro k x1 ex1 hk hz
        exact absurd hz (Nat.not_lt_zero _)
      | succ z ih_57 =>
        intro k x1 ex1 hk hz H locs hP hS ls hl
        subst ex1
        have hD := va_D_addr (ws := (wsM A cI cB (upd (upd (upd (upd (upd (upd I 18 (1 : Int32)) 19 (I 0)) 20 (nI n)) 21 (I 6)) 22 (I 8)) 23 (I 9)) J F)) (ws' := (wsM A cI cB (upd (upd (upd (upd (upd (upd I 18 (1 : Int32)) 19 (I 0)) 20 (nI n)) 21 (I 6)) 22 (I 8)) 23 (I 9)) J (va_up F 24 (rowN (F 7) (F 24) k)))) rfl hD
        refine lv_iload_n hx hb dX4_image_57 rfl (lv_at hl 1 rfl) ?_
        refine lv_bipush (v := (10 : Int32)) hx hb dX4_image_58 (by decide) ?_
        refine lv_icmp_ge (tgt := 81) hx hb dX4_image_60 (by decide) (fun c_2 => ?_) (fun c_2 => ?_)
        · have nc_2 : 10 ≤ k := (nI_leI (a := 10) (b := k) (by omega) (by omega)).mp c_2
          refine lv_iconst (v := (0 : Int32)) hx hb dX4_image_81 (by decide) ?_
          refine lv_istore_n (lv' := [(1, .int (0 : Int32)), (0, .ref (A 0))]) hx hb dX4_image_82 rfl hl (by decide) rfl (fun ls hl => ?_)
          have loop_83 : ∀ (z : Nat) (j : Nat) (y1 : Int32), y1 = nI j → (j ≤ 6) → 6 - j < z → ∀ (H : Heap) (locs : List Loc), va_P D vwCl (wsM A cI cB (upd (upd (upd (upd (upd (upd I 18 (1 : Int32)) 19 (I 0)) 20 (nI n)) 21 (I 6)) 22 (I 8)) 23 (I 9)) J (va_up (va_up (va_up (va_up F 24 (rowN (F 7) (F 24) 10)) 25 (rowN (F 10) (F 25) j)) 26 (rowN (F 11) (F 26) j)) 27 (rowN (F 12) (F 27) j))) H → va_S (FPw (wsM A cI cB I J F)) s.heap H locs → ∀ (ls : Array Slot), lv_has ls 2 [(0, .ref (A 0)), (1, .int y1)] → W p l e ({ frames := 0, cells := 0, slots := 0, locals := 0 } : Room) s m args below meth c H locs 0 0 (MQ below (QcW D (some (.int (if 0 < n then I 8 else -103))) (wsM A cI cB I J F) (if 0 < n then wsM A cI cB (upd (upd (upd (upd (upd (upd I 18 1) 19 (I 0)) 20 (nI n)) 21 (I 6)) 22 (I 8)) 23 (I 9)) J (va_up (va_up (va_up (va_up F 24 (rowN (F 7) (F 24) 10)) 25 (rowN (F 10) (F 25) 6)) 26 (rowN (F 11) (F 26) 6)) 27 (rowN (F 12) (F 27) 6)) else wsM A cI cB I J F)) args s 0 0 (FPw (wsM A cI cB I J F))) (F0 m 83 ls []) := by
            intro z
            induction z with
            | zero =>
              intro j y1 ey1 hj hz
              exact absurd hz (Nat.not_lt_zero _)
            | succ z ih_83 =>
              intro j y1 ey1 hj hz H locs hP hS ls hl
              subst ey1
              have hD := va_D_addr (ws := (wsM A cI cB (upd (upd (upd (upd (upd (upd I 18 (1 : Int32)) 19 (I 0)) 20 (nI n)) 21 (I 6)) 22 (I 8)) 23 (I 9)) J (va_up F 24 (rowN (F 7) (F 24) k)))) (ws' := (wsM A cI cB (upd (upd (upd (upd (upd (upd I 18 (1 : Int32)) 19 (I 0)) 20 (nI n)) 21 (I 6)) 22 (I 8)) 23 (I 9)) J (va_up (va_up (va_up (va_up F 24 (rowN (F 7) (F 24) 10)) 25 (rowN (F 10) (F 25) j)) 26 (rowN (F 11) (F 26) j)) 27 (rowN (F 12) (F 27) j)))) rfl hD
              refine lv_iload_n hx hb dX4_image_83 rfl (lv_at hl 1 rfl) ?_
              refine lv_bipush (v := (6 : Int32)) hx hb dX4_image_84 (by decide) ?_
              refine lv_icmp_ge (tgt := 131) hx hb dX4_image_86 (by decide) (fun c_3 => ?_) (fun c_3 => ?_)
              · have nc_3 : 6 ≤ j := (nI_leI (a := 6) (b := j) (by omega) (by omega)).mp c_3
                refine lv_aload_n hx hb dX4_image_131 rfl (lv_at hl 0 rfl) ?_
                refine va_get (D := D) (ci := 4) (v := .int (I 8)) (C := RX4) (T := TX4) (N := 29) hx hb hts inlX4 hown hK hP 0 rfl rfl 8 (by decide) (hts _ kw_254) (fun _ h9 => h9) rfl dX4_image_132 ?_
                exact retWi hx hb hr hlk hP hS dX4_image_135 (by first | exact (if_pos (by grind)).symm | exact (if_neg (by grind)).symm) (by have hjn : j = 6 := (by omega); subst hjn; exact (if_pos (by omega)).symm)
              · have nc_3 : ¬ 6 ≤ j := fun h => c_3 ((nI_leI (a := 6) (b := j) (by omega) (by omega)).mpr h)
                refine lv_aload_n hx hb dX4_image_89 rfl (lv_at hl 0 rfl) ?_
                refine va_get (D := D) (ci := 4) (v := .ref (A 25)) (C := RX4) (T := TX4) (N := 29) hx hb hts inlX4 hown hK hP 0 rfl rfl 25 (by decide) (hts _ kw_72) (fun _ h9 => h9) rfl dX4_image_90 ?_
                refine lv_iload_n hx hb dX4_image_93 rfl (lv_at hl 1 rfl) ?_
                refine lv_aload_n hx hb dX4_image_94 rfl (lv_at hl 0 rfl) ?_
                refine va_get (D := D) (ci := 4) (v := .ref (A 10)) (C := RX4) (T := TX4) (N := 29) hx hb hts inlX4 hown hK hP 0 rfl rfl 10 (by decide) (hts _ kw_64) (fun _ h9 => h9) rfl dX4_image_95 ?_
                refine lv_iload_n hx hb dX4_image_98 rfl (lv_at hl 1 rfl) ?_
                refine va_iald (D := D) hx hb hK hP 6 0 rfl rfl (vp_in_nI (by omega) (by omega)) dX4_image_99 ?_
                refine topE (z := ((F 10) j)) (congrArg _ (nI_clamp (n := j) (by omega))) ?_
                refine va_iast (D := D) hx hb hK hP hD hS 13 0 rfl rfl (vp_in_nI (by omega) (by omega)) dX4_image_100 (fun H locs hP hD hS => ?_)
                rw [nI_clamp (n := j) (by omega)] at hP hD
                have hP : va_P D vwCl (wsM A cI cB (upd (upd (upd (upd (upd (upd I 18 (1 : Int32)) 19 (I 0)) 20 (nI n)) 21 (I 6)) 22 (I 8)) 23 (I 9)) J (va_up (va_up (va_up (va_up F 24 (rowN (F 7) (F 24) 10)) 25 (upd (rowN (F 10) (F 25) j) j ((F 10) j))) 26 (rowN (F 11) (F 26) j)) 27 (rowN (F 12) (F 27) j))) H := hP
                have hD : va_D (FPw (wsM A cI cB I J F)) (wsM A cI cB (upd (upd (upd (upd (upd (upd I 18 (1 : Int32)) 19 (I 0)) 20 (nI n)) 21 (I 6)) 22 (I 8)) 23 (I 9)) J (va_up (va_up (va_up (va_up F 24 (rowN (F 7) (F 24) 10)) 25 (upd (rowN (F 10) (F 25) j) j ((F 10) j))) 26 (rowN (F 11) (F 26) j)) 27 (rowN (F 12) (F 27) j))) := hD
                refine lv_aload_n hx hb dX4_image_101 rfl (lv_at hl 0 rfl) ?_
                refine va_get (D := D) (ci := 4) (v := .ref (A 26)) (C := RX4) (T := TX4) (N := 29) hx hb hts inlX4 hown hK hP 0 rfl rfl 26 (by decide) (hts _ kw_73) (fun _ h9 => h9) rfl dX4_image_102 ?_
                refine lv_iload_n hx hb dX4_image_105 rfl (lv_at hl 1 rfl) ?_
                refine lv_aload_n hx hb dX4_image_106 rfl (lv_at hl 0 rfl) ?_
                refine va_get (D := D) (ci := 4) (v := .ref (A 11)) (C := RX4) (T := TX4) (N := 29) hx hb hts inlX4 hown hK hP 0 rfl rfl 11 (by decide) (hts _ kw_65) (fun _ h9 => h9) rfl dX4_image_107 ?_
                refine lv_iload_n hx hb dX4_image_110 rfl (lv_at hl 1 rfl) ?_
                refine va_iald (D := D) hx hb hK hP 7 0 rfl rfl (vp_in_nI (by omega) (by omega)) dX4_image_111 ?_
                refine topE (z := ((F 11) j)) (congrArg _ (nI_clamp (n := j) (by omega))) ?_
                refine va_iast (D := D) hx hb hK hP hD hS 14 0 rfl rfl (vp_in_nI (by omega) (by omega)) dX4_image_112 (fun H locs hP hD hS => ?_)
                rw [nI_clamp (n := j) (by omega)] at hP hD
                have hP : va_P D vwCl (wsM A cI cB (upd (upd (upd (upd (upd (upd I 18 (1 : Int32)) 19 (I 0)) 20 (nI n)) 21 (I 6)) 22 (I 8)) 23 (I 9)) J (va_up (va_up (va_up (va_up F 24 (rowN (F 7) (F 24) 10)) 25 (upd (rowN (F 10) (F 25) j) j ((F 10) j))) 26 (upd (rowN (F 11) (F 26) j) j ((F 11) j))) 27 (rowN (F 12) (F 27) j))) H := hP
                have hD : va_D (FPw (wsM A cI cB I J F)) (wsM A cI cB (upd (upd (upd (upd (upd (upd I 18 (1 : Int32)) 19 (I 0)) 20 (nI n)) 21 (I 6)) 22 (I 8)) 23 (I 9)) J (va_up (va_up (va_up (va_up F 24 (rowN (F 7) (F 24) 10)) 25 (upd (rowN (F 10) (F 25) j) j ((F 10) j))) 26 (upd (rowN (F 11) (F 26) j) j ((F 11) j))) 27 (rowN (F 12) (F 27) j))) := hD
                refine lv_aload_n hx hb dX4_image_113 rfl (lv_at hl 0 rfl) ?_
                refine va_get (D := D) (ci := 4) (v := .ref (A 27)) (C := RX4) (T := TX4) (N := 29) hx hb hts inlX4 hown hK hP 0 rfl rfl 27 (by decide) (hts _ kw_74) (fun _ h9 => h9) rfl dX4_image_114 ?_
                refine lv_iload_n hx hb dX4_image_117 rfl (lv_at hl 1 rfl) ?_
                refine lv_aload_n hx hb dX4_image_118 rfl (lv_at hl 0 rfl) ?_
                refine va_get (D := D) (ci := 4) (v := .ref (A 12)) (C := RX4) (T := TX4) (N := 29) hx hb hts inlX4 hown hK hP 0 rfl rfl 12 (by decide) (hts _ kw_66) (fun _ h9 => h9) rfl dX4_image_119 ?_
                refine lv_iload_n hx hb dX4_image_122 rfl (lv_at hl 1 rfl) ?_
                refine va_iald (D := D) hx hb hK hP 8 0 rfl rfl (vp_in_nI (by omega) (by omega)) dX4_image_123 ?_
                refine topE (z := ((F 12) j)) (congrArg _ (nI_clamp (n := j) (by omega))) ?_
                refine va_iast (D := D) hx hb hK hP hD hS 15 0 rfl rfl (vp_in_nI (by omega) (by omega)) dX4_image_124 (fun H locs hP hD hS => ?_)
                rw [nI_clamp (n := j) (by omega)] at hP hD
                have hP : va_P D vwCl (wsM A cI cB (upd (upd (upd (upd (upd (upd I 18 (1 : Int32)) 19 (I 0)) 20 (nI n)) 21 (I 6)) 22 (I 8)) 23 (I 9)) J (va_up (va_up (va_up (va_up F 24 (rowN (F 7) (F 24) 10)) 25 (upd (rowN (F 10) (F 25) j) j ((F 10) j))) 26 (upd (rowN (F 11) (F 26) j) j ((F 11) j))) 27 (upd (rowN (F 12) (F 27) j) j ((F 12) j)))) H := hP
                have hD : va_D (FPw (wsM A cI cB I J F)) (wsM A cI cB (upd (upd (upd (upd (upd (upd I 18 (1 : Int32)) 19 (I 0)) 20 (nI n)) 21 (I 6)) 22 (I 8)) 23 (I 9)) J (va_up (va_up (va_up (va_up F 24 (rowN (F 7) (F 24) 10)) 25 (upd (rowN (F 10) (F 25) j) j ((F 10) j))) 26 (upd (rowN (F 11) (F 26) j) j ((F 11) j))) 27 (upd (rowN (F 12) (F 27) j) j ((F 12) j)))) := hD
                refine lv_iinc (v := (nI (j + 1))) (lv' := [(1, .int (nI (j + 1))), (0, .ref (A 0))]) hx hb dX4_image_125 hl (k := 1) rfl (nI_add j 1) (by decide) rfl (fun ls hl => ?_)
                refine lv_goto (tgt := 83) hx hb dX4_image_128 (by decide) ?_
                have hP9 : va_P D vwCl (wsM A cI cB (upd (upd (upd (upd (upd (upd I 18 (1 : Int32)) 19 (I 0)) 20 (nI n)) 21 (I 6)) 22 (I 8)) 23 (I 9)) J (va_up (va_up (va_up (va_up F 24 (rowN (F 7) (F 24) 10)) 25 (rowN (F 10) (F 25) (j + 1))) 26 (rowN (F 11) (F 26) (j + 1))) 27 (rowN (F 12) (F 27) (j + 1)))) H := by rw [← rowN_upd (i := j), ← rowN_upd (i := j), ← rowN_upd (i := j)]; exact hP
                exact ih_83 (j + 1) (nI (j + 1)) rfl (by omega) (by omega) H locs hP9 hS ls (lv_sub hl [1, 0] rfl)
          have hP9 : va_P D vwCl (wsM A cI cB (upd (upd (upd (upd (upd (upd I 18 (1 : Int32)) 19 (I 0)) 20 (nI n)) 21 (I 6)) 22 (I 8)) 23 (I 9)) J (va_up (va_up (va_up (va_up F 24 (rowN (F 7) (F 24) 10)) 25 (rowN (F 10) (F 25) 0)) 26 (rowN (F 11) (F 26) 0)) 27 (rowN (F 12) (F 27) 0))) H := by have hkn : k = 10 := (by omega); subst hkn; rw [rowN_0, rowN_0, rowN_0]; exact hP
          exact loop_83 ((6 - 0) + 1) 0 (0 : Int32) rfl (by omega) (by omega) H locs hP9 hS ls (lv_sub hl [1, 0] rfl)
        · have nc_2 : ¬ 10 ≤ k := fun h => c_2 ((nI_leI (a := 10) (b := k) (by omega) (by omega)).mpr h)
          refine lv_aload_n hx hb dX4_image_63 rfl (lv_at hl 0 rfl) ?_
          refine va_get (D := D) (ci := 4) (v := .ref (A 24)) (C := RX4) (T := TX4) (N := 29) hx hb hts inlX4 hown hK hP 0 rfl rfl 24 (by decide) (hts _ kw_71) (fun _ h9 => h9) rfl dX4_image_64 ?_
          refine lv_iload_n hx hb dX4_image_67 rfl (lv_at hl 1 rfl) ?_
          refine lv_aload_n hx hb dX4_image_68 rfl (lv_at hl 0 rfl) ?_
          refine va_get (D := D) (ci := 4) (v := .ref (A 7)) (C := RX4) (T := TX4) (N := 29) hx hb hts inlX4 hown hK hP 0 rfl rfl 7 (by decide) (hts _ kw_63) (fun _ h9 => h9) rfl dX4_image_69 ?_
          refine lv_iload_n hx hb dX4_image_72 rfl (lv_at hl 1 rfl) ?_
          refine va_iald (D := D) hx hb hK hP 5 0 rfl rfl (vp_in_nI (by omega) (by omega)) dX4_image_73 ?_
          refine topE (z := ((F 7) k)) (congrArg _ (nI_clamp (n := k) (by omega))) ?_
          refine va_iast (D := D) hx hb hK hP hD hS 12 0 rfl rfl (vp_in_nI (by omega) (by omega)) dX4_image_74 (fun H locs hP hD hS => ?_)
          rw [nI_clamp (n := k) (by omega)] at hP hD
          have hP : va_P D vwCl (wsM A cI cB (upd (upd (upd (upd (upd (upd I 18 (1 : Int32)) 19 (I 0)) 20 (nI n)) 21 (I 6)) 22 (I 8)) 23 (I 9)) J (va_up F 24 (upd (rowN (F 7) (F 24) k) k ((F 7) k)))) H := hP
          have hD : va_D (FPw (wsM A cI cB I J F)) (wsM A cI cB (upd (upd (upd (upd (upd (upd I 18 (1 : Int32)) 19 (I 0)) 20 (nI n)) 21 (I 6)) 22 (I 8)) 23 (I 9)) J (va_up F 24 (upd (rowN (F 7) (F 24) k) k ((F 7) k)))) := hD
          refine lv_iinc (v := (nI (k + 1))) (lv' := [(1, .int (nI (k + 1))), (0, .ref (A 0))]) hx hb dX4_image_75 hl (k := 1) rfl (nI_add k 1) (by decide) rfl (fun ls hl => ?_)
          refine lv_goto (tgt := 57) hx hb dX4_image_78 (by decide) ?_
          have hP9 : va_P D vwCl (wsM A cI cB (upd (upd (upd (upd (upd (upd I 18 (1 : Int32)) 19 (I 0)) 20 (nI n)) 21 (I 6)) 22 (I 8)) 23 (I 9)) J (va_up F 24 (rowN (F 7) (F 24) (k + 1)))) H := by rw [← rowN_upd]; exact hP
          exact ih_57 (k + 1) (nI (k + 1)) rfl (by omega) (by omega) H locs hP9 hS ls (lv_sub hl [1, 0] rfl)
    have hP9 : va_P D vwCl (wsM A cI cB (upd (upd (upd (upd (upd (upd I 18 (1 : Int32)) 19 (I 0)) 20 (nI n)) 21 (I 6)) 22 (I 8)) 23 (I 9)) J (va_up F 24 (rowN (F 7) (F 24) 0))) H := by rw [rowN_0]; exact hP
    exact loop_57 ((10 - 0) + 1) 0 (0 : Int32) rfl (by omega) (by omega) H locs hP9 hS ls (lv_sub hl [1, 0] rfl)
  · have nc_1 : n = 0 := (nI_eq (a := n) (b := 0) (by omega) (by omega)).mp c_1
    refine lv_bipush (v := (-103 : Int32)) hx hb dX4_image_7 (by decide) ?_
    exact retWi hx hb hr hlk hP hS dX4_image_9 (by first | exact (if_pos (by grind)).symm | exact (if_neg (by grind)).symm) (by first | exact (if_pos (by grind)).symm | exact (if_neg (by grind)).symm)
set_option maxHeartbeats 1000000 in
set_option maxRecDepth 100000 in
theorem c_X4_restore (l : Launch) (D : va_G) (cI cB cS : ClassId) {A : Nat → Nat} {I : Nat → Int32} {J : Nat → Int64} {F : Nat → Nat → Int32} {n : Nat} (hn : n ≤ 6) (h1 : I 1 = nI n) : Met l yX4_restore (Wm yX4_restore cX4_restore 2 (some .int)) ({ frames := 0, cells := 0, slots := 0, locals := 0 }) (va_Pc [.ref (A 0)] (PW D (TYS cI cB cS) (wsM A cI cB I J F))) (QcW D (some (.int (if (¬ I 18 = 0 ∧ I 19 = I 0) then I 22 else -103))) (wsM A cI cB I J F) (if (¬ I 18 = 0 ∧ I 19 = I 0) then wsM A cI cB (upd (upd (upd (upd I 1 (I 20)) 6 (I 21)) 8 (I 22)) 9 (I 23)) J (va_up (va_up (va_up (va_up F 7 (rowN (F 24) (F 7) 10)) 10 (rowN (F 25) (F 10) 6)) 11 (rowN (F 26) (F 11) 6)) 12 (rowN (F 27) (F 12) 6)) else wsM A cI cB I J F)) 0 0 (FPw (wsM A cI cB I J F)) := by
  refine metW (by decide) [.ref (A 0)] (Nat.le_of_ble_eq_true rfl) ?_
  intro p e s m args below meth c hx hb hml hr hlk hown hts hKK hP hD hS ls hl
  obtain ⟨hK, hN⟩ := id hKK
  have hl : lv_has ls 2 [(0, .ref (A 0))] := hl
  refine lv_aload_n hx hb dX4_restore_0 rfl (lv_at hl 0 rfl) ?_
  refine va_get (D := D) (ci := 4) (v := .int (I 18)) (C := RX4) (T := TX4) (N := 29) hx hb hts inlX4 hown hK hP 0 rfl rfl 18 (by decide) (hts _ kw_594) (fun _ h9 => h9) rfl dX4_restore_1 ?_
  refine lv_if_eq (tgt := 18) hx hb dX4_restore_4 (by decide) (fun c_1 => ?_) (fun c_1 => ?_)
  · refine lv_bipush (v := (-103 : Int32)) hx hb dX4_restore_18 (by decide) ?_
    exact retWi hx hb hr hlk hP hS dX4_restore_20 (by first | exact (if_pos (by grind)).symm | exact (if_neg (by grind)).symm) (by first | exact (if_pos (by grind)).symm | exact (if_neg (by grind)).symm)
  · refine lv_aload_n hx hb dX4_restore_7 rfl (lv_at hl 0 rfl) ?_
    refine va_get (D := D) (ci := 4) (v := .int (I 19)) (C := RX4) (T := TX4) (N := 29) hx hb hts inlX4 hown hK hP 0 rfl rfl 19 (by decide) (hts _ kw_595) (fun _ h9 => h9) rfl dX4_restore_8 ?_
    refine lv_aload_n hx hb dX4_restore_11 rfl (lv_at hl 0 rfl) ?_
    refine va_get (D := D) (ci := 4) (v := .int (I 0)) (C := RX4) (T := TX4) (N := 29) hx hb hts inlX4 hown hK hP 0 rfl rfl 0 (by decide) (hts _ kw_252) (fun _ h9 => h9) rfl dX4_restore_12 ?_
    refine lv_icmp_eq (tgt := 21) hx hb dX4_restore_15 (by decide) (fun c_2 => ?_) (fun c_2 => ?_)
    · refine lv_aload_n hx hb dX4_restore_21 rfl (lv_at hl 0 rfl) ?_
      refine lv_aload_n hx hb dX4_restore_22 rfl (lv_at hl 0 rfl) ?_
      refine va_get (D := D) (ci := 4) (v := .int (I 20)) (C := RX4) (T := TX4) (N := 29) hx hb hts inlX4 hown hK hP 0 rfl rfl 20 (by decide) (hts _ kw_596) (fun _ h9 => h9) rfl dX4_restore_23 ?_
      refine va_put (D := D) (ci := 4) (v := .int (I 20)) (ty := tyX4 1) (C := RX4) (T := TX4) (N := 29) hx hb hts inlX4 tyX4 tyX4_ok nmX4 hown hK hP hD hS 0 rfl rfl 1 (by decide) (hts _ kw_251) (fun _ h9 => h9) rfl (tyX4_ok 1 (by decide)) rfl rfl (Nat.le_of_ble_eq_true rfl) dX4_restore_26 (fun H locs hP hD hS => ?_)
      have hP : va_P D vwCl (wsM A cI cB (upd I 1 (I 20)) J F) H := hP
      have hD : va_D (FPw (wsM A cI cB I J F)) (wsM A cI cB (upd I 1 (I 20)) J F) := hD
      refine lv_aload_n hx hb dX4_restore_29 rfl (lv_at hl 0 rfl) ?_
      refine lv_aload_n hx hb dX4_restore_30 rfl (lv_at hl 0 rfl) ?_
      refine va_get (D := D) (ci := 4) (v := .int (I 21)) (C := RX4) (T := TX4) (N := 29) hx hb hts inlX4 hown hK hP 0 rfl rfl 21 (by decide) (hts _ kw_597) (fun _ h9 => h9) rfl dX4_restore_31 ?_
      refine va_put (D := D) (ci := 4) (v := .int (I 21)) (ty := tyX4 6) (C := RX4) (T := TX4) (N := 29) hx hb hts inlX4 tyX4 tyX4_ok nmX4 hown hK hP hD hS 0 rfl rfl 6 (by decide) (hts _ kw_253) (fun _ h9 => h9) rfl (tyX4_ok 6 (by decide)) rfl rfl (Nat.le_of_ble_eq_true rfl) dX4_restore_34 (fun H locs hP hD hS => ?_)
      have hP : va_P D vwCl (wsM A cI cB (upd (upd I 1 (I 20)) 6 (I 21)) J F) H := hP
      have hD : va_D (FPw (wsM A cI cB I J F)) (wsM A cI cB (upd (upd I 1 (I 20)) 6 (I 21)) J F) := hD
      refine lv_aload_n hx hb dX4_restore_37 rfl (lv_at hl 0 rfl) ?_
      refine lv_aload_n hx hb dX4_restore_38 rfl (lv_at hl 0 rfl) ?_
      refine va_get (D := D) (ci := 4) (v := .int (I 22)) (C := RX4) (T := TX4) (N := 29) hx hb hts inlX4 hown hK hP 0 rfl rfl 22 (by decide) (hts _ kw_598) (fun _ h9 => h9) rfl dX4_restore_39 ?_
      refine va_put (D := D) (ci := 4) (v := .int (I 22)) (ty := tyX4 8) (C := RX4) (T := TX4) (N := 29) hx hb hts inlX4 tyX4 tyX4_ok nmX4 hown hK hP hD hS 0 rfl rfl 8 (by decide) (hts _ kw_254) (fun _ h9 => h9) rfl (tyX4_ok 8 (by decide)) rfl rfl (Nat.le_of_ble_eq_true rfl) dX4_restore_42 (fun H locs hP hD hS => ?_)
      have hP : va_P D vwCl (wsM A cI cB (upd (upd (upd I 1 (I 20)) 6 (I 21)) 8 (I 22)) J F) H := hP
      have hD : va_D (FPw (wsM A cI cB I J F)) (wsM A cI cB (upd (upd (upd I 1 (I 20)) 6 (I 21)) 8 (I 22)) J F) := hD
      refine lv_aload_n hx hb dX4_restore_45 rfl (lv_at hl 0 rfl) ?_
      refine lv_aload_n hx hb dX4_restore_46 rfl (lv_at hl 0 rfl) ?_
      refine va_get (D := D) (ci := 4) (v := .int (I 23)) (C := RX4) (T := TX4) (N := 29) hx hb hts inlX4 hown hK hP 0 rfl rfl 23 (by decide) (hts _ kw_599) (fun _ h9 => h9) rfl dX4_restore_47 ?_
      refine va_put (D := D) (ci := 4) (v := .int (I 23)) (ty := tyX4 9) (C := RX4) (T := TX4) (N := 29) hx hb hts inlX4 tyX4 tyX4_ok nmX4 hown hK hP hD hS 0 rfl rfl 9 (by decide) (hts _ kw_255) (fun _ h9 => h9) rfl (tyX4_ok 9 (by decide)) rfl rfl (Nat.le_of_ble_eq_true rfl) dX4_restore_50 (fun H locs hP hD hS => ?_)
      have hP : va_P D vwCl (wsM A cI cB (upd (upd (upd (upd I 1 (I 20)) 6 (I 21)) 8 (I 22)) 9 (I 23)) J F) H := hP
      have hD : va_D (FPw (wsM A cI cB I J F)) (wsM A cI cB (upd (upd (upd (upd I 1 (I 20)) 6 (I 21)) 8 (I 22)) 9 (I 23)) J F) := hD
      refine lv_iconst (v := (0 : Int32)) hx hb dX4_restore_53 (by decide) ?_
      refine lv_istore_n (lv' := [(1, .int (0 : Int32)), (0, .ref (A 0))]) hx hb dX4_restore_54 rfl hl (by decide) rfl (fun ls hl => ?_)
      have loop_55 : ∀ (z : Nat) (k : Nat) (x1 : Int32), x1 = nI k → (k ≤ 10) → 10 - k < z → ∀ (H : Heap) (locs : List Loc), va_P D vwCl (wsM A cI cB (upd (upd (upd (upd I 1 (I 20)) 6 (I 21)) 8 (I 22)) 9 (I 23)) J (va_up F 7 (rowN (F 24) (F 7) k))) H → va_S (FPw (wsM A cI cB I J F)) s.heap H locs → ∀ (ls : Array Slot), lv_has ls 2 [(0, .ref (A 0)), (1, .int x1)] → W p l e ({ frames := 0, cells := 0, slots := 0, locals := 0 } : Room) s m args below meth c H locs 0 0 (MQ below (QcW D (some (.int (if (¬ I 18 = 0 ∧ I 19 = I 0) then I 22 else -103))) (wsM A cI cB I J F) (if (¬ I 18 = 0 ∧ I 19 = I 0) then wsM A cI cB (upd (upd (upd (upd I 1 (I 20)) 6 (I 21)) 8 (I 22)) 9 (I 23)) J (va_up (va_up (va_up (va_up F 7 (rowN (F 24) (F 7) 10)) 10 (rowN (F 25) (F 10) 6)) 11 (rowN (F 26) (F 11) 6)) 12 (rowN (F 27) (F 12) 6)) else wsM A cI cB I J F)) args s 0 0 (FPw (wsM A cI cB I J F))) (F0 m 55 ls []) := by
        intro z
        induction z with
        | zero =>
          intro k x1 ex1 hk hz
          exact absurd hz (Nat.not_lt_zero _)
        | succ z ih_55 =>
          intro k x1 ex1 hk hz H locs hP hS ls hl
          subst ex1
          have hD := va_D_addr (ws := (wsM A cI cB (upd (upd (upd (upd I 1 (I 20)) 6 (I 21)) 8 (I 22)) 9 (I 23)) J F)) (ws' := (wsM A cI cB (upd (upd (upd (upd I 1 (I 20)) 6 (I 21)) 8 (I 22)) 9 (I 23)) J (va_up F 7 (rowN (F 24) (F 7) k)))) rfl hD
          refine lv_iload_n hx hb dX4_restore_55 rfl (lv_at hl 1 rfl) ?_
          refine lv_bipush (v := (10 : Int32)) hx hb dX4_restore_56 (by decide) ?_
          refine lv_icmp_ge (tgt := 79) hx hb dX4_restore_58 (by decide) (fun c_3 => ?_) (fun c_3 => ?_)
          · have nc_3 : 10 ≤ k := (nI_leI (a := 10) (b := k) (by omega) (by omega)).mp c_3
            refine lv_iconst (v := (0 : Int32)) hx hb dX4_restore_79 (by decide) ?_
            refine lv_istore_n (lv' := [(1, .int (0 : Int32)), (0, .ref (A 0))]) hx hb dX4_restore_80 rfl hl (by decide) rfl (fun ls hl => ?_)
            have loop_81 : ∀ (z : Nat) (j : Nat) (y1 : Int32), y1 = nI j → (j ≤ 6) → 6 - j < z → ∀ (H : Heap) (locs : List Loc), va_P D vwCl (wsM A cI cB (upd (upd (upd (upd I 1 (I 20)) 6 (I 21)) 8 (I 22)) 9 (I 23)) J (va_up (va_up (va_up (va_up F 7 (rowN (F 24) (F 7) 10)) 10 (rowN (F 25) (F 10) j)) 11 (rowN (F 26) (F 11) j)) 12 (rowN (F 27) (F 12) j))) H → va_S (FPw (wsM A cI cB I J F)) s.heap H locs → ∀ (ls : Array Slot), lv_has ls 2 [(0, .ref (A 0)), (1, .int y1)] → W p l e ({ frames := 0, cells := 0, slots := 0, locals := 0 } : Room) s m args below meth c H locs 0 0 (MQ below (QcW D (some (.int (if (¬ I 18 = 0 ∧ I 19 = I 0) then I 22 else -103))) (wsM A cI cB I J F) (if (¬ I 18 = 0 ∧ I 19 = I 0) then wsM A cI cB (upd (upd (upd (upd I 1 (I 20)) 6 (I 21)) 8 (I 22)) 9 (I 23)) J (va_up (va_up (va_up (va_up F 7 (rowN (F 24) (F 7) 10)) 10 (rowN (F 25) (F 10) 6)) 11 (rowN (F 26) (F 11) 6)) 12 (rowN (F 27) (F 12) 6)) else wsM A cI cB I J F)) args s 0 0 (FPw (wsM A cI cB I J F))) (F0 m 81 ls []) := by
              intro z
              induction z with
              | zero =>
                intro j y1 ey1 hj hz
                exact absurd hz (Nat.not_lt_zero _)
              | succ z ih_81 =>
                intro j y1 ey1 hj hz H locs hP hS ls hl
                subst ey1
                have hD := va_D_addr (ws := (wsM A cI cB (upd (upd (upd (upd I 1 (I 20)) 6 (I 21)) 8 (I 22)) 9 (I 23)) J (va_up F 7 (rowN (F 24) (F 7) k)))) (ws' := (wsM A cI cB (upd (upd (upd (upd I 1 (I 20)) 6 (I 21)) 8 (I 22)) 9 (I 23)) J (va_up (va_up (va_up (va_up F 7 (rowN (F 24) (F 7) 10)) 10 (rowN (F 25) (F 10) j)) 11 (rowN (F 26) (F 11) j)) 12 (rowN (F 27) (F 12) j)))) rfl hD
                refine lv_iload_n hx hb dX4_restore_81 rfl (lv_at hl 1 rfl) ?_
                refine lv_bipush (v := (6 : Int32)) hx hb dX4_restore_82 (by decide) ?_
                refine lv_icmp_ge (tgt := 129) hx hb dX4_restore_84 (by decide) (fun c_4 => ?_) (fun c_4 => ?_)
                · have nc_4 : 6 ≤ j := (nI_leI (a := 6) (b := j) (by omega) (by omega)).mp c_4
                  refine lv_aload_n hx hb dX4_restore_129 rfl (lv_at hl 0 rfl) ?_
                  refine va_get (D := D) (ci := 4) (v := .int (I 22)) (C := RX4) (T := TX4) (N := 29) hx hb hts inlX4 hown hK hP 0 rfl rfl 8 (by decide) (hts _ kw_254) (fun _ h9 => h9) rfl dX4_restore_130 ?_
                  exact retWi hx hb hr hlk hP hS dX4_restore_133 (by first | exact (if_pos (by grind)).symm | exact (if_neg (by grind)).symm) (by have hjn : j = 6 := (by omega); subst hjn; exact (if_pos (by grind)).symm)
                · have nc_4 : ¬ 6 ≤ j := fun h => c_4 ((nI_leI (a := 6) (b := j) (by omega) (by omega)).mpr h)
                  refine lv_aload_n hx hb dX4_restore_87 rfl (lv_at hl 0 rfl) ?_
                  refine va_get (D := D) (ci := 4) (v := .ref (A 10)) (C := RX4) (T := TX4) (N := 29) hx hb hts inlX4 hown hK hP 0 rfl rfl 10 (by decide) (hts _ kw_64) (fun _ h9 => h9) rfl dX4_restore_88 ?_
                  refine lv_iload_n hx hb dX4_restore_91 rfl (lv_at hl 1 rfl) ?_
                  refine lv_aload_n hx hb dX4_restore_92 rfl (lv_at hl 0 rfl) ?_
                  refine va_get (D := D) (ci := 4) (v := .ref (A 25)) (C := RX4) (T := TX4) (N := 29) hx hb hts inlX4 hown hK hP 0 rfl rfl 25 (by decide) (hts _ kw_72) (fun _ h9 => h9) rfl dX4_restore_93 ?_
                  refine lv_iload_n hx hb dX4_restore_96 rfl (lv_at hl 1 rfl) ?_
                  refine va_iald (D := D) hx hb hK hP 13 0 rfl rfl (vp_in_nI (by omega) (by omega)) dX4_restore_97 ?_
                  refine topE (z := ((F 25) j)) (congrArg _ (nI_clamp (n := j) (by omega))) ?_
                  refine va_iast (D := D) hx hb hK hP hD hS 6 0 rfl rfl (vp_in_nI (by omega) (by omega)) dX4_restore_98 (fun H locs hP hD hS => ?_)
                  rw [nI_clamp (n := j) (by omega)] at hP hD
                  have hP : va_P D vwCl (wsM A cI cB (upd (upd (upd (upd I 1 (I 20)) 6 (I 21)) 8 (I 22)) 9 (I 23)) J (va_up (va_up (va_up (va_up F 7 (rowN (F 24) (F 7) 10)) 10 (upd (rowN (F 25) (F 10) j) j ((F 25) j))) 11 (rowN (F 26) (F 11) j)) 12 (rowN (F 27) (F 12) j))) H := hP
                  have hD : va_D (FPw (wsM A cI cB I J F)) (wsM A cI cB (upd (upd (upd (upd I 1 (I 20)) 6 (I 21)) 8 (I 22)) 9 (I 23)) J (va_up (va_up (va_up (va_up F 7 (rowN (F 24) (F 7) 10)) 10 (upd (rowN (F 25) (F 10) j) j ((F 25) j))) 11 (rowN (F 26) (F 11) j)) 12 (rowN (F 27) (F 12) j))) := hD
                  refine lv_aload_n hx hb dX4_restore_99 rfl (lv_at hl 0 rfl) ?_
                  refine va_get (D := D) (ci := 4) (v := .ref (A 11)) (C := RX4) (T := TX4) (N := 29) hx hb hts inlX4 hown hK hP 0 rfl rfl 11 (by decide) (hts _ kw_65) (fun _ h9 => h9) rfl dX4_restore_100 ?_
                  refine lv_iload_n hx hb dX4_restore_103 rfl (lv_at hl 1 rfl) ?_
                  refine lv_aload_n hx hb dX4_restore_104 rfl (lv_at hl 0 rfl) ?_
                  refine va_get (D := D) (ci := 4) (v := .ref (A 26)) (C := RX4) (T := TX4) (N := 29) hx hb hts inlX4 hown hK hP 0 rfl rfl 26 (by decide) (hts _ kw_73) (fun _ h9 => h9) rfl dX4_restore_105 ?_
                  refine lv_iload_n hx hb dX4_restore_108 rfl (lv_at hl 1 rfl) ?_
                  refine va_iald (D := D) hx hb hK hP 14 0 rfl rfl (vp_in_nI (by omega) (by omega)) dX4_restore_109 ?_
                  refine topE (z := ((F 26) j)) (congrArg _ (nI_clamp (n := j) (by omega))) ?_
                  refine va_iast (D := D) hx hb hK hP hD hS 7 0 rfl rfl (vp_in_nI (by omega) (by omega)) dX4_restore_110 (fun H locs hP hD hS => ?_)
                  rw [nI_clamp (n := j) (by omega)] at hP hD
                  have hP : va_P D vwCl (wsM A cI cB (upd (upd (upd (upd I 1 (I 20)) 6 (I 21)) 8 (I 22)) 9 (I 23)) J (va_up (va_up (va_up (va_up F 7 (rowN (F 24) (F 7) 10)) 10 (upd (rowN (F 25) (F 10) j) j ((F 25) j))) 11 (upd (rowN (F 26) (F 11) j) j ((F 26) j))) 12 (rowN (F 27) (F 12) j))) H := hP
                  have hD : va_D (FPw (wsM A cI cB I J F)) (wsM A cI cB (upd (upd (upd (upd I 1 (I 20)) 6 (I 21)) 8 (I 22)) 9 (I 23)) J (va_up (va_up (va_up (va_up F 7 (rowN (F 24) (F 7) 10)) 10 (upd (rowN (F 25) (F 10) j) j ((F 25) j))) 11 (upd (rowN (F 26) (F 11) j) j ((F 26) j))) 12 (rowN (F 27) (F 12) j))) := hD
                  refine lv_aload_n hx hb dX4_restore_111 rfl (lv_at hl 0 rfl) ?_
                  refine va_get (D := D) (ci := 4) (v := .ref (A 12)) (C := RX4) (T := TX4) (N := 29) hx hb hts inlX4 hown hK hP 0 rfl rfl 12 (by decide) (hts _ kw_66) (fun _ h9 => h9) rfl dX4_restore_112 ?_
                  refine lv_iload_n hx hb dX4_restore_115 rfl (lv_at hl 1 rfl) ?_
                  refine lv_aload_n hx hb dX4_restore_116 rfl (lv_at hl 0 rfl) ?_
                  refine va_get (D := D) (ci := 4) (v := .ref (A 27)) (C := RX4) (T := TX4) (N := 29) hx hb hts inlX4 hown hK hP 0 rfl rfl 27 (by decide) (hts _ kw_74) (fun _ h9 => h9) rfl dX4_restore_117 ?_
                  refine lv_iload_n hx hb dX4_restore_120 rfl (lv_at hl 1 rfl) ?_
                  refine va_iald (D := D) hx hb hK hP 15 0 rfl rfl (vp_in_nI (by omega) (by omega)) dX4_restore_121 ?_
                  refine topE (z := ((F 27) j)) (congrArg _ (nI_clamp (n := j) (by omega))) ?_
                  refine va_iast (D := D) hx hb hK hP hD hS 8 0 rfl rfl (vp_in_nI (by omega) (by omega)) dX4_restore_122 (fun H locs hP hD hS => ?_)
                  rw [nI_clamp (n := j) (by omega)] at hP hD
                  have hP : va_P D vwCl (wsM A cI cB (upd (upd (upd (upd I 1 (I 20)) 6 (I 21)) 8 (I 22)) 9 (I 23)) J (va_up (va_up (va_up (va_up F 7 (rowN (F 24) (F 7) 10)) 10 (upd (rowN (F 25) (F 10) j) j ((F 25) j))) 11 (upd (rowN (F 26) (F 11) j) j ((F 26) j))) 12 (upd (rowN (F 27) (F 12) j) j ((F 27) j)))) H := hP
                  have hD : va_D (FPw (wsM A cI cB I J F)) (wsM A cI cB (upd (upd (upd (upd I 1 (I 20)) 6 (I 21)) 8 (I 22)) 9 (I 23)) J (va_up (va_up (va_up (va_up F 7 (rowN (F 24) (F 7) 10)) 10 (upd (rowN (F 25) (F 10) j) j ((F 25) j))) 11 (upd (rowN (F 26) (F 11) j) j ((F 26) j))) 12 (upd (rowN (F 27) (F 12) j) j ((F 27) j)))) := hD
                  refine lv_iinc (v := (nI (j + 1))) (lv' := [(1, .int (nI (j + 1))), (0, .ref (A 0))]) hx hb dX4_restore_123 hl (k := 1) rfl (nI_add j 1) (by decide) rfl (fun ls hl => ?_)
                  refine lv_goto (tgt := 81) hx hb dX4_restore_126 (by decide) ?_
                  have hP9 : va_P D vwCl (wsM A cI cB (upd (upd (upd (upd I 1 (I 20)) 6 (I 21)) 8 (I 22)) 9 (I 23)) J (va_up (va_up (va_up (va_up F 7 (rowN (F 24) (F 7) 10)) 10 (rowN (F 25) (F 10) (j + 1))) 11 (rowN (F 26) (F 11) (j + 1))) 12 (rowN (F 27) (F 12) (j + 1)))) H := by rw [← rowN_upd (i := j), ← rowN_upd (i := j), ← rowN_upd (i := j)]; exact hP
                  exact ih_81 (j + 1) (nI (j + 1)) rfl (by omega) (by omega) H locs hP9 hS ls (lv_sub hl [1, 0] rfl)
            have hP9 : va_P D vwCl (wsM A cI cB (upd (upd (upd (upd I 1 (I 20)) 6 (I 21)) 8 (I 22)) 9 (I 23)) J (va_up (va_up (va_up (va_up F 7 (rowN (F 24) (F 7) 10)) 10 (rowN (F 25) (F 10) 0)) 11 (rowN (F 26) (F 11) 0)) 12 (rowN (F 27) (F 12) 0))) H := by have hkn : k = 10 := (by omega); subst hkn; rw [rowN_0, rowN_0, rowN_0]; exact hP
            exact loop_81 ((6 - 0) + 1) 0 (0 : Int32) rfl (by omega) (by omega) H locs hP9 hS ls (lv_sub hl [1, 0] rfl)
          · have nc_3 : ¬ 10 ≤ k := fun h => c_3 ((nI_leI (a := 10) (b := k) (by omega) (by omega)).mpr h)
            refine lv_aload_n hx hb dX4_restore_61 rfl (lv_at hl 0 rfl) ?_
            refine va_get (D := D) (ci := 4) (v := .ref (A 7)) (C := RX4) (T := TX4) (N := 29) hx hb hts inlX4 hown hK hP 0 rfl rfl 7 (by decide) (hts _ kw_63) (fun _ h9 => h9) rfl dX4_restore_62 ?_
            refine lv_iload_n hx hb dX4_restore_65 rfl (lv_at hl 1 rfl) ?_
            refine lv_aload_n hx hb dX4_restore_66 rfl (lv_at hl 0 rfl) ?_
            refine va_get (D := D) (ci := 4) (v := .ref (A 24)) (C := RX4) (T := TX4) (N := 29) hx hb hts inlX4 hown hK hP 0 rfl rfl 24 (by decide) (hts _ kw_71) (fun _ h9 => h9) rfl dX4_restore_67 ?_
            refine lv_iload_n hx hb dX4_restore_70 rfl (lv_at hl 1 rfl) ?_
            refine va_iald (D := D) hx hb hK hP 12 0 rfl rfl (vp_in_nI (by omega) (by omega)) dX4_restore_71 ?_
            refine topE (z := ((F 24) k)) (congrArg _ (nI_clamp (n := k) (by omega))) ?_
            refine va_iast (D := D) hx hb hK hP hD hS 5 0 rfl rfl (vp_in_nI (by omega) (by omega)) dX4_restore_72 (fun H locs hP hD hS => ?_)
            rw [nI_clamp (n := k) (by omega)] at hP hD
            have hP : va_P D vwCl (wsM A cI cB (upd (upd (upd (upd I 1 (I 20)) 6 (I 21)) 8 (I 22)) 9 (I 23)) J (va_up F 7 (upd (rowN (F 24) (F 7) k) k ((F 24) k)))) H := hP
            have hD : va_D (FPw (wsM A cI cB I J F)) (wsM A cI cB (upd (upd (upd (upd I 1 (I 20)) 6 (I 21)) 8 (I 22)) 9 (I 23)) J (va_up F 7 (upd (rowN (F 24) (F 7) k) k ((F 24) k)))) := hD
            refine lv_iinc (v := (nI (k + 1))) (lv' := [(1, .int (nI (k + 1))), (0, .ref (A 0))]) hx hb dX4_restore_73 hl (k := 1) rfl (nI_add k 1) (by decide) rfl (fun ls hl => ?_)
            refine lv_goto (tgt := 55) hx hb dX4_restore_76 (by decide) ?_
            have hP9 : va_P D vwCl (wsM A cI cB (upd (upd (upd (upd I 1 (I 20)) 6 (I 21)) 8 (I 22)) 9 (I 23)) J (va_up F 7 (rowN (F 24) (F 7) (k + 1)))) H := by rw [← rowN_upd]; exact hP
            exact ih_55 (k + 1) (nI (k + 1)) rfl (by omega) (by omega) H locs hP9 hS ls (lv_sub hl [1, 0] rfl)
      have hP9 : va_P D vwCl (wsM A cI cB (upd (upd (upd (upd I 1 (I 20)) 6 (I 21)) 8 (I 22)) 9 (I 23)) J (va_up F 7 (rowN (F 24) (F 7) 0))) H := by rw [rowN_0]; exact hP
      exact loop_55 ((10 - 0) + 1) 0 (0 : Int32) rfl (by omega) (by omega) H locs hP9 hS ls (lv_sub hl [1, 0] rfl)
    · refine lv_bipush (v := (-103 : Int32)) hx hb dX4_restore_18 (by decide) ?_
      exact retWi hx hb hr hlk hP hS dX4_restore_20 (by first | exact (if_pos (by grind)).symm | exact (if_neg (by grind)).symm) (by first | exact (if_pos (by grind)).symm | exact (if_neg (by grind)).symm)
set_option maxHeartbeats 1000000 in
set_option maxRecDepth 100000 in
theorem c_X4_howMany (l : Launch) (D : va_G) (cI cB cS : ClassId) {A : Nat → Nat} {I : Nat → Int32} {J : Nat → Int64} {F : Nat → Nat → Int32} {n : Nat} (hn : n ≤ 6) (h1 : I 1 = nI n) (p0 : Int32) : Met l yX4_howMany (Wm yX4_howMany cX4_howMany 2 (some .int)) ({ frames := 1, cells := 0, slots := 0, locals := 22 }) (va_Pc [.ref (A 0), .int p0] (PR D (TYS cI cB cS) (wsM A cI cB I J F))) (QcV (some (.int (mCount I (F 7) n p0)))) 0 0 (fun _ => False) := by
  refine metR (by decide) [.ref (A 0), .int p0] (Nat.le_of_ble_eq_true rfl) ?_
  intro p e s m args below meth c hx hb hml hr hlk hown hts hKK hP ls hl
  obtain ⟨hK, hN⟩ := id hKK
  have hl : lv_has ls 2 [(0, .ref (A 0)), (1, .int p0)] := hl
  refine lv_iload_n hx hb dX4_howMany_0 rfl (lv_at hl 1 rfl) ?_
  by_cases e_1 : p0 = (0 : Int32)
  · refine topE e_1 ?_
    refine lv_tableIn (off := 47) (tgt := 48) hx hb dX4_howMany_1 (by decide) (by decide) rfl (by decide) ?_
    refine lv_aload_n hx hb dX4_howMany_48 rfl (lv_at hl 0 rfl) ?_
    refine va_get (D := D) (ci := 4) (v := .int (I 1)) (C := RX4) (T := TX4) (N := 29) hx hb hts inlX4 hown hK hP 0 rfl rfl 1 (by decide) (hts _ kw_251) (fun _ h9 => h9) rfl dX4_howMany_49 ?_
    refine topE (z := (nI n)) h1 ?_
    exact retRi hx hb hr hlk dX4_howMany_52 (by grind [mCount])
  by_cases e_2 : p0 = (1 : Int32)
  · refine topE e_2 ?_
    refine lv_tableIn (off := 52) (tgt := 53) hx hb dX4_howMany_1 (by decide) (by decide) rfl (by decide) ?_
    refine lv_aload_n hx hb dX4_howMany_53 rfl (lv_at hl 0 rfl) ?_
    refine va_get (D := D) (ci := 4) (v := .int (I 6)) (C := RX4) (T := TX4) (N := 29) hx hb hts inlX4 hown hK hP 0 rfl rfl 6 (by decide) (hts _ kw_253) (fun _ h9 => h9) rfl dX4_howMany_54 ?_
    refine rcSi (As := [.int (I 6)]) (rest := []) hx hb hml hown hts hKK hP (c_X4_size l D cI cB cS (I 6)) (cwS2 1 hts kw_482 kw_6 kw_480 kw_481 rfl rfl (by decide +kernel) ⟨Nat.le_of_ble_eq_true rfl, Nat.le_of_ble_eq_true rfl⟩) rfl hl.1 rfl (Nat.le_of_ble_eq_true rfl) ⟨Nat.zero_le _, Nat.zero_le _⟩ dX4_howMany_57 ?_
    exact retRi hx hb hr hlk dX4_howMany_60 (by grind [mCount])
  by_cases e_3 : p0 = (2 : Int32)
  · refine topE e_3 ?_
    refine lv_tableIn (off := 60) (tgt := 61) hx hb dX4_howMany_1 (by decide) (by decide) rfl (by decide) ?_
    refine lv_aload_n hx hb dX4_howMany_61 rfl (lv_at hl 0 rfl) ?_
    refine va_get (D := D) (ci := 4) (v := .int (I 8)) (C := RX4) (T := TX4) (N := 29) hx hb hts inlX4 hown hK hP 0 rfl rfl 8 (by decide) (hts _ kw_254) (fun _ h9 => h9) rfl dX4_howMany_62 ?_
    exact retRi hx hb hr hlk dX4_howMany_65 (by grind [mCount])
  by_cases e_4 : p0 = (3 : Int32)
  · refine topE e_4 ?_
    refine lv_tableIn (off := 65) (tgt := 66) hx hb dX4_howMany_1 (by decide) (by decide) rfl (by decide) ?_
    refine lv_aload_n hx hb dX4_howMany_66 rfl (lv_at hl 0 rfl) ?_
    refine rcVi (As := []) (rest := []) hx hb hml hown hts hKK hP (c_X4_inkAll l D cI cB cS ) (cwV2 0 hts kw_577 kw_6 kw_574 kw_575 kw_576 rfl rfl (by decide +kernel) ⟨Nat.le_of_ble_eq_true rfl, Nat.le_of_ble_eq_true rfl⟩) 0 rfl rfl rfl rfl hl.1 rfl (Nat.le_of_ble_eq_true rfl) ⟨Nat.zero_le _, Nat.zero_le _⟩ dX4_howMany_67 ?_
    refine topE (z := (sumN (F 7) 10)) rfl ?_
    exact retRi hx hb hr hlk dX4_howMany_70 (by grind [mCount])
  by_cases e_5 : p0 = (4 : Int32)
  · refine topE e_5 ?_
    refine lv_tableIn (off := 70) (tgt := 71) hx hb dX4_howMany_1 (by decide) (by decide) rfl (by decide) ?_
    refine lv_aload_n hx hb dX4_howMany_71 rfl (lv_at hl 0 rfl) ?_
    refine rcVi (As := []) (rest := []) hx hb hml hown hts hKK hP (c_X4_dry l D cI cB cS hn h1 ) (cwV2 0 hts kw_581 kw_6 kw_578 kw_579 kw_580 rfl rfl (by decide +kernel) ⟨Nat.le_of_ble_eq_true rfl, Nat.le_of_ble_eq_true rfl⟩) 0 rfl rfl rfl rfl hl.1 rfl (Nat.le_of_ble_eq_true rfl) ⟨Nat.zero_le _, Nat.zero_le _⟩ dX4_howMany_72 ?_
    refine topE (z := (mDryN (F 7) n)) rfl ?_
    exact retRi hx hb hr hlk dX4_howMany_75 (by grind [mCount])
  by_cases e_6 : p0 = (5 : Int32)
  · refine topE e_6 ?_
    refine lv_tableIn (off := 75) (tgt := 76) hx hb dX4_howMany_1 (by decide) (by decide) rfl (by decide) ?_
    refine lv_aload_n hx hb dX4_howMany_76 rfl (lv_at hl 0 rfl) ?_
    refine va_get (D := D) (ci := 4) (v := .int (I 9)) (C := RX4) (T := TX4) (N := 29) hx hb hts inlX4 hown hK hP 0 rfl rfl 9 (by decide) (hts _ kw_255) (fun _ h9 => h9) rfl dX4_howMany_77 ?_
    exact retRi hx hb hr hlk dX4_howMany_80 (by grind [mCount])
  by_cases e_7 : p0 = (6 : Int32)
  · refine topE e_7 ?_
    refine lv_tableIn (off := 80) (tgt := 81) hx hb dX4_howMany_1 (by decide) (by decide) rfl (by decide) ?_
    refine lv_aload_n hx hb dX4_howMany_81 rfl (lv_at hl 0 rfl) ?_
    refine va_get (D := D) (ci := 4) (v := .int (I 13)) (C := RX4) (T := TX4) (N := 29) hx hb hts inlX4 hown hK hP 0 rfl rfl 13 (by decide) (hts _ kw_87) (fun _ h9 => h9) rfl dX4_howMany_82 ?_
    exact retRi hx hb hr hlk dX4_howMany_85 (by grind [mCount])
  by_cases e_8 : p0 = (7 : Int32)
  · refine topE e_8 ?_
    refine lv_tableIn (off := 85) (tgt := 86) hx hb dX4_howMany_1 (by decide) (by decide) rfl (by decide) ?_
    refine lv_aload_n hx hb dX4_howMany_86 rfl (lv_at hl 0 rfl) ?_
    refine va_get (D := D) (ci := 4) (v := .int (I 0)) (C := RX4) (T := TX4) (N := 29) hx hb hts inlX4 hown hK hP 0 rfl rfl 0 (by decide) (hts _ kw_252) (fun _ h9 => h9) rfl dX4_howMany_87 ?_
    exact retRi hx hb hr hlk dX4_howMany_90 (by grind [mCount])
  have t_9 := lv_neT e_1 (a := 0) rfl
  have t_10 := lv_neT e_2 (a := 1) rfl
  have t_11 := lv_neT e_3 (a := 2) rfl
  have t_12 := lv_neT e_4 (a := 3) rfl
  have t_13 := lv_neT e_5 (a := 4) rfl
  have t_14 := lv_neT e_6 (a := 5) rfl
  have t_15 := lv_neT e_7 (a := 6) rfl
  have t_16 := lv_neT e_8 (a := 7) rfl
  refine lv_tableOut (tgt := 91) hx hb dX4_howMany_1 (by omega) (by decide) ?_
  refine lv_bipush (v := (-102 : Int32)) hx hb dX4_howMany_91 (by decide) ?_
  exact retRi hx hb hr hlk dX4_howMany_93 (by grind [mCount])
set_option maxHeartbeats 1000000 in
set_option maxRecDepth 100000 in
theorem c_X4_count (l : Launch) (D : va_G) (cI cB cS : ClassId) {A : Nat → Nat} {I : Nat → Int32} {J : Nat → Int64} {F : Nat → Nat → Int32} {n : Nat} (hn : n ≤ 6) (h1 : I 1 = nI n) (p0 : Int32) : Met l yX4_count (Wm yX4_count cX4_count 2 (some .int)) ({ frames := 2, cells := 0, slots := 0, locals := 43 }) (va_Pc [.ref (A 0), .int p0] (PR D (TYS cI cB cS) (wsM A cI cB I J F))) (QcV (some (.int (mCount I (F 7) n p0)))) 0 0 (fun _ => False) := by
  refine metR (by decide) [.ref (A 0), .int p0] (Nat.le_of_ble_eq_true rfl) ?_
  intro p e s m args below meth c hx hb hml hr hlk hown hts hKK hP ls hl
  obtain ⟨hK, hN⟩ := id hKK
  have hl : lv_has ls 2 [(0, .ref (A 0)), (1, .int p0)] := hl
  refine lv_aload_n hx hb dX4_count_0 rfl (lv_at hl 0 rfl) ?_
  refine lv_iload_n hx hb dX4_count_1 rfl (lv_at hl 1 rfl) ?_
  refine rcVi (As := [.int p0]) (rest := []) hx hb hml hown hts hKK hP (c_X4_howMany l D cI cB cS hn h1 p0) (cwV2 1 hts kw_619 kw_6 kw_616 kw_617 kw_618 rfl rfl (by decide +kernel) ⟨Nat.le_of_ble_eq_true rfl, Nat.le_of_ble_eq_true rfl⟩) 0 rfl rfl rfl rfl hl.1 rfl (Nat.le_of_ble_eq_true rfl) ⟨Nat.zero_le _, Nat.zero_le _⟩ dX4_count_2 ?_
  refine topE (z := (mCount I (F 7) n p0)) rfl ?_
  exact retRi hx hb hr hlk dX4_count_5 rfl
set_option maxHeartbeats 1000000 in
set_option maxRecDepth 100000 in
theorem c_X4_mix (l : Launch) (D : va_G) (cI cB cS : ClassId) {A : Nat → Nat} {I : Nat → Int32} {J : Nat → Int64} {F : Nat → Nat → Int32} (p0 : Int64) : Met l yX4_mix (Wm yX4_mix cX4_mix 3 none) ({ frames := 0, cells := 0, slots := 0, locals := 0 }) (va_Pc [.ref (A 0), .long p0] (PW D (TYS cI cB cS) (wsM A cI cB I J F))) (QcW D none (wsM A cI cB I J F) (wsM A cI cB I (vp_updL J 28 ((31 : Int64) * J 28 + p0)) F)) 0 0 (FPw (wsM A cI cB I J F)) := by
  refine metW (by decide) [.ref (A 0), .long p0] (Nat.le_of_ble_eq_true rfl) ?_
  intro p e s m args below meth c hx hb hml hr hlk hown hts hKK hP hD hS ls hl
  obtain ⟨hK, hN⟩ := id hKK
  have hl : lv_has ls 3 [(0, .ref (A 0)), (1, .long p0)] := hl
  refine lv_aload_n hx hb dX4_mix_0 rfl (lv_at hl 0 rfl) ?_
  refine lv_ldc2 (v := (31 : Int64)) hx hb hown (hts _ kw_651) dX4_mix_1 ?_
  refine lv_aload_n hx hb dX4_mix_4 rfl (lv_at hl 0 rfl) ?_
  refine va_get (D := D) (ci := 4) (v := .long (J 28)) (C := RX4) (T := TX4) (N := 29) hx hb hts inlX4 hown hK hP 0 rfl rfl 28 (by decide) (hts _ kw_646) (fun _ h9 => h9) rfl dX4_mix_5 ?_
  refine lv_lmul hx hb dX4_mix_8 ?_
  refine lv_lload_n hx hb dX4_mix_9 rfl (lv_at hl 1 rfl) ?_
  refine lv_ladd hx hb dX4_mix_10 ?_
  refine va_put (D := D) (ci := 4) (v := .long (((31 : Int64) * (J 28)) + p0)) (ty := tyX4 28) (C := RX4) (T := TX4) (N := 29) hx hb hts inlX4 tyX4 tyX4_ok nmX4 hown hK hP hD hS 0 rfl rfl 28 (by decide) (hts _ kw_646) (fun _ h9 => h9) rfl (tyX4_ok 28 (by decide)) rfl rfl (Nat.le_of_ble_eq_true rfl) dX4_mix_11 (fun H locs hP hD hS => ?_)
  have hP : va_P D vwCl (wsM A cI cB I (vp_updL J 28 (((31 : Int64) * (J 28)) + p0)) F) H := hP
  have hD : va_D (FPw (wsM A cI cB I J F)) (wsM A cI cB I (vp_updL J 28 (((31 : Int64) * (J 28)) + p0)) F) := hD
  exact retWv hx hb hr hlk hP hS dX4_mix_14 rfl
