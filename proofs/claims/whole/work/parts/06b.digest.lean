set_option maxHeartbeats 1000000 in
set_option maxRecDepth 100000 in
theorem c_X3_digest (l : Launch) (D : va_G) (cI cB cS : ClassId) {B : Nat → Nat} {I : Nat → Int32} {F : Nat → Nat → Int32} {n : Nat} (hn : n ≤ 6) (h3 : I 3 = nI n) {fd : Nat} (hfd : fd ≤ 6) (h6 : I 6 = nI fd) {sz : Nat} (hsz : sz ≤ 21) (h2 : I 2 = nI sz)  : Met l yX3_digest (Wm yX3_digest cX3_digest 5 (some .long)) ({ frames := 6, cells := 0, slots := 0, locals := 147 }) (va_Pc [.ref (B 0)] (PW D (TYS cI cB cS) (wsB B cI cS I F))) (QcW D (some (.long (cDigest I F n fd sz))) (wsB B cI cS I F) (wsB B cI cS I (va_up F 6 (cDScr F (I 4) n fd n)))) 0 0 (FPw (wsB B cI cS I F)) := by
  refine metW (by decide) [.ref (B 0)] (Nat.le_of_ble_eq_true rfl) ?_
  intro p e s m args below meth c hx hb hml hr hlk hown hts hKK hP hD hS ls hl
  obtain ⟨hK, hN⟩ := id hKK
  have hl : lv_has ls 5 [(0, .ref (B 0))] := hl
  refine lv_ldc2 (v := (1049 : Int64)) hx hb hown (hts _ kw_624) dX3_digest_0 ?_
  refine lv_lstore_n (lv' := [(1, .long (1049 : Int64)), (0, .ref (B 0))]) hx hb dX3_digest_3 rfl hl (by decide) rfl (fun ls hl => ?_)
  refine lv_iconst (v := (0 : Int32)) hx hb dX3_digest_4 (by decide) ?_
  refine lv_istore_n (lv' := [(3, .int (0 : Int32)), (1, .long (1049 : Int64)), (0, .ref (B 0))]) hx hb dX3_digest_5 rfl hl (by decide) rfl (fun ls hl => ?_)
  have loop_6 : ∀ (z : Nat) (k : Nat) (x1 : Int64) (x3 : Int32), x1 = cDigS F (I 4) n fd k → x3 = nI k → (k ≤ n) → n - k < z → ∀ (H : Heap) (locs : List Loc), va_P D vwCl (wsB B cI cS I (va_up F 6 (cDScr F (I 4) n fd k))) H → va_S (FPw (wsB B cI cS I F)) s.heap H locs → ∀ (ls : Array Slot), lv_has ls 5 [(0, .ref (B 0)), (1, .long x1), (3, .int x3)] → W p l e ({ frames := 6, cells := 0, slots := 0, locals := 147 } : Room) s m args below meth c H locs 0 0 (MQ below (QcW D (some (.long (cDigest I F n fd sz))) (wsB B cI cS I F) (wsB B cI cS I (va_up F 6 (cDScr F (I 4) n fd n)))) args s 0 0 (FPw (wsB B cI cS I F))) (F0 m 6 ls []) := by
    intro z
    induction z with
    | zero =>
      intro k x1 x3 ex1 ex3 hk hz
      exact absurd hz (Nat.not_lt_zero _)
    | succ z ih_6 =>
      intro k x1 x3 ex1 ex3 hk hz H locs hP hS ls hl
      subst ex1
      subst ex3
      have hD := va_D_addr (ws := (wsB B cI cS I F)) (ws' := (wsB B cI cS I (va_up F 6 (cDScr F (I 4) n fd k)))) rfl hD
      refine lv_iload_n hx hb dX3_digest_6 rfl (lv_at hl 2 rfl) ?_
      refine lv_aload_n hx hb dX3_digest_7 rfl (lv_at hl 0 rfl) ?_
      refine va_get (D := D) (ci := 3) (v := .ref (B 3)) (C := RX3) (T := TX3) (N := 8) hx hb hts inlX3 hown hK hP 0 rfl rfl 2 (by decide) (hts _ kw_21) (fun _ h9 => h9) rfl dX3_digest_8 ?_
      refine va_getN (D := D) (ci := 1) (v := .int (I 3)) (C := RX1) (T := TX1) (N := 8) hx hb hts inlX1 hown hK hP 3 rfl rfl 0 (by decide) (nfF_1 hN) (fun _ h9 => h9) rfl dX3_digest_11 ?_
      refine topE (z := (nI n)) h3 ?_
      refine lv_icmp_ge (tgt := 89) hx hb dX3_digest_14 (by decide) (fun c_1 => ?_) (fun c_1 => ?_)
      · have nc_1 : n ≤ k := (nI_leI (a := n) (b := k) (by omega) (by omega)).mp c_1
        refine lv_aload_n hx hb dX3_digest_89 rfl (lv_at hl 0 rfl) ?_
        refine rcVi (As := []) (rest := []) hx hb hml hown hts hKK hP (c_X3_hasLeaf l D cI cB cS hn h3 ) (cwV2 0 hts kw_353 kw_3 kw_350 kw_351 kw_352 rfl rfl (by decide +kernel) ⟨Nat.le_of_ble_eq_true rfl, Nat.le_of_ble_eq_true rfl⟩) 0 rfl rfl rfl rfl hl.1 rfl (Nat.le_of_ble_eq_true rfl) ⟨Nat.zero_le _, Nat.zero_le _⟩ dX3_digest_90 ?_
        refine lv_if_eq (tgt := 102) hx hb dX3_digest_93 (by decide) (fun c_2 => ?_) (fun c_2 => ?_)
        · have c_2 := b2_z c_2
          refine lv_iconst (v := (0 : Int32)) hx hb dX3_digest_102 (by decide) ?_
          refine lv_istore_n (lv' := [(3, .int (0 : Int32)), (0, .ref (B 0)), (1, .long (cDigS F (I 4) n fd k))]) hx hb dX3_digest_103 rfl hl (by decide) rfl (fun ls hl => ?_)
          have loop_104 : ∀ (z : Nat) (j : Nat) (z1 : Int64) (z3 : Int32), z1 = mixN (F 7) (if 0 < n then cLand F (I 4) n (cDigS F (I 4) n fd n) else cDigS F (I 4) n fd n) j → z3 = nI j → (j ≤ sz) → sz - j < z → ∀ (H : Heap) (locs : List Loc), va_P D vwCl (wsB B cI cS I (va_up F 6 (cDScr F (I 4) n fd k))) H → va_S (FPw (wsB B cI cS I F)) s.heap H locs → ∀ (ls : Array Slot), lv_has ls 5 [(0, .ref (B 0)), (1, .long z1), (3, .int z3)] → W p l e ({ frames := 6, cells := 0, slots := 0, locals := 147 } : Room) s m args below meth c H locs 0 0 (MQ below (QcW D (some (.long (cDigest I F n fd sz))) (wsB B cI cS I F) (wsB B cI cS I (va_up F 6 (cDScr F (I 4) n fd n)))) args s 0 0 (FPw (wsB B cI cS I F))) (F0 m 104 ls []) := by
            intro z
            induction z with
            | zero =>
              intro j z1 z3 ez1 ez3 hj hz
              exact absurd hz (Nat.not_lt_zero _)
            | succ z ih_104 =>
              intro j z1 z3 ez1 ez3 hj hz H locs hP hS ls hl
              subst ez1
              subst ez3
              have hD := va_D_addr (ws := (wsB B cI cS I (va_up F 6 (cDScr F (I 4) n fd k)))) (ws' := (wsB B cI cS I (va_up F 6 (cDScr F (I 4) n fd k)))) rfl hD
              refine lv_iload_n hx hb dX3_digest_104 rfl (lv_at hl 2 rfl) ?_
              refine lv_aload_n hx hb dX3_digest_105 rfl (lv_at hl 0 rfl) ?_
              refine va_get (D := D) (ci := 3) (v := .ref (B 1)) (C := RX3) (T := TX3) (N := 8) hx hb hts inlX3 hown hK hP 0 rfl rfl 0 (by decide) (hts _ kw_15) (fun _ h9 => h9) rfl dX3_digest_106 ?_
              refine va_getN (D := D) (ci := 0) (v := .int (I 2)) (C := RX0) (T := TX0) (N := 2) hx hb hts inlX0 hown hK hP 1 rfl rfl 1 (by decide) (nfF_0 hN) (fun _ h9 => h9) rfl dX3_digest_109 ?_
              refine topE (z := (nI sz)) h2 ?_
              refine lv_icmp_ge (tgt := 135) hx hb dX3_digest_112 (by decide) (fun c_3 => ?_) (fun c_3 => ?_)
              · have nc_3 : sz ≤ j := (nI_leI (a := sz) (b := j) (by omega) (by omega)).mp c_3
                refine lv_iconst (v := (0 : Int32)) hx hb dX3_digest_135 (by decide) ?_
                refine lv_istore_n (lv' := [(3, .int (0 : Int32)), (0, .ref (B 0)), (1, .long (mixN (F 7) (if 0 < n then cLand F (I 4) n (cDigS F (I 4) n fd n) else cDigS F (I 4) n fd n) j))]) hx hb dX3_digest_136 rfl hl (by decide) rfl (fun ls hl => ?_)
                have loop_137 : ∀ (z : Nat) (v : Nat) (u1 : Int64) (u3 : Int32), u1 = mixN (fun w => cCount I (F 8) n (nI w)) (mixN (F 7) (if 0 < n then cLand F (I 4) n (cDigS F (I 4) n fd n) else cDigS F (I 4) n fd n) sz) v → u3 = nI v → (v ≤ 8) → 8 - v < z → ∀ (H : Heap) (locs : List Loc), va_P D vwCl (wsB B cI cS I (va_up F 6 (cDScr F (I 4) n fd k))) H → va_S (FPw (wsB B cI cS I F)) s.heap H locs → ∀ (ls : Array Slot), lv_has ls 5 [(0, .ref (B 0)), (1, .long u1), (3, .int u3)] → W p l e ({ frames := 6, cells := 0, slots := 0, locals := 147 } : Room) s m args below meth c H locs 0 0 (MQ below (QcW D (some (.long (cDigest I F n fd sz))) (wsB B cI cS I F) (wsB B cI cS I (va_up F 6 (cDScr F (I 4) n fd n)))) args s 0 0 (FPw (wsB B cI cS I F))) (F0 m 137 ls []) := by
                  intro z
                  induction z with
                  | zero =>
                    intro v u1 u3 eu1 eu3 hv hz
                    exact absurd hz (Nat.not_lt_zero _)
                  | succ z ih_137 =>
                    intro v u1 u3 eu1 eu3 hv hz H locs hP hS ls hl
                    subst eu1
                    subst eu3
                    have hD := va_D_addr (ws := (wsB B cI cS I (va_up F 6 (cDScr F (I 4) n fd k)))) (ws' := (wsB B cI cS I (va_up F 6 (cDScr F (I 4) n fd k)))) rfl hD
                    refine lv_iload_n hx hb dX3_digest_137 rfl (lv_at hl 2 rfl) ?_
                    refine lv_bipush (v := (7 : Int32)) hx hb dX3_digest_138 (by decide) ?_
                    refine lv_icmp_gt (tgt := 160) hx hb dX3_digest_140 (by decide) (fun c_4 => ?_) (fun c_4 => ?_)
                    · have nc_4 : 7 < v := (nI_ltI (a := 7) (b := v) (by omega) (by omega)).mp c_4
                      refine lv_lload_n hx hb dX3_digest_160 rfl (lv_at hl 1 rfl) ?_
                      exact retWl hx hb hr hlk hP hS dX3_digest_161 (by have hvn : v = 8 := (by omega); subst hvn; rfl) (by have hkn : k = n := (by omega); subst hkn; rfl)
                    · have nc_4 : ¬ 7 < v := fun h => c_4 ((nI_ltI (a := 7) (b := v) (by omega) (by omega)).mpr h)
                      refine lv_lload_n hx hb dX3_digest_143 rfl (lv_at hl 1 rfl) ?_
                      refine lv_aload_n hx hb dX3_digest_144 rfl (lv_at hl 0 rfl) ?_
                      refine lv_iload_n hx hb dX3_digest_145 rfl (lv_at hl 2 rfl) ?_
                      refine rcVi (As := [.int (nI v)]) (rest := [.long (mixN (fun w => cCount I (F 8) n (nI w)) (mixN (F 7) (if 0 < n then cLand F (I 4) n (cDigS F (I 4) n fd n) else cDigS F (I 4) n fd n) sz) v)]) hx hb hml hown hts hKK hP (c_X3_count l D cI cB cS hn h3 (nI v)) (cwV2 1 hts kw_611 kw_3 kw_640 kw_609 kw_610 rfl rfl (by decide +kernel) ⟨Nat.le_of_ble_eq_true rfl, Nat.le_of_ble_eq_true rfl⟩) 0 rfl rfl rfl rfl hl.1 rfl (Nat.le_of_ble_eq_true rfl) ⟨Nat.zero_le _, Nat.zero_le _⟩ dX3_digest_146 ?_
                      refine topE (z := (cCount I (F 8) n (nI v))) rfl ?_
                      refine lv_i2l (v := ((cCount I (F 8) n (nI v)).toInt64)) hx hb dX3_digest_149 rfl ?_
                      refine rcSl (As := [.long (mixN (fun w => cCount I (F 8) n (nI w)) (mixN (F 7) (if 0 < n then cLand F (I 4) n (cDigS F (I 4) n fd n) else cDigS F (I 4) n fd n) sz) v), .long ((cCount I (F 8) n (nI v)).toInt64)]) (rest := []) hx hb hml hown hts hKK hP (c_X3_mixed l D cI cB cS (mixN (fun w => cCount I (F 8) n (nI w)) (mixN (F 7) (if 0 < n then cLand F (I 4) n (cDigS F (I 4) n fd n) else cDigS F (I 4) n fd n) sz) v) ((cCount I (F 8) n (nI v)).toInt64)) (cwS2 2 hts kw_628 kw_3 kw_626 kw_627 rfl rfl (by decide +kernel) ⟨Nat.le_of_ble_eq_true rfl, Nat.le_of_ble_eq_true rfl⟩) rfl hl.1 rfl (Nat.le_of_ble_eq_true rfl) ⟨Nat.zero_le _, Nat.zero_le _⟩ dX3_digest_150 ?_
                      refine topL (z := (mx (mixN (fun w => cCount I (F 8) n (nI w)) (mixN (F 7) (if 0 < n then cLand F (I 4) n (cDigS F (I 4) n fd n) else cDigS F (I 4) n fd n) sz) v) (cCount I (F 8) n (nI v)))) rfl ?_
                      refine lv_lstore_n (lv' := [(1, .long (mx (mixN (fun w => cCount I (F 8) n (nI w)) (mixN (F 7) (if 0 < n then cLand F (I 4) n (cDigS F (I 4) n fd n) else cDigS F (I 4) n fd n) sz) v) (cCount I (F 8) n (nI v)))), (0, .ref (B 0)), (3, .int (nI v))]) hx hb dX3_digest_153 rfl hl (by decide) rfl (fun ls hl => ?_)
                      refine lv_iinc (v := (nI (v + 1))) (lv' := [(3, .int (nI (v + 1))), (1, .long (mx (mixN (fun w => cCount I (F 8) n (nI w)) (mixN (F 7) (if 0 < n then cLand F (I 4) n (cDigS F (I 4) n fd n) else cDigS F (I 4) n fd n) sz) v) (cCount I (F 8) n (nI v)))), (0, .ref (B 0))]) hx hb dX3_digest_154 hl (k := 2) rfl (nI_add v 1) (by decide) rfl (fun ls hl => ?_)
                      refine lv_goto (tgt := 137) hx hb dX3_digest_157 (by decide) ?_
                      have hP9 : va_P D vwCl (wsB B cI cS I (va_up F 6 (cDScr F (I 4) n fd k))) H := by exact hP
                      exact ih_137 (v + 1) (mx (mixN (fun w => cCount I (F 8) n (nI w)) (mixN (F 7) (if 0 < n then cLand F (I 4) n (cDigS F (I 4) n fd n) else cDigS F (I 4) n fd n) sz) v) (cCount I (F 8) n (nI v))) (nI (v + 1)) rfl rfl (by omega) (by omega) H locs hP9 hS ls (lv_sub hl [2, 1, 0] rfl)
                have hP9 : va_P D vwCl (wsB B cI cS I (va_up F 6 (cDScr F (I 4) n fd k))) H := by exact hP
                exact loop_137 ((8 - 0) + 1) 0 (mixN (F 7) (if 0 < n then cLand F (I 4) n (cDigS F (I 4) n fd n) else cDigS F (I 4) n fd n) j) (0 : Int32) (by have hjn : j = sz := (by omega); subst hjn; rfl) rfl (by omega) (by omega) H locs hP9 hS ls (lv_sub hl [1, 2, 0] rfl)
              · have nc_3 : ¬ sz ≤ j := fun h => c_3 ((nI_leI (a := sz) (b := j) (by omega) (by omega)).mpr h)
                refine lv_lload_n hx hb dX3_digest_115 rfl (lv_at hl 1 rfl) ?_
                refine lv_aload_n hx hb dX3_digest_116 rfl (lv_at hl 0 rfl) ?_
                refine va_get (D := D) (ci := 3) (v := .ref (B 1)) (C := RX3) (T := TX3) (N := 8) hx hb hts inlX3 hown hK hP 0 rfl rfl 0 (by decide) (hts _ kw_15) (fun _ h9 => h9) rfl dX3_digest_117 ?_
                refine lv_iload_n hx hb dX3_digest_120 rfl (lv_at hl 2 rfl) ?_
                refine rcVi (As := [.int (nI j)]) (rest := [.long (mixN (F 7) (if 0 < n then cLand F (I 4) n (cDigS F (I 4) n fd n) else cDigS F (I 4) n fd n) j)]) hx hb hml hown hts hKK hP (c_X0_codeAt l D cI cB cS (k := j) (by omega)) (cwV2 1 hts kw_118 kw_14 kw_639 kw_116 kw_117 rfl rfl (by decide +kernel) ⟨Nat.le_of_ble_eq_true rfl, Nat.le_of_ble_eq_true rfl⟩) 1 rfl rfl rfl rfl hl.1 rfl (Nat.le_of_ble_eq_true rfl) ⟨Nat.zero_le _, Nat.zero_le _⟩ dX3_digest_121 ?_
                refine topE (z := ((F 7) j)) rfl ?_
                refine lv_i2l (v := (((F 7) j).toInt64)) hx hb dX3_digest_124 rfl ?_
                refine rcSl (As := [.long (mixN (F 7) (if 0 < n then cLand F (I 4) n (cDigS F (I 4) n fd n) else cDigS F (I 4) n fd n) j), .long (((F 7) j).toInt64)]) (rest := []) hx hb hml hown hts hKK hP (c_X3_mixed l D cI cB cS (mixN (F 7) (if 0 < n then cLand F (I 4) n (cDigS F (I 4) n fd n) else cDigS F (I 4) n fd n) j) (((F 7) j).toInt64)) (cwS2 2 hts kw_628 kw_3 kw_626 kw_627 rfl rfl (by decide +kernel) ⟨Nat.le_of_ble_eq_true rfl, Nat.le_of_ble_eq_true rfl⟩) rfl hl.1 rfl (Nat.le_of_ble_eq_true rfl) ⟨Nat.zero_le _, Nat.zero_le _⟩ dX3_digest_125 ?_
                refine topL (z := (mx (mixN (F 7) (if 0 < n then cLand F (I 4) n (cDigS F (I 4) n fd n) else cDigS F (I 4) n fd n) j) ((F 7) j))) rfl ?_
                refine lv_lstore_n (lv' := [(1, .long (mx (mixN (F 7) (if 0 < n then cLand F (I 4) n (cDigS F (I 4) n fd n) else cDigS F (I 4) n fd n) j) ((F 7) j))), (0, .ref (B 0)), (3, .int (nI j))]) hx hb dX3_digest_128 rfl hl (by decide) rfl (fun ls hl => ?_)
                refine lv_iinc (v := (nI (j + 1))) (lv' := [(3, .int (nI (j + 1))), (1, .long (mx (mixN (F 7) (if 0 < n then cLand F (I 4) n (cDigS F (I 4) n fd n) else cDigS F (I 4) n fd n) j) ((F 7) j))), (0, .ref (B 0))]) hx hb dX3_digest_129 hl (k := 2) rfl (nI_add j 1) (by decide) rfl (fun ls hl => ?_)
                refine lv_goto (tgt := 104) hx hb dX3_digest_132 (by decide) ?_
                have hP9 : va_P D vwCl (wsB B cI cS I (va_up F 6 (cDScr F (I 4) n fd k))) H := by exact hP
                exact ih_104 (j + 1) (mx (mixN (F 7) (if 0 < n then cLand F (I 4) n (cDigS F (I 4) n fd n) else cDigS F (I 4) n fd n) j) ((F 7) j)) (nI (j + 1)) rfl rfl (by omega) (by omega) H locs hP9 hS ls (lv_sub hl [2, 1, 0] rfl)
          have hP9 : va_P D vwCl (wsB B cI cS I (va_up F 6 (cDScr F (I 4) n fd k))) H := by exact hP
          exact loop_104 ((sz - 0) + 1) 0 (cDigS F (I 4) n fd k) (0 : Int32) (by have hkn : k = n := (by omega); subst hkn; grind [mixN]) rfl (by omega) (by omega) H locs hP9 hS ls (lv_sub hl [1, 2, 0] rfl)
        · have c_2 := b2_nz c_2
          refine lv_aload_n hx hb dX3_digest_96 rfl (lv_at hl 0 rfl) ?_
          refine lv_lload_n hx hb dX3_digest_97 rfl (lv_at hl 1 rfl) ?_
          refine rcVl (As := [.long (cDigS F (I 4) n fd k)]) (rest := []) hx hb hml hown hts hKK hP (c_X3_withLand l D cI cB cS hn h3 (cDigS F (I 4) n fd k)) (cwV2 1 hts kw_634 kw_3 kw_631 kw_632 kw_633 rfl rfl (by decide +kernel) ⟨Nat.le_of_ble_eq_true rfl, Nat.le_of_ble_eq_true rfl⟩) 0 rfl rfl rfl rfl hl.1 rfl (Nat.le_of_ble_eq_true rfl) ⟨Nat.zero_le _, Nat.zero_le _⟩ dX3_digest_98 ?_
          refine topL (z := (cLand F (I 4) n (cDigS F (I 4) n fd k))) rfl ?_
          refine lv_lstore_n (lv' := [(1, .long (cLand F (I 4) n (cDigS F (I 4) n fd k))), (0, .ref (B 0)), (3, .int (nI k))]) hx hb dX3_digest_101 rfl hl (by decide) rfl (fun ls hl => ?_)
          refine lv_iconst (v := (0 : Int32)) hx hb dX3_digest_102 (by decide) ?_
          refine lv_istore_n (lv' := [(3, .int (0 : Int32)), (1, .long (cLand F (I 4) n (cDigS F (I 4) n fd k))), (0, .ref (B 0))]) hx hb dX3_digest_103 rfl hl (by decide) rfl (fun ls hl => ?_)
          have loop_104 : ∀ (z : Nat) (j : Nat) (z1 : Int64) (z3 : Int32), z1 = mixN (F 7) (if 0 < n then cLand F (I 4) n (cDigS F (I 4) n fd n) else cDigS F (I 4) n fd n) j → z3 = nI j → (j ≤ sz) → sz - j < z → ∀ (H : Heap) (locs : List Loc), va_P D vwCl (wsB B cI cS I (va_up F 6 (cDScr F (I 4) n fd k))) H → va_S (FPw (wsB B cI cS I F)) s.heap H locs → ∀ (ls : Array Slot), lv_has ls 5 [(0, .ref (B 0)), (1, .long z1), (3, .int z3)] → W p l e ({ frames := 6, cells := 0, slots := 0, locals := 147 } : Room) s m args below meth c H locs 0 0 (MQ below (QcW D (some (.long (cDigest I F n fd sz))) (wsB B cI cS I F) (wsB B cI cS I (va_up F 6 (cDScr F (I 4) n fd n)))) args s 0 0 (FPw (wsB B cI cS I F))) (F0 m 104 ls []) := by
            intro z
            induction z with
            | zero =>
              intro j z1 z3 ez1 ez3 hj hz
              exact absurd hz (Nat.not_lt_zero _)
            | succ z ih_104 =>
              intro j z1 z3 ez1 ez3 hj hz H locs hP hS ls hl
              subst ez1
              subst ez3
              have hD := va_D_addr (ws := (wsB B cI cS I (va_up F 6 (cDScr F (I 4) n fd k)))) (ws' := (wsB B cI cS I (va_up F 6 (cDScr F (I 4) n fd k)))) rfl hD
              refine lv_iload_n hx hb dX3_digest_104 rfl (lv_at hl 2 rfl) ?_
              refine lv_aload_n hx hb dX3_digest_105 rfl (lv_at hl 0 rfl) ?_
              refine va_get (D := D) (ci := 3) (v := .ref (B 1)) (C := RX3) (T := TX3) (N := 8) hx hb hts inlX3 hown hK hP 0 rfl rfl 0 (by decide) (hts _ kw_15) (fun _ h9 => h9) rfl dX3_digest_106 ?_
              refine va_getN (D := D) (ci := 0) (v := .int (I 2)) (C := RX0) (T := TX0) (N := 2) hx hb hts inlX0 hown hK hP 1 rfl rfl 1 (by decide) (nfF_0 hN) (fun _ h9 => h9) rfl dX3_digest_109 ?_
              refine topE (z := (nI sz)) h2 ?_
              refine lv_icmp_ge (tgt := 135) hx hb dX3_digest_112 (by decide) (fun c_5 => ?_) (fun c_5 => ?_)
              · have nc_5 : sz ≤ j := (nI_leI (a := sz) (b := j) (by omega) (by omega)).mp c_5
                refine lv_iconst (v := (0 : Int32)) hx hb dX3_digest_135 (by decide) ?_
                refine lv_istore_n (lv' := [(3, .int (0 : Int32)), (0, .ref (B 0)), (1, .long (mixN (F 7) (if 0 < n then cLand F (I 4) n (cDigS F (I 4) n fd n) else cDigS F (I 4) n fd n) j))]) hx hb dX3_digest_136 rfl hl (by decide) rfl (fun ls hl => ?_)
                have loop_137 : ∀ (z : Nat) (v : Nat) (u1 : Int64) (u3 : Int32), u1 = mixN (fun w => cCount I (F 8) n (nI w)) (mixN (F 7) (if 0 < n then cLand F (I 4) n (cDigS F (I 4) n fd n) else cDigS F (I 4) n fd n) sz) v → u3 = nI v → (v ≤ 8) → 8 - v < z → ∀ (H : Heap) (locs : List Loc), va_P D vwCl (wsB B cI cS I (va_up F 6 (cDScr F (I 4) n fd k))) H → va_S (FPw (wsB B cI cS I F)) s.heap H locs → ∀ (ls : Array Slot), lv_has ls 5 [(0, .ref (B 0)), (1, .long u1), (3, .int u3)] → W p l e ({ frames := 6, cells := 0, slots := 0, locals := 147 } : Room) s m args below meth c H locs 0 0 (MQ below (QcW D (some (.long (cDigest I F n fd sz))) (wsB B cI cS I F) (wsB B cI cS I (va_up F 6 (cDScr F (I 4) n fd n)))) args s 0 0 (FPw (wsB B cI cS I F))) (F0 m 137 ls []) := by
                  intro z
                  induction z with
                  | zero =>
                    intro v u1 u3 eu1 eu3 hv hz
                    exact absurd hz (Nat.not_lt_zero _)
                  | succ z ih_137 =>
                    intro v u1 u3 eu1 eu3 hv hz H locs hP hS ls hl
                    subst eu1
                    subst eu3
                    have hD := va_D_addr (ws := (wsB B cI cS I (va_up F 6 (cDScr F (I 4) n fd k)))) (ws' := (wsB B cI cS I (va_up F 6 (cDScr F (I 4) n fd k)))) rfl hD
                    refine lv_iload_n hx hb dX3_digest_137 rfl (lv_at hl 2 rfl) ?_
                    refine lv_bipush (v := (7 : Int32)) hx hb dX3_digest_138 (by decide) ?_
                    refine lv_icmp_gt (tgt := 160) hx hb dX3_digest_140 (by decide) (fun c_6 => ?_) (fun c_6 => ?_)
                    · have nc_6 : 7 < v := (nI_ltI (a := 7) (b := v) (by omega) (by omega)).mp c_6
                      refine lv_lload_n hx hb dX3_digest_160 rfl (lv_at hl 1 rfl) ?_
                      exact retWl hx hb hr hlk hP hS dX3_digest_161 (by have hvn : v = 8 := (by omega); subst hvn; rfl) (by have hkn : k = n := (by omega); subst hkn; rfl)
                    · have nc_6 : ¬ 7 < v := fun h => c_6 ((nI_ltI (a := 7) (b := v) (by omega) (by omega)).mpr h)
                      refine lv_lload_n hx hb dX3_digest_143 rfl (lv_at hl 1 rfl) ?_
                      refine lv_aload_n hx hb dX3_digest_144 rfl (lv_at hl 0 rfl) ?_
                      refine lv_iload_n hx hb dX3_digest_145 rfl (lv_at hl 2 rfl) ?_
                      refine rcVi (As := [.int (nI v)]) (rest := [.long (mixN (fun w => cCount I (F 8) n (nI w)) (mixN (F 7) (if 0 < n then cLand F (I 4) n (cDigS F (I 4) n fd n) else cDigS F (I 4) n fd n) sz) v)]) hx hb hml hown hts hKK hP (c_X3_count l D cI cB cS hn h3 (nI v)) (cwV2 1 hts kw_611 kw_3 kw_640 kw_609 kw_610 rfl rfl (by decide +kernel) ⟨Nat.le_of_ble_eq_true rfl, Nat.le_of_ble_eq_true rfl⟩) 0 rfl rfl rfl rfl hl.1 rfl (Nat.le_of_ble_eq_true rfl) ⟨Nat.zero_le _, Nat.zero_le _⟩ dX3_digest_146 ?_
                      refine topE (z := (cCount I (F 8) n (nI v))) rfl ?_
                      refine lv_i2l (v := ((cCount I (F 8) n (nI v)).toInt64)) hx hb dX3_digest_149 rfl ?_
                      refine rcSl (As := [.long (mixN (fun w => cCount I (F 8) n (nI w)) (mixN (F 7) (if 0 < n then cLand F (I 4) n (cDigS F (I 4) n fd n) else cDigS F (I 4) n fd n) sz) v), .long ((cCount I (F 8) n (nI v)).toInt64)]) (rest := []) hx hb hml hown hts hKK hP (c_X3_mixed l D cI cB cS (mixN (fun w => cCount I (F 8) n (nI w)) (mixN (F 7) (if 0 < n then cLand F (I 4) n (cDigS F (I 4) n fd n) else cDigS F (I 4) n fd n) sz) v) ((cCount I (F 8) n (nI v)).toInt64)) (cwS2 2 hts kw_628 kw_3 kw_626 kw_627 rfl rfl (by decide +kernel) ⟨Nat.le_of_ble_eq_true rfl, Nat.le_of_ble_eq_true rfl⟩) rfl hl.1 rfl (Nat.le_of_ble_eq_true rfl) ⟨Nat.zero_le _, Nat.zero_le _⟩ dX3_digest_150 ?_
                      refine topL (z := (mx (mixN (fun w => cCount I (F 8) n (nI w)) (mixN (F 7) (if 0 < n then cLand F (I 4) n (cDigS F (I 4) n fd n) else cDigS F (I 4) n fd n) sz) v) (cCount I (F 8) n (nI v)))) rfl ?_
                      refine lv_lstore_n (lv' := [(1, .long (mx (mixN (fun w => cCount I (F 8) n (nI w)) (mixN (F 7) (if 0 < n then cLand F (I 4) n (cDigS F (I 4) n fd n) else cDigS F (I 4) n fd n) sz) v) (cCount I (F 8) n (nI v)))), (0, .ref (B 0)), (3, .int (nI v))]) hx hb dX3_digest_153 rfl hl (by decide) rfl (fun ls hl => ?_)
                      refine lv_iinc (v := (nI (v + 1))) (lv' := [(3, .int (nI (v + 1))), (1, .long (mx (mixN (fun w => cCount I (F 8) n (nI w)) (mixN (F 7) (if 0 < n then cLand F (I 4) n (cDigS F (I 4) n fd n) else cDigS F (I 4) n fd n) sz) v) (cCount I (F 8) n (nI v)))), (0, .ref (B 0))]) hx hb dX3_digest_154 hl (k := 2) rfl (nI_add v 1) (by decide) rfl (fun ls hl => ?_)
                      refine lv_goto (tgt := 137) hx hb dX3_digest_157 (by decide) ?_
                      have hP9 : va_P D vwCl (wsB B cI cS I (va_up F 6 (cDScr F (I 4) n fd k))) H := by exact hP
                      exact ih_137 (v + 1) (mx (mixN (fun w => cCount I (F 8) n (nI w)) (mixN (F 7) (if 0 < n then cLand F (I 4) n (cDigS F (I 4) n fd n) else cDigS F (I 4) n fd n) sz) v) (cCount I (F 8) n (nI v))) (nI (v + 1)) rfl rfl (by omega) (by omega) H locs hP9 hS ls (lv_sub hl [2, 1, 0] rfl)
                have hP9 : va_P D vwCl (wsB B cI cS I (va_up F 6 (cDScr F (I 4) n fd k))) H := by exact hP
                exact loop_137 ((8 - 0) + 1) 0 (mixN (F 7) (if 0 < n then cLand F (I 4) n (cDigS F (I 4) n fd n) else cDigS F (I 4) n fd n) j) (0 : Int32) (by have hjn : j = sz := (by omega); subst hjn; rfl) rfl (by omega) (by omega) H locs hP9 hS ls (lv_sub hl [1, 2, 0] rfl)
              · have nc_5 : ¬ sz ≤ j := fun h => c_5 ((nI_leI (a := sz) (b := j) (by omega) (by omega)).mpr h)
                refine lv_lload_n hx hb dX3_digest_115 rfl (lv_at hl 1 rfl) ?_
                refine lv_aload_n hx hb dX3_digest_116 rfl (lv_at hl 0 rfl) ?_
                refine va_get (D := D) (ci := 3) (v := .ref (B 1)) (C := RX3) (T := TX3) (N := 8) hx hb hts inlX3 hown hK hP 0 rfl rfl 0 (by decide) (hts _ kw_15) (fun _ h9 => h9) rfl dX3_digest_117 ?_
                refine lv_iload_n hx hb dX3_digest_120 rfl (lv_at hl 2 rfl) ?_
                refine rcVi (As := [.int (nI j)]) (rest := [.long (mixN (F 7) (if 0 < n then cLand F (I 4) n (cDigS F (I 4) n fd n) else cDigS F (I 4) n fd n) j)]) hx hb hml hown hts hKK hP (c_X0_codeAt l D cI cB cS (k := j) (by omega)) (cwV2 1 hts kw_118 kw_14 kw_639 kw_116 kw_117 rfl rfl (by decide +kernel) ⟨Nat.le_of_ble_eq_true rfl, Nat.le_of_ble_eq_true rfl⟩) 1 rfl rfl rfl rfl hl.1 rfl (Nat.le_of_ble_eq_true rfl) ⟨Nat.zero_le _, Nat.zero_le _⟩ dX3_digest_121 ?_
                refine topE (z := ((F 7) j)) rfl ?_
                refine lv_i2l (v := (((F 7) j).toInt64)) hx hb dX3_digest_124 rfl ?_
                refine rcSl (As := [.long (mixN (F 7) (if 0 < n then cLand F (I 4) n (cDigS F (I 4) n fd n) else cDigS F (I 4) n fd n) j), .long (((F 7) j).toInt64)]) (rest := []) hx hb hml hown hts hKK hP (c_X3_mixed l D cI cB cS (mixN (F 7) (if 0 < n then cLand F (I 4) n (cDigS F (I 4) n fd n) else cDigS F (I 4) n fd n) j) (((F 7) j).toInt64)) (cwS2 2 hts kw_628 kw_3 kw_626 kw_627 rfl rfl (by decide +kernel) ⟨Nat.le_of_ble_eq_true rfl, Nat.le_of_ble_eq_true rfl⟩) rfl hl.1 rfl (Nat.le_of_ble_eq_true rfl) ⟨Nat.zero_le _, Nat.zero_le _⟩ dX3_digest_125 ?_
                refine topL (z := (mx (mixN (F 7) (if 0 < n then cLand F (I 4) n (cDigS F (I 4) n fd n) else cDigS F (I 4) n fd n) j) ((F 7) j))) rfl ?_
                refine lv_lstore_n (lv' := [(1, .long (mx (mixN (F 7) (if 0 < n then cLand F (I 4) n (cDigS F (I 4) n fd n) else cDigS F (I 4) n fd n) j) ((F 7) j))), (0, .ref (B 0)), (3, .int (nI j))]) hx hb dX3_digest_128 rfl hl (by decide) rfl (fun ls hl => ?_)
                refine lv_iinc (v := (nI (j + 1))) (lv' := [(3, .int (nI (j + 1))), (1, .long (mx (mixN (F 7) (if 0 < n then cLand F (I 4) n (cDigS F (I 4) n fd n) else cDigS F (I 4) n fd n) j) ((F 7) j))), (0, .ref (B 0))]) hx hb dX3_digest_129 hl (k := 2) rfl (nI_add j 1) (by decide) rfl (fun ls hl => ?_)
                refine lv_goto (tgt := 104) hx hb dX3_digest_132 (by decide) ?_
                have hP9 : va_P D vwCl (wsB B cI cS I (va_up F 6 (cDScr F (I 4) n fd k))) H := by exact hP
                exact ih_104 (j + 1) (mx (mixN (F 7) (if 0 < n then cLand F (I 4) n (cDigS F (I 4) n fd n) else cDigS F (I 4) n fd n) j) ((F 7) j)) (nI (j + 1)) rfl rfl (by omega) (by omega) H locs hP9 hS ls (lv_sub hl [2, 1, 0] rfl)
          have hP9 : va_P D vwCl (wsB B cI cS I (va_up F 6 (cDScr F (I 4) n fd k))) H := by exact hP
          exact loop_104 ((sz - 0) + 1) 0 (cLand F (I 4) n (cDigS F (I 4) n fd k)) (0 : Int32) (by have hkn : k = n := (by omega); subst hkn; grind [mixN]) rfl (by omega) (by omega) H locs hP9 hS ls (lv_sub hl [2, 1, 0] rfl)
      · have nc_1 : ¬ n ≤ k := fun h => c_1 ((nI_leI (a := n) (b := k) (by omega) (by omega)).mpr h)
        refine lv_iconst (v := (0 : Int32)) hx hb dX3_digest_17 (by decide) ?_
        refine lv_istore (lv' := [(4, .int (0 : Int32)), (0, .ref (B 0)), (1, .long (cDigS F (I 4) n fd k)), (3, .int (nI k))]) hx hb dX3_digest_18 hl (by decide) rfl (fun ls hl => ?_)
        have loop_20 : ∀ (z : Nat) (q : Nat) (y1 : Int64) (y4 : Int32), y1 = mixN (fun w => cAbout F (I 4) n fd (nI k) (nI w)) (cDigS F (I 4) n fd k) q → y4 = nI q → (q ≤ 6) → 6 - q < z → ∀ (H : Heap) (locs : List Loc), va_P D vwCl (wsB B cI cS I (va_up F 6 (cDScr F (I 4) n fd k))) H → va_S (FPw (wsB B cI cS I F)) s.heap H locs → ∀ (ls : Array Slot), lv_has ls 5 [(0, .ref (B 0)), (1, .long y1), (3, .int (nI k)), (4, .int y4)] → W p l e ({ frames := 6, cells := 0, slots := 0, locals := 147 } : Room) s m args below meth c H locs 0 0 (MQ below (QcW D (some (.long (cDigest I F n fd sz))) (wsB B cI cS I F) (wsB B cI cS I (va_up F 6 (cDScr F (I 4) n fd n)))) args s 0 0 (FPw (wsB B cI cS I F))) (F0 m 20 ls []) := by
          intro z
          induction z with
          | zero =>
            intro q y1 y4 ey1 ey4 hq hz
            exact absurd hz (Nat.not_lt_zero _)
          | succ z ih_20 =>
            intro q y1 y4 ey1 ey4 hq hz H locs hP hS ls hl
            subst ey1
            subst ey4
            have hD := va_D_addr (ws := (wsB B cI cS I (va_up F 6 (cDScr F (I 4) n fd k)))) (ws' := (wsB B cI cS I (va_up F 6 (cDScr F (I 4) n fd k)))) rfl hD
            refine lv_iload hx hb dX3_digest_20 (lv_at hl 3 rfl) ?_
            refine lv_iconst (v := (5 : Int32)) hx hb dX3_digest_22 (by decide) ?_
            refine lv_icmp_gt (tgt := 45) hx hb dX3_digest_23 (by decide) (fun c_7 => ?_) (fun c_7 => ?_)
            · have nc_7 : 5 < q := (nI_ltI (a := 5) (b := q) (by omega) (by omega)).mp c_7
              have hq6 : q = 6 := by omega
              subst hq6
              refine lv_lload_n hx hb dX3_digest_45 rfl (lv_at hl 1 rfl) ?_
              refine lv_aload_n hx hb dX3_digest_46 rfl (lv_at hl 0 rfl) ?_
              refine lv_iload_n hx hb dX3_digest_47 rfl (lv_at hl 2 rfl) ?_
              refine lv_iconst (v := (3 : Int32)) hx hb dX3_digest_48 (by decide) ?_
              refine rcVi (As := [.int (nI k), .int (3 : Int32)]) (rest := [.long (mixN (fun w => cAbout F (I 4) n fd (nI k) (nI w)) (cDigS F (I 4) n fd k) 6)]) hx hb hml hown hts hKK hP (c_X3_wet l D cI cB cS hn h3 (nI k) (3 : Int32)) (cwV2 2 hts kw_373 kw_3 kw_464 kw_371 kw_372 rfl rfl (by decide +kernel) ⟨Nat.le_of_ble_eq_true rfl, Nat.le_of_ble_eq_true rfl⟩) 0 rfl rfl rfl rfl hl.1 rfl (Nat.le_of_ble_eq_true rfl) ⟨Nat.zero_le _, Nat.zero_le _⟩ dX3_digest_49 ?_
              refine topE (z := (cWetS F (I 4) n (nI k) (3 : Int32))) rfl ?_
              refine lv_i2l (v := ((cWetS F (I 4) n (nI k) (3 : Int32)).toInt64)) hx hb dX3_digest_52 rfl ?_
              refine rcSl (As := [.long (mixN (fun w => cAbout F (I 4) n fd (nI k) (nI w)) (cDigS F (I 4) n fd k) 6), .long ((cWetS F (I 4) n (nI k) (3 : Int32)).toInt64)]) (rest := []) hx hb hml hown hts hKK hP (c_X3_mixed l D cI cB cS (mixN (fun w => cAbout F (I 4) n fd (nI k) (nI w)) (cDigS F (I 4) n fd k) 6) ((cWetS F (I 4) n (nI k) (3 : Int32)).toInt64)) (cwS2 2 hts kw_628 kw_3 kw_626 kw_627 rfl rfl (by decide +kernel) ⟨Nat.le_of_ble_eq_true rfl, Nat.le_of_ble_eq_true rfl⟩) rfl hl.1 rfl (Nat.le_of_ble_eq_true rfl) ⟨Nat.zero_le _, Nat.zero_le _⟩ dX3_digest_53 ?_
              refine topL (z := (mx (mixN (fun w => cAbout F (I 4) n fd (nI k) (nI w)) (cDigS F (I 4) n fd k) 6) (cWetS F (I 4) n (nI k) (3 : Int32)))) rfl ?_
              refine lv_lstore_n (lv' := [(1, .long (mx (mixN (fun w => cAbout F (I 4) n fd (nI k) (nI w)) (cDigS F (I 4) n fd k) 6) (cWetS F (I 4) n (nI k) (3 : Int32)))), (0, .ref (B 0)), (3, .int (nI k)), (4, .int (nI 6))]) hx hb dX3_digest_56 rfl hl (by decide) rfl (fun ls hl => ?_)
              refine lv_lload_n hx hb dX3_digest_57 rfl (lv_at hl 0 rfl) ?_
              refine lv_aload_n hx hb dX3_digest_58 rfl (lv_at hl 1 rfl) ?_
              refine lv_iload_n hx hb dX3_digest_59 rfl (lv_at hl 2 rfl) ?_
              refine lv_bipush (v := (9 : Int32)) hx hb dX3_digest_60 (by decide) ?_
              refine rcVi (As := [.int (nI k), .int (9 : Int32)]) (rest := [.long (mx (mixN (fun w => cAbout F (I 4) n fd (nI k) (nI w)) (cDigS F (I 4) n fd k) 6) (cWetS F (I 4) n (nI k) (3 : Int32)))]) hx hb hml hown hts hKK hP (c_X3_wet l D cI cB cS hn h3 (nI k) (9 : Int32)) (cwV2 2 hts kw_373 kw_3 kw_464 kw_371 kw_372 rfl rfl (by decide +kernel) ⟨Nat.le_of_ble_eq_true rfl, Nat.le_of_ble_eq_true rfl⟩) 0 rfl rfl rfl rfl hl.1 rfl (Nat.le_of_ble_eq_true rfl) ⟨Nat.zero_le _, Nat.zero_le _⟩ dX3_digest_62 ?_
              refine topE (z := (cWetS F (I 4) n (nI k) (9 : Int32))) rfl ?_
              refine lv_i2l (v := ((cWetS F (I 4) n (nI k) (9 : Int32)).toInt64)) hx hb dX3_digest_65 rfl ?_
              refine rcSl (As := [.long (mx (mixN (fun w => cAbout F (I 4) n fd (nI k) (nI w)) (cDigS F (I 4) n fd k) 6) (cWetS F (I 4) n (nI k) (3 : Int32))), .long ((cWetS F (I 4) n (nI k) (9 : Int32)).toInt64)]) (rest := []) hx hb hml hown hts hKK hP (c_X3_mixed l D cI cB cS (mx (mixN (fun w => cAbout F (I 4) n fd (nI k) (nI w)) (cDigS F (I 4) n fd k) 6) (cWetS F (I 4) n (nI k) (3 : Int32))) ((cWetS F (I 4) n (nI k) (9 : Int32)).toInt64)) (cwS2 2 hts kw_628 kw_3 kw_626 kw_627 rfl rfl (by decide +kernel) ⟨Nat.le_of_ble_eq_true rfl, Nat.le_of_ble_eq_true rfl⟩) rfl hl.1 rfl (Nat.le_of_ble_eq_true rfl) ⟨Nat.zero_le _, Nat.zero_le _⟩ dX3_digest_66 ?_
              refine topL (z := (mx (mx (mixN (fun w => cAbout F (I 4) n fd (nI k) (nI w)) (cDigS F (I 4) n fd k) 6) (cWetS F (I 4) n (nI k) (3 : Int32))) (cWetS F (I 4) n (nI k) (9 : Int32)))) rfl ?_
              refine lv_lstore_n (lv' := [(1, .long (mx (mx (mixN (fun w => cAbout F (I 4) n fd (nI k) (nI w)) (cDigS F (I 4) n fd k) 6) (cWetS F (I 4) n (nI k) (3 : Int32))) (cWetS F (I 4) n (nI k) (9 : Int32)))), (0, .ref (B 0)), (3, .int (nI k)), (4, .int (nI 6))]) hx hb dX3_digest_69 rfl hl (by decide) rfl (fun ls hl => ?_)
              refine lv_lload_n hx hb dX3_digest_70 rfl (lv_at hl 0 rfl) ?_
              refine lv_aload_n hx hb dX3_digest_71 rfl (lv_at hl 1 rfl) ?_
              refine lv_iload_n hx hb dX3_digest_72 rfl (lv_at hl 2 rfl) ?_
              refine lv_bipush (v := (6 : Int32)) hx hb dX3_digest_73 (by decide) ?_
              refine wcVi (As := [.int (nI k), .int (6 : Int32)]) (rest := [.long (mx (mx (mixN (fun w => cAbout F (I 4) n fd (nI k) (nI w)) (cDigS F (I 4) n fd k) 6) (cWetS F (I 4) n (nI k) (3 : Int32))) (cWetS F (I 4) n (nI k) (9 : Int32)))]) hx hb hml hown hts hKK hP hD hS (c_X3_look l D cI cB cS hn h3 hfd h6 (nI k) (6 : Int32)) (cwV2 2 hts kw_510 kw_3 kw_630 kw_508 kw_509 rfl rfl (by decide +kernel) ⟨Nat.le_of_ble_eq_true rfl, Nat.le_of_ble_eq_true rfl⟩) 0 rfl rfl rfl rfl hl.1 rfl (Nat.le_of_ble_eq_true rfl) ⟨Nat.zero_le _, Nat.zero_le _⟩ dX3_digest_75 (fun H locs hP hS => ?_)
              have hP : va_P D vwCl (wsB B cI cS I (va_up F 6 (cLookF F (I 4) n fd (nI k) (6 : Int32) (cDScr F (I 4) n fd k)))) H := hP
              have hD : va_D (FPw (wsB B cI cS I F)) (wsB B cI cS I (va_up F 6 (cLookF F (I 4) n fd (nI k) (6 : Int32) (cDScr F (I 4) n fd k)))) := va_D_addr (ws := (wsB B cI cS I (va_up F 6 (cDScr F (I 4) n fd k)))) rfl hD
              refine topE (z := (cLook F (I 4) n fd (nI k) (6 : Int32))) rfl ?_
              refine lv_i2l (v := ((cLook F (I 4) n fd (nI k) (6 : Int32)).toInt64)) hx hb dX3_digest_78 rfl ?_
              refine rcSl (As := [.long (mx (mx (mixN (fun w => cAbout F (I 4) n fd (nI k) (nI w)) (cDigS F (I 4) n fd k) 6) (cWetS F (I 4) n (nI k) (3 : Int32))) (cWetS F (I 4) n (nI k) (9 : Int32))), .long ((cLook F (I 4) n fd (nI k) (6 : Int32)).toInt64)]) (rest := []) hx hb hml hown hts hKK hP (c_X3_mixed l D cI cB cS (mx (mx (mixN (fun w => cAbout F (I 4) n fd (nI k) (nI w)) (cDigS F (I 4) n fd k) 6) (cWetS F (I 4) n (nI k) (3 : Int32))) (cWetS F (I 4) n (nI k) (9 : Int32))) ((cLook F (I 4) n fd (nI k) (6 : Int32)).toInt64)) (cwS2 2 hts kw_628 kw_3 kw_626 kw_627 rfl rfl (by decide +kernel) ⟨Nat.le_of_ble_eq_true rfl, Nat.le_of_ble_eq_true rfl⟩) rfl hl.1 rfl (Nat.le_of_ble_eq_true rfl) ⟨Nat.zero_le _, Nat.zero_le _⟩ dX3_digest_79 ?_
              refine topL (z := (mx (mx (mx (mixN (fun w => cAbout F (I 4) n fd (nI k) (nI w)) (cDigS F (I 4) n fd k) 6) (cWetS F (I 4) n (nI k) (3 : Int32))) (cWetS F (I 4) n (nI k) (9 : Int32))) (cLook F (I 4) n fd (nI k) (6 : Int32)))) rfl ?_
              refine lv_lstore_n (lv' := [(1, .long (mx (mx (mx (mixN (fun w => cAbout F (I 4) n fd (nI k) (nI w)) (cDigS F (I 4) n fd k) 6) (cWetS F (I 4) n (nI k) (3 : Int32))) (cWetS F (I 4) n (nI k) (9 : Int32))) (cLook F (I 4) n fd (nI k) (6 : Int32)))), (0, .ref (B 0)), (3, .int (nI k)), (4, .int (nI 6))]) hx hb dX3_digest_82 rfl hl (by decide) rfl (fun ls hl => ?_)
              refine lv_iinc (v := (nI (k + 1))) (lv' := [(3, .int (nI (k + 1))), (1, .long (mx (mx (mx (mixN (fun w => cAbout F (I 4) n fd (nI k) (nI w)) (cDigS F (I 4) n fd k) 6) (cWetS F (I 4) n (nI k) (3 : Int32))) (cWetS F (I 4) n (nI k) (9 : Int32))) (cLook F (I 4) n fd (nI k) (6 : Int32)))), (0, .ref (B 0)), (4, .int (nI 6))]) hx hb dX3_digest_83 hl (k := 2) rfl (nI_add k 1) (by decide) rfl (fun ls hl => ?_)
              refine lv_goto (tgt := 6) hx hb dX3_digest_86 (by decide) ?_
              have hP9 : va_P D vwCl (wsB B cI cS I (va_up F 6 (cDScr F (I 4) n fd (k + 1)))) H := by exact hP
              exact ih_6 (k + 1) (mx (mx (mx (mixN (fun w => cAbout F (I 4) n fd (nI k) (nI w)) (cDigS F (I 4) n fd k) 6) (cWetS F (I 4) n (nI k) (3 : Int32))) (cWetS F (I 4) n (nI k) (9 : Int32))) (cLook F (I 4) n fd (nI k) (6 : Int32))) (nI (k + 1)) rfl rfl (by omega) (by omega) H locs hP9 hS ls (lv_sub hl [2, 1, 0] rfl)
            · have nc_7 : ¬ 5 < q := fun h => c_7 ((nI_ltI (a := 5) (b := q) (by omega) (by omega)).mpr h)
              refine lv_lload_n hx hb dX3_digest_26 rfl (lv_at hl 1 rfl) ?_
              refine lv_aload_n hx hb dX3_digest_27 rfl (lv_at hl 0 rfl) ?_
              refine lv_iload_n hx hb dX3_digest_28 rfl (lv_at hl 2 rfl) ?_
              refine lv_iload hx hb dX3_digest_29 (lv_at hl 3 rfl) ?_
              refine rcVi (As := [.int (nI k), .int (nI q)]) (rest := [.long (mixN (fun w => cAbout F (I 4) n fd (nI k) (nI w)) (cDigS F (I 4) n fd k) q)]) hx hb hml hown hts hKK hP (c_X3_about l D cI cB cS hn h3 hfd h6 (nI k) (nI q)) (cwV2 2 hts kw_262 kw_3 kw_625 kw_260 kw_261 rfl rfl (by decide +kernel) ⟨Nat.le_of_ble_eq_true rfl, Nat.le_of_ble_eq_true rfl⟩) 0 rfl rfl rfl rfl hl.1 rfl (Nat.le_of_ble_eq_true rfl) ⟨Nat.zero_le _, Nat.zero_le _⟩ dX3_digest_31 ?_
              refine topE (z := (cAbout F (I 4) n fd (nI k) (nI q))) rfl ?_
              refine lv_i2l (v := ((cAbout F (I 4) n fd (nI k) (nI q)).toInt64)) hx hb dX3_digest_34 rfl ?_
              refine rcSl (As := [.long (mixN (fun w => cAbout F (I 4) n fd (nI k) (nI w)) (cDigS F (I 4) n fd k) q), .long ((cAbout F (I 4) n fd (nI k) (nI q)).toInt64)]) (rest := []) hx hb hml hown hts hKK hP (c_X3_mixed l D cI cB cS (mixN (fun w => cAbout F (I 4) n fd (nI k) (nI w)) (cDigS F (I 4) n fd k) q) ((cAbout F (I 4) n fd (nI k) (nI q)).toInt64)) (cwS2 2 hts kw_628 kw_3 kw_626 kw_627 rfl rfl (by decide +kernel) ⟨Nat.le_of_ble_eq_true rfl, Nat.le_of_ble_eq_true rfl⟩) rfl hl.1 rfl (Nat.le_of_ble_eq_true rfl) ⟨Nat.zero_le _, Nat.zero_le _⟩ dX3_digest_35 ?_
              refine topL (z := (mx (mixN (fun w => cAbout F (I 4) n fd (nI k) (nI w)) (cDigS F (I 4) n fd k) q) (cAbout F (I 4) n fd (nI k) (nI q)))) rfl ?_
              refine lv_lstore_n (lv' := [(1, .long (mx (mixN (fun w => cAbout F (I 4) n fd (nI k) (nI w)) (cDigS F (I 4) n fd k) q) (cAbout F (I 4) n fd (nI k) (nI q)))), (0, .ref (B 0)), (3, .int (nI k)), (4, .int (nI q))]) hx hb dX3_digest_38 rfl hl (by decide) rfl (fun ls hl => ?_)
              refine lv_iinc (v := (nI (q + 1))) (lv' := [(4, .int (nI (q + 1))), (1, .long (mx (mixN (fun w => cAbout F (I 4) n fd (nI k) (nI w)) (cDigS F (I 4) n fd k) q) (cAbout F (I 4) n fd (nI k) (nI q)))), (0, .ref (B 0)), (3, .int (nI k))]) hx hb dX3_digest_39 hl (k := 3) rfl (nI_add q 1) (by decide) rfl (fun ls hl => ?_)
              refine lv_goto (tgt := 20) hx hb dX3_digest_42 (by decide) ?_
              have hP9 : va_P D vwCl (wsB B cI cS I (va_up F 6 (cDScr F (I 4) n fd k))) H := by exact hP
              exact ih_20 (q + 1) (mx (mixN (fun w => cAbout F (I 4) n fd (nI k) (nI w)) (cDigS F (I 4) n fd k) q) (cAbout F (I 4) n fd (nI k) (nI q))) (nI (q + 1)) rfl rfl (by omega) (by omega) H locs hP9 hS ls (lv_sub hl [2, 1, 3, 0] rfl)
        have hP9 : va_P D vwCl (wsB B cI cS I (va_up F 6 (cDScr F (I 4) n fd k))) H := by exact hP
        exact loop_20 ((6 - 0) + 1) 0 (cDigS F (I 4) n fd k) (0 : Int32) rfl rfl (by omega) (by omega) H locs hP9 hS ls (lv_sub hl [1, 2, 3, 0] rfl)
  have hP9 : va_P D vwCl (wsB B cI cS I (va_up F 6 (cDScr F (I 4) n fd 0))) s.heap := by exact hP
  exact loop_6 ((n - 0) + 1) 0 (1049 : Int64) (0 : Int32) rfl rfl (by omega) (by omega) s.heap [] hP9 hS ls (lv_sub hl [2, 1, 0] rfl)
