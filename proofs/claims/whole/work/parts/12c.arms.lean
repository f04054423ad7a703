/-! THE LAW: an arm of its switch each: both calls answer the same, the invariant is kept -/
set_option maxHeartbeats 1000000 in
theorem arm_letter {p : Program} {l : Launch} {e : Env} {s : State} {m : MethodId} {args : Array Value} {below : List Frame} {meth : Method} {c : Code} {D : va_G} {cI cB cS : ClassId} {H : Heap} {locs : List Loc} {cells slots : Nat} {Q : State → Prop} {b L : Nat} {xs : Nat → Int32} {N j : Nat} {B A : Nat → Nat} {IB IM : Nat → Int32} {J : Nat → Int64} {FB FM : Nat → Nat → Int32} {n fd sz w lv kl kn kw kf ks vs : Nat} {ls : Array Slot} (hx : p.tables.exec = Jvm.exec) (hb : c.code = cL_law) (hml : c.maxLocals = 4) (hown : s.vm.findClass RL = some m.cls) (hts : ∀ w ∈ wsG, w.before args s = true) (hKK : KK D (TYS cI cB cS) s) (hSF : SF ks vs (fun q => s.heap.size ≤ q) s s.heap) (hX : va_X b L xs s s.heap) (hbl : b < s.heap.size) (hj : j + 5 ≤ L) (hL : L ≤ 2560) (hN1 : N < 1000000) (hcl : cells + 0 ≤ room_1.cells ∧ slots + 0 ≤ room_1.slots) (hI : LI N IB FB IM FM n fd sz w lv kl kn kw kf) (hJ : JW D (fun q => s.heap.size ≤ q) s.heap (wsB B cI cS IB FB) (wsM A cI cB IM J FM) H locs) (hl : lv_has ls 4 [(0, .ref b), (1, .ref (B 0)), (2, .ref (A 0)), (3, .int (nI j))])
    (kk : ∀ (H1 : Heap) (locs1 : List Loc) (IB1 IM1 : Nat → Int32) (J1 : Nat → Int64) (FB1 FM1 : Nat → Nat → Int32) (n1 fd1 sz1 w1 lv1 kl1 kn1 kw1 kf1 : Nat), LI (N + 1) IB1 FB1 IM1 FM1 n1 fd1 sz1 w1 lv1 kl1 kn1 kw1 kf1 → JW D (fun q => s.heap.size ≤ q) s.heap (wsB B cI cS IB1 FB1) (wsM A cI cB IM1 J1 FM1) H1 locs1 → W p l e room_1 s m args below meth c H1 locs1 cells slots Q (F0 m 776 ls [])) : W p l e room_1 s m args below meth c H locs cells slots Q (F0 m 140 ls []) := by
  obtain ⟨q_b3, q_m1, q_n6, q_b4, q_m6, q_ww, q_ev, q_b6, q_m9, q_f6, q_b2, q_m13, q_s21, q_b1, q_m0, q_lN, q_b7, q_m20, q_kn6, q_b8, q_m21, q_kww, q_kev, q_b10, q_m23, q_kf6, q_m19, q_kle, q_kept, q_rows, q_ink, q_fnd, q_kink, q_kfnd, q_pg⟩ := id hI
  have hbA : ¬ s.heap.size ≤ b := Nat.not_le.mpr hbl
  refine lv_aload_n hx hb dL_law_140 rfl (lv_at hl 1 rfl) ?_
  refine lv_aload_n hx hb dL_law_141 rfl (lv_at hl 0 rfl) ?_
  refine lv_iload_n hx hb dL_law_142 rfl (lv_at hl 3 rfl) ?_
  refine lv_iconst (v := (1 : Int32)) hx hb dL_law_143 (by decide) ?_
  refine lv_iadd hx hb dL_law_144 ?_
  refine topE (z := nI (j + 1)) (nI_add j 1) ?_
  refine va_sld hx hb hX hbl hbA hJ.2.2.2 (vp_in_nI (by omega) (by omega)) dL_law_145 ?_
  refine topE (z := xs (j + 1)) (by rw [nI_clamp (by omega)]) ?_
  refine jcVi (As := [.int (xs (j + 1))]) (rest := []) hx hb hml hown hts hKK hJ (by split <;> rfl) (c_X3_letter l D cI cB cS q_s21 q_b2 (xs (j + 1))) (cwV2 1 hts kw_78 kw_3 kw_75 kw_76 kw_77 rfl rfl (by decide +kernel) ⟨Nat.le_of_ble_eq_true rfl, Nat.le_of_ble_eq_true rfl⟩) 0 rfl rfl rfl rfl hl.1 rfl (Nat.le_of_ble_eq_true rfl) hcl dL_law_146 (fun H locs hJ => ?_)
  refine lv_aload_n hx hb dL_law_149 rfl (lv_at hl 2 rfl) ?_
  refine lv_aload_n hx hb dL_law_150 rfl (lv_at hl 0 rfl) ?_
  refine lv_iload_n hx hb dL_law_151 rfl (lv_at hl 3 rfl) ?_
  refine lv_iconst (v := (1 : Int32)) hx hb dL_law_152 (by decide) ?_
  refine lv_iadd hx hb dL_law_153 ?_
  refine topE (z := nI (j + 1)) (nI_add j 1) ?_
  refine va_sld hx hb hX hbl hbA hJ.2.2.2 (vp_in_nI (by omega) (by omega)) dL_law_154 ?_
  refine topE (z := xs (j + 1)) (by rw [nI_clamp (by omega)]) ?_
  refine jcVi (As := [.int (xs (j + 1))]) (rest := [.int _]) hx hb hml hown hts hKK hJ.sw (by split <;> rfl) (c_X4_letter l D cI cB cS q_s21 q_m13 (xs (j + 1))) (cwV2 1 hts kw_86 kw_6 kw_83 kw_84 kw_85 rfl rfl (by decide +kernel) ⟨Nat.le_of_ble_eq_true rfl, Nat.le_of_ble_eq_true rfl⟩) 0 rfl rfl rfl rfl hl.1 rfl (Nat.le_of_ble_eq_true rfl) hcl dL_law_155 (fun H locs hJ => ?_)
  have hJ := hJ.sw
  refine lv_icmp_eq (tgt := 776) hx hb dL_law_158 (by decide) (fun _ => ?_) (fun h => absurd rfl h)
  by_cases h : okL (xs (j + 1)) ∧ sz < 21
  · rw [if_pos h, if_pos h] at hJ
    exact kk _ _ _ _ _ _ _ _ _ _ _ _ _ _ _ _ (LI_letter h.1 h.2 hI) hJ
  · rw [if_neg h, if_neg h] at hJ
    exact kk _ _ _ _ _ _ _ _ _ _ _ _ _ _ _ _ (LI_same hI) hJ
set_option maxHeartbeats 1000000 in
theorem arm_wet {p : Program} {l : Launch} {e : Env} {s : State} {m : MethodId} {args : Array Value} {below : List Frame} {meth : Method} {c : Code} {D : va_G} {cI cB cS : ClassId} {H : Heap} {locs : List Loc} {cells slots : Nat} {Q : State → Prop} {b L : Nat} {xs : Nat → Int32} {N j : Nat} {B A : Nat → Nat} {IB IM : Nat → Int32} {J : Nat → Int64} {FB FM : Nat → Nat → Int32} {n fd sz w lv kl kn kw kf ks vs : Nat} {ls : Array Slot} (hx : p.tables.exec = Jvm.exec) (hb : c.code = cL_law) (hml : c.maxLocals = 4) (hown : s.vm.findClass RL = some m.cls) (hts : ∀ w ∈ wsG, w.before args s = true) (hKK : KK D (TYS cI cB cS) s) (hSF : SF ks vs (fun q => s.heap.size ≤ q) s s.heap) (hX : va_X b L xs s s.heap) (hbl : b < s.heap.size) (hj : j + 5 ≤ L) (hL : L ≤ 2560) (hN1 : N < 1000000) (hcl : cells + 0 ≤ room_1.cells ∧ slots + 0 ≤ room_1.slots) (hI : LI N IB FB IM FM n fd sz w lv kl kn kw kf) (hJ : JW D (fun q => s.heap.size ≤ q) s.heap (wsB B cI cS IB FB) (wsM A cI cB IM J FM) H locs) (hl : lv_has ls 4 [(0, .ref b), (1, .ref (B 0)), (2, .ref (A 0)), (3, .int (nI j))])
    (kk : ∀ (H1 : Heap) (locs1 : List Loc) (IB1 IM1 : Nat → Int32) (J1 : Nat → Int64) (FB1 FM1 : Nat → Nat → Int32) (n1 fd1 sz1 w1 lv1 kl1 kn1 kw1 kf1 : Nat), LI (N + 1) IB1 FB1 IM1 FM1 n1 fd1 sz1 w1 lv1 kl1 kn1 kw1 kf1 → JW D (fun q => s.heap.size ≤ q) s.heap (wsB B cI cS IB1 FB1) (wsM A cI cB IM1 J1 FM1) H1 locs1 → W p l e room_1 s m args below meth c H1 locs1 cells slots Q (F0 m 776 ls [])) : W p l e room_1 s m args below meth c H locs cells slots Q (F0 m 370 ls []) := by
  obtain ⟨q_b3, q_m1, q_n6, q_b4, q_m6, q_ww, q_ev, q_b6, q_m9, q_f6, q_b2, q_m13, q_s21, q_b1, q_m0, q_lN, q_b7, q_m20, q_kn6, q_b8, q_m21, q_kww, q_kev, q_b10, q_m23, q_kf6, q_m19, q_kle, q_kept, q_rows, q_ink, q_fnd, q_kink, q_kfnd, q_pg⟩ := id hI
  have hbA : ¬ s.heap.size ≤ b := Nat.not_le.mpr hbl
  refine lv_aload_n hx hb dL_law_370 rfl (lv_at hl 1 rfl) ?_
  refine lv_aload_n hx hb dL_law_371 rfl (lv_at hl 0 rfl) ?_
  refine lv_iload_n hx hb dL_law_372 rfl (lv_at hl 3 rfl) ?_
  refine lv_iconst (v := (1 : Int32)) hx hb dL_law_373 (by decide) ?_
  refine lv_iadd hx hb dL_law_374 ?_
  refine topE (z := nI (j + 1)) (nI_add j 1) ?_
  refine va_sld hx hb hX hbl hbA hJ.2.2.2 (vp_in_nI (by omega) (by omega)) dL_law_375 ?_
  refine topE (z := xs (j + 1)) (by rw [nI_clamp (by omega)]) ?_
  refine lv_aload_n hx hb dL_law_376 rfl (lv_at hl 0 rfl) ?_
  refine lv_iload_n hx hb dL_law_377 rfl (lv_at hl 3 rfl) ?_
  refine lv_iconst (v := (2 : Int32)) hx hb dL_law_378 (by decide) ?_
  refine lv_iadd hx hb dL_law_379 ?_
  refine topE (z := nI (j + 2)) (nI_add j 2) ?_
  refine va_sld hx hb hX hbl hbA hJ.2.2.2 (vp_in_nI (by omega) (by omega)) dL_law_380 ?_
  refine topE (z := xs (j + 2)) (by rw [nI_clamp (by omega)]) ?_
  refine rcVi (As := [.int (xs (j + 1)), .int (xs (j + 2))]) (rest := []) hx hb hml hown hts hKK hJ.1 (c_X3_wet l D cI cB cS q_n6 q_b3 (xs (j + 1)) (xs (j + 2))) (cwV2 2 hts kw_373 kw_3 kw_370 kw_371 kw_372 rfl rfl (by decide +kernel) ⟨Nat.le_of_ble_eq_true rfl, Nat.le_of_ble_eq_true rfl⟩) 0 rfl rfl rfl rfl hl.1 rfl (Nat.le_of_ble_eq_true rfl) hcl dL_law_381 ?_
  refine lv_aload_n hx hb dL_law_384 rfl (lv_at hl 2 rfl) ?_
  refine lv_aload_n hx hb dL_law_385 rfl (lv_at hl 0 rfl) ?_
  refine lv_iload_n hx hb dL_law_386 rfl (lv_at hl 3 rfl) ?_
  refine lv_iconst (v := (1 : Int32)) hx hb dL_law_387 (by decide) ?_
  refine lv_iadd hx hb dL_law_388 ?_
  refine topE (z := nI (j + 1)) (nI_add j 1) ?_
  refine va_sld hx hb hX hbl hbA hJ.2.2.2 (vp_in_nI (by omega) (by omega)) dL_law_389 ?_
  refine topE (z := xs (j + 1)) (by rw [nI_clamp (by omega)]) ?_
  refine lv_aload_n hx hb dL_law_390 rfl (lv_at hl 0 rfl) ?_
  refine lv_iload_n hx hb dL_law_391 rfl (lv_at hl 3 rfl) ?_
  refine lv_iconst (v := (2 : Int32)) hx hb dL_law_392 (by decide) ?_
  refine lv_iadd hx hb dL_law_393 ?_
  refine topE (z := nI (j + 2)) (nI_add j 2) ?_
  refine va_sld hx hb hX hbl hbA hJ.2.2.2 (vp_in_nI (by omega) (by omega)) dL_law_394 ?_
  refine topE (z := xs (j + 2)) (by rw [nI_clamp (by omega)]) ?_
  refine rcVi (As := [.int (xs (j + 1)), .int (xs (j + 2))]) (rest := [.int _]) hx hb hml hown hts hKK hJ.sw.1 (c_X4_wet l D cI cB cS q_n6 q_m1 (xs (j + 1)) (xs (j + 2))) (cwV2 2 hts kw_380 kw_6 kw_377 kw_378 kw_379 rfl rfl (by decide +kernel) ⟨Nat.le_of_ble_eq_true rfl, Nat.le_of_ble_eq_true rfl⟩) 0 rfl rfl rfl rfl hl.1 rfl (Nat.le_of_ble_eq_true rfl) hcl dL_law_395 ?_
  refine lv_icmp_eq (tgt := 776) hx hb dL_law_398 (by decide) (fun _ => ?_) (fun h => absurd (by rw [q_b4, q_m6]; exact wetS_eq q_n6 q_rows) h)
  exact kk _ _ _ _ _ _ _ _ _ _ _ _ _ _ _ _ (LI_same hI) hJ
