/-! THE LAW: an arm of its switch each: both calls answer the same, the invariant is kept -/
section LCM
variable {p : Program} {l : Launch} {e : Env} {R : Room} {s : State} {m : MethodId} {args : Array Value} {below : List Frame} {meth : Method} {c : Code} {H : Heap} {locs : List Loc} {cells slots : Nat} {Q : State → Prop} {cc : ByteArray} {pc : Nat} {ls : Array Slot} {rest : List Value}
theorem lv_lcmpE (hexec : p.tables.exec = Jvm.exec) (hb : c.code = cc) {x : Int64} (hdg : decode cc pc = .ok (.lcmp, 1)) (k : W p l e R s m args below meth c H locs cells slots Q (F0 m (pc + 1) ls (.int 0 :: rest))) : W p l e R s m args below meth c H locs cells slots Q (F0 m pc ls (.long x :: .long x :: rest)) := by
  intro T hT X
  obtain ⟨t, a, b⟩ := k T hT X
  refine ⟨t, ?_, b⟩
  jvm_step X.here [X.here.top, hexec, hb, hdg, gt_iff_lt, Int64.lt_irrefl, beq_self_eq_true]
  exact a
end LCM
set_option maxHeartbeats 1000000 in
theorem arm_letter {p : Program} {l : Launch} {e : Env} {s : State} {m : MethodId} {args : Array Value} {below : List Frame} {meth : Method} {c : Code} {D : va_G} {cI cB cS : ClassId} {H : Heap} {locs : List Loc} {cells slots : Nat} {Q : State → Prop} {b L : Nat} {xs : Nat → Int32} {N j : Nat} {B A : Nat → Nat} {IB IM : Nat → Int32} {J : Nat → Int64} {FB FM : Nat → Nat → Int32} {n fd sz w lv kl kn kw kf ks vs : Nat} {ls : Array Slot} (hx : p.tables.exec = Jvm.exec) (hb : c.code = cL_law) (hml : c.maxLocals = 4) (hown : s.vm.findClass RL = some m.cls) (hts : ∀ w ∈ wsG, w.before args s = true) (hKK : KK D (TYS cI cB cS) s) (hSF : SF ks vs (fun q => s.heap.size ≤ q) s s.heap) (hX : va_X b L xs s s.heap) (hbl : b < s.heap.size) (hj : j + 5 ≤ L) (hL : L ≤ 2560) (hN1 : N < 1000000) (hcl : cells + 0 ≤ room_1.cells ∧ slots + 0 ≤ room_1.slots) (hI : LI N IB FB IM FM n fd sz w lv kl kn kw kf) (hJ : JW D (fun q => s.heap.size ≤ q) s.heap (wsB B cI cS IB FB) (wsM A cI cB IM J FM) H locs) (hl : lv_has ls 4 [(0, .ref b), (1, .ref (B 0)), (2, .ref (A 0)), (3, .int (nI j))])
    (kk : ∀ (H1 : Heap) (locs1 : List Loc) (IB1 IM1 : Nat → Int32) (J1 : Nat → Int64) (FB1 FM1 : Nat → Nat → Int32) (n1 fd1 sz1 w1 lv1 kl1 kn1 kw1 kf1 : Nat), LI (N + 1) IB1 FB1 IM1 FM1 n1 fd1 sz1 w1 lv1 kl1 kn1 kw1 kf1 → JW D (fun q => s.heap.size ≤ q) s.heap (wsB B cI cS IB1 FB1) (wsM A cI cB IM1 J1 FM1) H1 locs1 → W p l e room_1 s m args below meth c H1 locs1 cells slots Q (F0 m 776 ls [])) : W p l e room_1 s m args below meth c H locs cells slots Q (F0 m 140 ls []) := by
  obtain ⟨q_b3, q_m1, q_n6, q_b4, q_m6, q_ww, q_ev, q_b6, q_m9, q_f6, q_b2, q_m13, q_s21, q_b1, q_m0, q_lN, q_b7, q_m20, q_kn6, q_b8, q_m21, q_kww, q_kev, q_b10, q_m23, q_kf6, q_m19, q_kle, q_kept, q_rows, q_ink, q_fnd, q_kink, q_kfnd, q_pg⟩ := id hI
  have hbA : ¬ s.heap.size ≤ b := Nat.not_le.mpr hbl
  refine lv_aload_n hx hb dL_law_140 rfl (lv_at hl 1 rfl) ?_
  refine lv_aload_n hx hb dL_law_141 rfl (lv_at hl 0 rfl) ?_
  refine lv_iload_n hx hb dL_law_142 rfl (lv_at hl 3 rfl) ?_
  refine lv_iconst (v := (1 : Int32)) hx hb dL_law_143 (by decide) ?_
  refine lv_iadd hx hb dL_law_144 ?_
  refine topE (z := nI (j + 1)) (nI_add j 1) ?_
  refine va_sld hx hb hX hbl hbA hJ.2.2.2 (vp_in_nI (by omega) (by omega)) dL_law_145 ?_
  refine topE (z := xs (j + 1)) (by rw [nI_clamp (by omega)]) ?_
  refine jcVi (As := [.int (xs (j + 1))]) (rest := []) hx hb hml hown hts hKK hJ (by first | rfl | (split <;> rfl)) (c_X3_letter l D cI cB cS q_s21 q_b2 (xs (j + 1))) (cwV2 1 hts kw_78 kw_3 kw_75 kw_76 kw_77 rfl rfl (by decide +kernel) ⟨Nat.le_of_ble_eq_true rfl, Nat.le_of_ble_eq_true rfl⟩) 0 rfl rfl rfl rfl hl.1 rfl (Nat.le_of_ble_eq_true rfl) hcl dL_law_146 (fun H locs hJ => ?_)
  refine lv_aload_n hx hb dL_law_149 rfl (lv_at hl 2 rfl) ?_
  refine lv_aload_n hx hb dL_law_150 rfl (lv_at hl 0 rfl) ?_
  refine lv_iload_n hx hb dL_law_151 rfl (lv_at hl 3 rfl) ?_
  refine lv_iconst (v := (1 : Int32)) hx hb dL_law_152 (by decide) ?_
  refine lv_iadd hx hb dL_law_153 ?_
  refine topE (z := nI (j + 1)) (nI_add j 1) ?_
  refine va_sld hx hb hX hbl hbA hJ.2.2.2 (vp_in_nI (by omega) (by omega)) dL_law_154 ?_
  refine topE (z := xs (j + 1)) (by rw [nI_clamp (by omega)]) ?_
  refine jcVi (As := [.int (xs (j + 1))]) (rest := [.int _]) hx hb hml hown hts hKK hJ.sw (by first | rfl | (split <;> rfl)) (c_X4_letter l D cI cB cS q_s21 q_m13 (xs (j + 1))) (cwV2 1 hts kw_86 kw_6 kw_83 kw_84 kw_85 rfl rfl (by decide +kernel) ⟨Nat.le_of_ble_eq_true rfl, Nat.le_of_ble_eq_true rfl⟩) 0 rfl rfl rfl rfl hl.1 rfl (Nat.le_of_ble_eq_true rfl) hcl dL_law_155 (fun H locs hJ => ?_)
  have hJ := hJ.sw
  refine lv_icmp_eq (tgt := 776) hx hb dL_law_158 (by decide) (fun _ => ?_) (fun h => absurd rfl h)
  by_cases h : okL (xs (j + 1)) ∧ sz < 21
  · rw [if_pos h, if_pos h] at hJ
    exact kk _ _ _ _ _ _ _ _ _ _ _ _ _ _ _ _ (LI_letter h.1 h.2 hI) hJ
  · rw [if_neg h, if_neg h] at hJ
    exact kk _ _ _ _ _ _ _ _ _ _ _ _ _ _ _ _ (LI_same hI) hJ
set_option maxHeartbeats 1000000 in
theorem arm_blank {p : Program} {l : Launch} {e : Env} {s : State} {m : MethodId} {args : Array Value} {below : List Frame} {meth : Method} {c : Code} {D : va_G} {cI cB cS : ClassId} {H : Heap} {locs : List Loc} {cells slots : Nat} {Q : State → Prop} {b L : Nat} {xs : Nat → Int32} {N j : Nat} {B A : Nat → Nat} {IB IM : Nat → Int32} {J : Nat → Int64} {FB FM : Nat → Nat → Int32} {n fd sz w lv kl kn kw kf ks vs : Nat} {ls : Array Slot} (hx : p.tables.exec = Jvm.exec) (hb : c.code = cL_law) (hml : c.maxLocals = 4) (hown : s.vm.findClass RL = some m.cls) (hts : ∀ w ∈ wsG, w.before args s = true) (hKK : KK D (TYS cI cB cS) s) (hSF : SF ks vs (fun q => s.heap.size ≤ q) s s.heap) (hX : va_X b L xs s s.heap) (hbl : b < s.heap.size) (hj : j + 5 ≤ L) (hL : L ≤ 2560) (hN1 : N < 1000000) (hcl : cells + 0 ≤ room_1.cells ∧ slots + 0 ≤ room_1.slots) (hI : LI N IB FB IM FM n fd sz w lv kl kn kw kf) (hJ : JW D (fun q => s.heap.size ≤ q) s.heap (wsB B cI cS IB FB) (wsM A cI cB IM J FM) H locs) (hl : lv_has ls 4 [(0, .ref b), (1, .ref (B 0)), (2, .ref (A 0)), (3, .int (nI j))])
    (kk : ∀ (H1 : Heap) (locs1 : List Loc) (IB1 IM1 : Nat → Int32) (J1 : Nat → Int64) (FB1 FM1 : Nat → Nat → Int32) (n1 fd1 sz1 w1 lv1 kl1 kn1 kw1 kf1 : Nat), LI (N + 1) IB1 FB1 IM1 FM1 n1 fd1 sz1 w1 lv1 kl1 kn1 kw1 kf1 → JW D (fun q => s.heap.size ≤ q) s.heap (wsB B cI cS IB1 FB1) (wsM A cI cB IM1 J1 FM1) H1 locs1 → W p l e room_1 s m args below meth c H1 locs1 cells slots Q (F0 m 776 ls [])) : W p l e room_1 s m args below meth c H locs cells slots Q (F0 m 163 ls []) := by
  obtain ⟨q_b3, q_m1, q_n6, q_b4, q_m6, q_ww, q_ev, q_b6, q_m9, q_f6, q_b2, q_m13, q_s21, q_b1, q_m0, q_lN, q_b7, q_m20, q_kn6, q_b8, q_m21, q_kww, q_kev, q_b10, q_m23, q_kf6, q_m19, q_kle, q_kept, q_rows, q_ink, q_fnd, q_kink, q_kfnd, q_pg⟩ := id hI
  have hbA : ¬ s.heap.size ≤ b := Nat.not_le.mpr hbl
  refine lv_aload_n hx hb dL_law_163 rfl (lv_at hl 1 rfl) ?_
  refine jcVi (As := []) (rest := []) hx hb hml hown hts hKK hJ (by first | rfl | (split <;> rfl)) (c_X3_blank l D cI cB cS  ) (cwV2 0 hts kw_94 kw_3 kw_91 kw_92 kw_93 rfl rfl (by decide +kernel) ⟨Nat.le_of_ble_eq_true rfl, Nat.le_of_ble_eq_true rfl⟩) 0 rfl rfl rfl rfl hl.1 rfl (Nat.le_of_ble_eq_true rfl) hcl dL_law_164 (fun H locs hJ => ?_)
  refine lv_aload_n hx hb dL_law_167 rfl (lv_at hl 2 rfl) ?_
  refine jcVi (As := []) (rest := [.int _]) hx hb hml hown hts hKK hJ.sw (by first | rfl | (split <;> rfl)) (c_X4_blank l D cI cB cS  ) (cwV2 0 hts kw_98 kw_6 kw_95 kw_96 kw_97 rfl rfl (by decide +kernel) ⟨Nat.le_of_ble_eq_true rfl, Nat.le_of_ble_eq_true rfl⟩) 0 rfl rfl rfl rfl hl.1 rfl (Nat.le_of_ble_eq_true rfl) hcl dL_law_168 (fun H locs hJ => ?_)
  have hJ := hJ.sw
  refine lv_icmp_eq (tgt := 776) hx hb dL_law_171 (by decide) (fun _ => ?_) (fun h => absurd (q_b2.trans q_m13.symm) h)
  exact kk _ _ _ _ _ _ _ _ _ _ _ _ _ _ _ _ (LI_blank hI) hJ
set_option maxHeartbeats 1000000 in
theorem arm_fault {p : Program} {l : Launch} {e : Env} {s : State} {m : MethodId} {args : Array Value} {below : List Frame} {meth : Method} {c : Code} {D : va_G} {cI cB cS : ClassId} {H : Heap} {locs : List Loc} {cells slots : Nat} {Q : State → Prop} {b L : Nat} {xs : Nat → Int32} {N j : Nat} {B A : Nat → Nat} {IB IM : Nat → Int32} {J : Nat → Int64} {FB FM : Nat → Nat → Int32} {n fd sz w lv kl kn kw kf ks vs : Nat} {ls : Array Slot} (hx : p.tables.exec = Jvm.exec) (hb : c.code = cL_law) (hml : c.maxLocals = 4) (hown : s.vm.findClass RL = some m.cls) (hts : ∀ w ∈ wsG, w.before args s = true) (hKK : KK D (TYS cI cB cS) s) (hSF : SF ks vs (fun q => s.heap.size ≤ q) s s.heap) (hX : va_X b L xs s s.heap) (hbl : b < s.heap.size) (hj : j + 5 ≤ L) (hL : L ≤ 2560) (hN1 : N < 1000000) (hcl : cells + 0 ≤ room_1.cells ∧ slots + 0 ≤ room_1.slots) (hI : LI N IB FB IM FM n fd sz w lv kl kn kw kf) (hJ : JW D (fun q => s.heap.size ≤ q) s.heap (wsB B cI cS IB FB) (wsM A cI cB IM J FM) H locs) (hl : lv_has ls 4 [(0, .ref b), (1, .ref (B 0)), (2, .ref (A 0)), (3, .int (nI j))])
    (kk : ∀ (H1 : Heap) (locs1 : List Loc) (IB1 IM1 : Nat → Int32) (J1 : Nat → Int64) (FB1 FM1 : Nat → Nat → Int32) (n1 fd1 sz1 w1 lv1 kl1 kn1 kw1 kf1 : Nat), LI (N + 1) IB1 FB1 IM1 FM1 n1 fd1 sz1 w1 lv1 kl1 kn1 kw1 kf1 → JW D (fun q => s.heap.size ≤ q) s.heap (wsB B cI cS IB1 FB1) (wsM A cI cB IM1 J1 FM1) H1 locs1 → W p l e room_1 s m args below meth c H1 locs1 cells slots Q (F0 m 776 ls [])) : W p l e room_1 s m args below meth c H locs cells slots Q (F0 m 176 ls []) := by
  obtain ⟨q_b3, q_m1, q_n6, q_b4, q_m6, q_ww, q_ev, q_b6, q_m9, q_f6, q_b2, q_m13, q_s21, q_b1, q_m0, q_lN, q_b7, q_m20, q_kn6, q_b8, q_m21, q_kww, q_kev, q_b10, q_m23, q_kf6, q_m19, q_kle, q_kept, q_rows, q_ink, q_fnd, q_kink, q_kfnd, q_pg⟩ := id hI
  have hbA : ¬ s.heap.size ≤ b := Nat.not_le.mpr hbl
  refine lv_aload_n hx hb dL_law_176 rfl (lv_at hl 1 rfl) ?_
  refine rsVi (As := []) (rest := []) hx hb hml hown hts hKK hJ.1 (hSF.at hJ.2.2.2) (c_X3_fault l D cI cB cS (ks := ks) (vs := vs) q_s21 q_b2 ) (cwV2 0 hts kw_102 kw_3 kw_99 kw_100 kw_101 rfl rfl (by decide +kernel) ⟨Nat.le_of_ble_eq_true rfl, Nat.le_of_ble_eq_true rfl⟩) 0 rfl rfl rfl rfl hl.1 rfl (Nat.le_of_ble_eq_true rfl) hcl dL_law_177 ?_
  refine lv_aload_n hx hb dL_law_180 rfl (lv_at hl 2 rfl) ?_
  refine rcVi (As := []) (rest := [.int _]) hx hb hml hown hts hKK hJ.sw.1 (c_X4_fault l D cI cB cS q_s21 q_m13 ) (cwV2 0 hts kw_215 kw_6 kw_212 kw_213 kw_214 rfl rfl (by decide +kernel) ⟨Nat.le_of_ble_eq_true rfl, Nat.le_of_ble_eq_true rfl⟩) 0 rfl rfl rfl rfl hl.1 rfl (Nat.le_of_ble_eq_true rfl) hcl dL_law_181 ?_
  refine lv_icmp_eq (tgt := 776) hx hb dL_law_184 (by decide) (fun _ => ?_) (fun h => absurd (by rw [flt_eq q_s21 q_pg]) h)
  exact kk _ _ _ _ _ _ _ _ _ _ _ _ _ _ _ _ (LI_same hI) hJ
set_option maxHeartbeats 1000000 in
theorem arm_leaf {p : Program} {l : Launch} {e : Env} {s : State} {m : MethodId} {args : Array Value} {below : List Frame} {meth : Method} {c : Code} {D : va_G} {cI cB cS : ClassId} {H : Heap} {locs : List Loc} {cells slots : Nat} {Q : State → Prop} {b L : Nat} {xs : Nat → Int32} {N j : Nat} {B A : Nat → Nat} {IB IM : Nat → Int32} {J : Nat → Int64} {FB FM : Nat → Nat → Int32} {n fd sz w lv kl kn kw kf ks vs : Nat} {ls : Array Slot} (hx : p.tables.exec = Jvm.exec) (hb : c.code = cL_law) (hml : c.maxLocals = 4) (hown : s.vm.findClass RL = some m.cls) (hts : ∀ w ∈ wsG, w.before args s = true) (hKK : KK D (TYS cI cB cS) s) (hSF : SF ks vs (fun q => s.heap.size ≤ q) s s.heap) (hX : va_X b L xs s s.heap) (hbl : b < s.heap.size) (hj : j + 5 ≤ L) (hL : L ≤ 2560) (hN1 : N < 1000000) (hcl : cells + 0 ≤ room_1.cells ∧ slots + 0 ≤ room_1.slots) (hI : LI N IB FB IM FM n fd sz w lv kl kn kw kf) (hJ : JW D (fun q => s.heap.size ≤ q) s.heap (wsB B cI cS IB FB) (wsM A cI cB IM J FM) H locs) (hl : lv_has ls 4 [(0, .ref b), (1, .ref (B 0)), (2, .ref (A 0)), (3, .int (nI j))])
    (kk : ∀ (H1 : Heap) (locs1 : List Loc) (IB1 IM1 : Nat → Int32) (J1 : Nat → Int64) (FB1 FM1 : Nat → Nat → Int32) (n1 fd1 sz1 w1 lv1 kl1 kn1 kw1 kf1 : Nat), LI (N + 1) IB1 FB1 IM1 FM1 n1 fd1 sz1 w1 lv1 kl1 kn1 kw1 kf1 → JW D (fun q => s.heap.size ≤ q) s.heap (wsB B cI cS IB1 FB1) (wsM A cI cB IM1 J1 FM1) H1 locs1 → W p l e room_1 s m args below meth c H1 locs1 cells slots Q (F0 m 776 ls [])) : W p l e room_1 s m args below meth c H locs cells slots Q (F0 m 189 ls []) := by
  obtain ⟨q_b3, q_m1, q_n6, q_b4, q_m6, q_ww, q_ev, q_b6, q_m9, q_f6, q_b2, q_m13, q_s21, q_b1, q_m0, q_lN, q_b7, q_m20, q_kn6, q_b8, q_m21, q_kww, q_kev, q_b10, q_m23, q_kf6, q_m19, q_kle, q_kept, q_rows, q_ink, q_fnd, q_kink, q_kfnd, q_pg⟩ := id hI
  have hbA : ¬ s.heap.size ≤ b := Nat.not_le.mpr hbl
  refine lv_aload_n hx hb dL_law_189 rfl (lv_at hl 1 rfl) ?_
  refine jcVis (As := []) (rest := []) hx hb hml hown hts hKK (fun U hU hW => by rw [hU]; exact (((hSF.kept hJ.2.2.2.2.1).narrow (FPw_in (va_D_l hJ.2.2.1))).warm hW)) hJ (by first | rfl | (split <;> rfl)) (c_X3_leaf l D cI cB cS (ks := ks) (vs := vs) q_s21 q_b2 ) (cwV2 0 hts kw_230 kw_3 kw_227 kw_228 kw_229 rfl rfl (by decide +kernel) ⟨Nat.le_of_ble_eq_true rfl, Nat.le_of_ble_eq_true rfl⟩) 0 rfl rfl rfl rfl hl.1 rfl (Nat.le_of_ble_eq_true rfl) hcl dL_law_190 PWS_blind (fun H locs hJ => ?_)
  refine lv_aload_n hx hb dL_law_193 rfl (lv_at hl 2 rfl) ?_
  refine jcVi (As := []) (rest := [.int _]) hx hb hml hown hts hKK hJ.sw (by first | rfl | (split <;> rfl)) (c_X4_leaf l D cI cB cS q_s21 q_m13 ) (cwV2 0 hts kw_250 kw_6 kw_247 kw_248 kw_249 rfl rfl (by decide +kernel) ⟨Nat.le_of_ble_eq_true rfl, Nat.le_of_ble_eq_true rfl⟩) 0 rfl rfl rfl rfl hl.1 rfl (Nat.le_of_ble_eq_true rfl) hcl dL_law_194 (fun H locs hJ => ?_)
  have hJ := hJ.sw
  refine lv_icmp_eq (tgt := 776) hx hb dL_law_197 (by decide) (fun _ => ?_) (fun h => absurd (if h : mIsL (FM 14) sz then (by rw [if_pos ((isL_iff q_s21 q_pg).mpr h), if_pos h]) else (by rw [if_neg (fun z => h ((isL_iff q_s21 q_pg).mp z)), if_neg h])) h)
  by_cases h : cIsL (FB 7) sz
  · rw [if_pos h, if_pos ((isL_iff q_s21 q_pg).mp h)] at hJ
    exact kk _ _ _ _ _ _ _ _ _ _ _ _ _ _ _ _ (LI_leaf ((isL_iff q_s21 q_pg).mp h) hI) hJ
  · rw [if_neg h, if_neg (fun z => h ((isL_iff q_s21 q_pg).mpr z))] at hJ
    exact kk _ _ _ _ _ _ _ _ _ _ _ _ _ _ _ _ (LI_same hI) hJ
set_option maxHeartbeats 1000000 in
theorem arm_about {p : Program} {l : Launch} {e : Env} {s : State} {m : MethodId} {args : Array Value} {below : List Frame} {meth : Method} {c : Code} {D : va_G} {cI cB cS : ClassId} {H : Heap} {locs : List Loc} {cells slots : Nat} {Q : State → Prop} {b L : Nat} {xs : Nat → Int32} {N j : Nat} {B A : Nat → Nat} {IB IM : Nat → Int32} {J : Nat → Int64} {FB FM : Nat → Nat → Int32} {n fd sz w lv kl kn kw kf ks vs : Nat} {ls : Array Slot} (hx : p.tables.exec = Jvm.exec) (hb : c.code = cL_law) (hml : c.maxLocals = 4) (hown : s.vm.findClass RL = some m.cls) (hts : ∀ w ∈ wsG, w.before args s = true) (hKK : KK D (TYS cI cB cS) s) (hSF : SF ks vs (fun q => s.heap.size ≤ q) s s.heap) (hX : va_X b L xs s s.heap) (hbl : b < s.heap.size) (hj : j + 5 ≤ L) (hL : L ≤ 2560) (hN1 : N < 1000000) (hcl : cells + 0 ≤ room_1.cells ∧ slots + 0 ≤ room_1.slots) (hI : LI N IB FB IM FM n fd sz w lv kl kn kw kf) (hJ : JW D (fun q => s.heap.size ≤ q) s.heap (wsB B cI cS IB FB) (wsM A cI cB IM J FM) H locs) (hl : lv_has ls 4 [(0, .ref b), (1, .ref (B 0)), (2, .ref (A 0)), (3, .int (nI j))])
    (kk : ∀ (H1 : Heap) (locs1 : List Loc) (IB1 IM1 : Nat → Int32) (J1 : Nat → Int64) (FB1 FM1 : Nat → Nat → Int32) (n1 fd1 sz1 w1 lv1 kl1 kn1 kw1 kf1 : Nat), LI (N + 1) IB1 FB1 IM1 FM1 n1 fd1 sz1 w1 lv1 kl1 kn1 kw1 kf1 → JW D (fun q => s.heap.size ≤ q) s.heap (wsB B cI cS IB1 FB1) (wsM A cI cB IM1 J1 FM1) H1 locs1 → W p l e room_1 s m args below meth c H1 locs1 cells slots Q (F0 m 776 ls [])) : W p l e room_1 s m args below meth c H locs cells slots Q (F0 m 202 ls []) := by
  obtain ⟨q_b3, q_m1, q_n6, q_b4, q_m6, q_ww, q_ev, q_b6, q_m9, q_f6, q_b2, q_m13, q_s21, q_b1, q_m0, q_lN, q_b7, q_m20, q_kn6, q_b8, q_m21, q_kww, q_kev, q_b10, q_m23, q_kf6, q_m19, q_kle, q_kept, q_rows, q_ink, q_fnd, q_kink, q_kfnd, q_pg⟩ := id hI
  have hbA : ¬ s.heap.size ≤ b := Nat.not_le.mpr hbl
  refine lv_aload_n hx hb dL_law_202 rfl (lv_at hl 1 rfl) ?_
  refine lv_aload_n hx hb dL_law_203 rfl (lv_at hl 0 rfl) ?_
  refine lv_iload_n hx hb dL_law_204 rfl (lv_at hl 3 rfl) ?_
  refine lv_iconst (v := (1 : Int32)) hx hb dL_law_205 (by decide) ?_
  refine lv_iadd hx hb dL_law_206 ?_
  refine topE (z := nI (j + 1)) (nI_add j 1) ?_
  refine va_sld hx hb hX hbl hbA hJ.2.2.2 (vp_in_nI (by omega) (by omega)) dL_law_207 ?_
  refine topE (z := xs (j + 1)) (by rw [nI_clamp (by omega)]) ?_
  refine lv_aload_n hx hb dL_law_208 rfl (lv_at hl 0 rfl) ?_
  refine lv_iload_n hx hb dL_law_209 rfl (lv_at hl 3 rfl) ?_
  refine lv_iconst (v := (2 : Int32)) hx hb dL_law_210 (by decide) ?_
  refine lv_iadd hx hb dL_law_211 ?_
  refine topE (z := nI (j + 2)) (nI_add j 2) ?_
  refine va_sld hx hb hX hbl hbA hJ.2.2.2 (vp_in_nI (by omega) (by omega)) dL_law_212 ?_
  refine topE (z := xs (j + 2)) (by rw [nI_clamp (by omega)]) ?_
  refine rcVi (As := [.int (xs (j + 1)), .int (xs (j + 2))]) (rest := []) hx hb hml hown hts hKK hJ.1 (c_X3_about l D cI cB cS q_n6 q_b3 q_f6 q_b6 (xs (j + 1)) (xs (j + 2))) (cwV2 2 hts kw_262 kw_3 kw_259 kw_260 kw_261 rfl rfl (by decide +kernel) ⟨Nat.le_of_ble_eq_true rfl, Nat.le_of_ble_eq_true rfl⟩) 0 rfl rfl rfl rfl hl.1 rfl (Nat.le_of_ble_eq_true rfl) hcl dL_law_213 ?_
  refine lv_aload_n hx hb dL_law_216 rfl (lv_at hl 2 rfl) ?_
  refine lv_aload_n hx hb dL_law_217 rfl (lv_at hl 0 rfl) ?_
  refine lv_iload_n hx hb dL_law_218 rfl (lv_at hl 3 rfl) ?_
  refine lv_iconst (v := (1 : Int32)) hx hb dL_law_219 (by decide) ?_
  refine lv_iadd hx hb dL_law_220 ?_
  refine topE (z := nI (j + 1)) (nI_add j 1) ?_
  refine va_sld hx hb hX hbl hbA hJ.2.2.2 (vp_in_nI (by omega) (by omega)) dL_law_221 ?_
  refine topE (z := xs (j + 1)) (by rw [nI_clamp (by omega)]) ?_
  refine lv_aload_n hx hb dL_law_222 rfl (lv_at hl 0 rfl) ?_
  refine lv_iload_n hx hb dL_law_223 rfl (lv_at hl 3 rfl) ?_
  refine lv_iconst (v := (2 : Int32)) hx hb dL_law_224 (by decide) ?_
  refine lv_iadd hx hb dL_law_225 ?_
  refine topE (z := nI (j + 2)) (nI_add j 2) ?_
  refine va_sld hx hb hX hbl hbA hJ.2.2.2 (vp_in_nI (by omega) (by omega)) dL_law_226 ?_
  refine topE (z := xs (j + 2)) (by rw [nI_clamp (by omega)]) ?_
  refine jcVi (As := [.int (xs (j + 1)), .int (xs (j + 2))]) (rest := [.int _]) hx hb hml hown hts hKK hJ.sw (by first | rfl | (split <;> rfl)) (c_X4_about l D cI cB cS q_n6 q_m1 q_f6 q_m9 (xs (j + 1)) (xs (j + 2))) (cwV2 2 hts kw_299 kw_6 kw_296 kw_297 kw_298 rfl rfl (by decide +kernel) ⟨Nat.le_of_ble_eq_true rfl, Nat.le_of_ble_eq_true rfl⟩) 0 rfl rfl rfl rfl hl.1 rfl (Nat.le_of_ble_eq_true rfl) hcl dL_law_227 (fun H locs hJ => ?_)
  have hJ := hJ.sw
  refine lv_icmp_eq (tgt := 776) hx hb dL_law_230 (by decide) (fun _ => ?_) (fun h => absurd (by rw [q_b4, q_m6]; exact about_eq q_n6 q_f6 q_rows q_fnd) h)
  exact kk _ _ _ _ _ _ _ _ _ _ _ _ _ _ _ _ (LI_same hI) hJ
set_option maxHeartbeats 1000000 in
theorem arm_as {p : Program} {l : Launch} {e : Env} {s : State} {m : MethodId} {args : Array Value} {below : List Frame} {meth : Method} {c : Code} {D : va_G} {cI cB cS : ClassId} {H : Heap} {locs : List Loc} {cells slots : Nat} {Q : State → Prop} {b L : Nat} {xs : Nat → Int32} {N j : Nat} {B A : Nat → Nat} {IB IM : Nat → Int32} {J : Nat → Int64} {FB FM : Nat → Nat → Int32} {n fd sz w lv kl kn kw kf ks vs : Nat} {ls : Array Slot} (hx : p.tables.exec = Jvm.exec) (hb : c.code = cL_law) (hml : c.maxLocals = 4) (hown : s.vm.findClass RL = some m.cls) (hts : ∀ w ∈ wsG, w.before args s = true) (hKK : KK D (TYS cI cB cS) s) (hSF : SF ks vs (fun q => s.heap.size ≤ q) s s.heap) (hX : va_X b L xs s s.heap) (hbl : b < s.heap.size) (hj : j + 5 ≤ L) (hL : L ≤ 2560) (hN1 : N < 1000000) (hcl : cells + 0 ≤ room_1.cells ∧ slots + 0 ≤ room_1.slots) (hI : LI N IB FB IM FM n fd sz w lv kl kn kw kf) (hJ : JW D (fun q => s.heap.size ≤ q) s.heap (wsB B cI cS IB FB) (wsM A cI cB IM J FM) H locs) (hl : lv_has ls 4 [(0, .ref b), (1, .ref (B 0)), (2, .ref (A 0)), (3, .int (nI j))])
    (kk : ∀ (H1 : Heap) (locs1 : List Loc) (IB1 IM1 : Nat → Int32) (J1 : Nat → Int64) (FB1 FM1 : Nat → Nat → Int32) (n1 fd1 sz1 w1 lv1 kl1 kn1 kw1 kf1 : Nat), LI (N + 1) IB1 FB1 IM1 FM1 n1 fd1 sz1 w1 lv1 kl1 kn1 kw1 kf1 → JW D (fun q => s.heap.size ≤ q) s.heap (wsB B cI cS IB1 FB1) (wsM A cI cB IM1 J1 FM1) H1 locs1 → W p l e room_1 s m args below meth c H1 locs1 cells slots Q (F0 m 776 ls [])) : W p l e room_1 s m args below meth c H locs cells slots Q (F0 m 235 ls []) := by
  obtain ⟨q_b3, q_m1, q_n6, q_b4, q_m6, q_ww, q_ev, q_b6, q_m9, q_f6, q_b2, q_m13, q_s21, q_b1, q_m0, q_lN, q_b7, q_m20, q_kn6, q_b8, q_m21, q_kww, q_kev, q_b10, q_m23, q_kf6, q_m19, q_kle, q_kept, q_rows, q_ink, q_fnd, q_kink, q_kfnd, q_pg⟩ := id hI
  have hbA : ¬ s.heap.size ≤ b := Nat.not_le.mpr hbl
  refine lv_aload_n hx hb dL_law_235 rfl (lv_at hl 1 rfl) ?_
  refine lv_aload_n hx hb dL_law_236 rfl (lv_at hl 0 rfl) ?_
  refine lv_iload_n hx hb dL_law_237 rfl (lv_at hl 3 rfl) ?_
  refine lv_iconst (v := (1 : Int32)) hx hb dL_law_238 (by decide) ?_
  refine lv_iadd hx hb dL_law_239 ?_
  refine topE (z := nI (j + 1)) (nI_add j 1) ?_
  refine va_sld hx hb hX hbl hbA hJ.2.2.2 (vp_in_nI (by omega) (by omega)) dL_law_240 ?_
  refine topE (z := xs (j + 1)) (by rw [nI_clamp (by omega)]) ?_
  refine lv_aload_n hx hb dL_law_241 rfl (lv_at hl 0 rfl) ?_
  refine lv_iload_n hx hb dL_law_242 rfl (lv_at hl 3 rfl) ?_
  refine lv_iconst (v := (2 : Int32)) hx hb dL_law_243 (by decide) ?_
  refine lv_iadd hx hb dL_law_244 ?_
  refine topE (z := nI (j + 2)) (nI_add j 2) ?_
  refine va_sld hx hb hX hbl hbA hJ.2.2.2 (vp_in_nI (by omega) (by omega)) dL_law_245 ?_
  refine topE (z := xs (j + 2)) (by rw [nI_clamp (by omega)]) ?_
  refine rcVi (As := [.int (xs (j + 1)), .int (xs (j + 2))]) (rest := []) hx hb hml hown hts hKK hJ.1 (c_X3_as l D cI cB cS q_n6 q_b3 (xs (j + 1)) (xs (j + 2))) (cwV2 2 hts kw_334 kw_3 kw_331 kw_332 kw_333 rfl rfl (by decide +kernel) ⟨Nat.le_of_ble_eq_true rfl, Nat.le_of_ble_eq_true rfl⟩) 0 rfl rfl rfl rfl hl.1 rfl (Nat.le_of_ble_eq_true rfl) hcl dL_law_246 ?_
  refine lv_aload_n hx hb dL_law_249 rfl (lv_at hl 2 rfl) ?_
  refine lv_aload_n hx hb dL_law_250 rfl (lv_at hl 0 rfl) ?_
  refine lv_iload_n hx hb dL_law_251 rfl (lv_at hl 3 rfl) ?_
  refine lv_iconst (v := (1 : Int32)) hx hb dL_law_252 (by decide) ?_
  refine lv_iadd hx hb dL_law_253 ?_
  refine topE (z := nI (j + 1)) (nI_add j 1) ?_
  refine va_sld hx hb hX hbl hbA hJ.2.2.2 (vp_in_nI (by omega) (by omega)) dL_law_254 ?_
  refine topE (z := xs (j + 1)) (by rw [nI_clamp (by omega)]) ?_
  refine lv_aload_n hx hb dL_law_255 rfl (lv_at hl 0 rfl) ?_
  refine lv_iload_n hx hb dL_law_256 rfl (lv_at hl 3 rfl) ?_
  refine lv_iconst (v := (2 : Int32)) hx hb dL_law_257 (by decide) ?_
  refine lv_iadd hx hb dL_law_258 ?_
  refine topE (z := nI (j + 2)) (nI_add j 2) ?_
  refine va_sld hx hb hX hbl hbA hJ.2.2.2 (vp_in_nI (by omega) (by omega)) dL_law_259 ?_
  refine topE (z := xs (j + 2)) (by rw [nI_clamp (by omega)]) ?_
  refine rcVi (As := [.int (xs (j + 1)), .int (xs (j + 2))]) (rest := [.int _]) hx hb hml hown hts hKK hJ.sw.1 (c_X4_as l D cI cB cS q_n6 q_m1 (xs (j + 1)) (xs (j + 2))) (cwV2 2 hts kw_342 kw_6 kw_339 kw_340 kw_341 rfl rfl (by decide +kernel) ⟨Nat.le_of_ble_eq_true rfl, Nat.le_of_ble_eq_true rfl⟩) 0 rfl rfl rfl rfl hl.1 rfl (Nat.le_of_ble_eq_true rfl) hcl dL_law_260 ?_
  refine lv_icmp_eq (tgt := 776) hx hb dL_law_263 (by decide) (fun _ => ?_) (fun h => absurd (as_eq q_n6 q_rows) h)
  exact kk _ _ _ _ _ _ _ _ _ _ _ _ _ _ _ _ (LI_same hI) hJ
set_option maxHeartbeats 1000000 in
theorem arm_write {p : Program} {l : Launch} {e : Env} {s : State} {m : MethodId} {args : Array Value} {below : List Frame} {meth : Method} {c : Code} {D : va_G} {cI cB cS : ClassId} {H : Heap} {locs : List Loc} {cells slots : Nat} {Q : State → Prop} {b L : Nat} {xs : Nat → Int32} {N j : Nat} {B A : Nat → Nat} {IB IM : Nat → Int32} {J : Nat → Int64} {FB FM : Nat → Nat → Int32} {n fd sz w lv kl kn kw kf ks vs : Nat} {ls : Array Slot} (hx : p.tables.exec = Jvm.exec) (hb : c.code = cL_law) (hml : c.maxLocals = 4) (hown : s.vm.findClass RL = some m.cls) (hts : ∀ w ∈ wsG, w.before args s = true) (hKK : KK D (TYS cI cB cS) s) (hSF : SF ks vs (fun q => s.heap.size ≤ q) s s.heap) (hX : va_X b L xs s s.heap) (hbl : b < s.heap.size) (hj : j + 5 ≤ L) (hL : L ≤ 2560) (hN1 : N < 1000000) (hcl : cells + 0 ≤ room_1.cells ∧ slots + 0 ≤ room_1.slots) (hI : LI N IB FB IM FM n fd sz w lv kl kn kw kf) (hJ : JW D (fun q => s.heap.size ≤ q) s.heap (wsB B cI cS IB FB) (wsM A cI cB IM J FM) H locs) (hl : lv_has ls 4 [(0, .ref b), (1, .ref (B 0)), (2, .ref (A 0)), (3, .int (nI j))])
    (kk : ∀ (H1 : Heap) (locs1 : List Loc) (IB1 IM1 : Nat → Int32) (J1 : Nat → Int64) (FB1 FM1 : Nat → Nat → Int32) (n1 fd1 sz1 w1 lv1 kl1 kn1 kw1 kf1 : Nat), LI (N + 1) IB1 FB1 IM1 FM1 n1 fd1 sz1 w1 lv1 kl1 kn1 kw1 kf1 → JW D (fun q => s.heap.size ≤ q) s.heap (wsB B cI cS IB1 FB1) (wsM A cI cB IM1 J1 FM1) H1 locs1 → W p l e room_1 s m args below meth c H1 locs1 cells slots Q (F0 m 776 ls [])) : W p l e room_1 s m args below meth c H locs cells slots Q (F0 m 268 ls []) := by
  obtain ⟨q_b3, q_m1, q_n6, q_b4, q_m6, q_ww, q_ev, q_b6, q_m9, q_f6, q_b2, q_m13, q_s21, q_b1, q_m0, q_lN, q_b7, q_m20, q_kn6, q_b8, q_m21, q_kww, q_kev, q_b10, q_m23, q_kf6, q_m19, q_kle, q_kept, q_rows, q_ink, q_fnd, q_kink, q_kfnd, q_pg⟩ := id hI
  have hbA : ¬ s.heap.size ≤ b := Nat.not_le.mpr hbl
  refine lv_aload_n hx hb dL_law_268 rfl (lv_at hl 1 rfl) ?_
  refine lv_aload_n hx hb dL_law_269 rfl (lv_at hl 0 rfl) ?_
  refine lv_iload_n hx hb dL_law_270 rfl (lv_at hl 3 rfl) ?_
  refine lv_iconst (v := (1 : Int32)) hx hb dL_law_271 (by decide) ?_
  refine lv_iadd hx hb dL_law_272 ?_
  refine topE (z := nI (j + 1)) (nI_add j 1) ?_
  refine va_sld hx hb hX hbl hbA hJ.2.2.2 (vp_in_nI (by omega) (by omega)) dL_law_273 ?_
  refine topE (z := xs (j + 1)) (by rw [nI_clamp (by omega)]) ?_
  refine lv_aload_n hx hb dL_law_274 rfl (lv_at hl 0 rfl) ?_
  refine lv_iload_n hx hb dL_law_275 rfl (lv_at hl 3 rfl) ?_
  refine lv_iconst (v := (2 : Int32)) hx hb dL_law_276 (by decide) ?_
  refine lv_iadd hx hb dL_law_277 ?_
  refine topE (z := nI (j + 2)) (nI_add j 2) ?_
  refine va_sld hx hb hX hbl hbA hJ.2.2.2 (vp_in_nI (by omega) (by omega)) dL_law_278 ?_
  refine topE (z := xs (j + 2)) (by rw [nI_clamp (by omega)]) ?_
  refine lv_aload_n hx hb dL_law_279 rfl (lv_at hl 0 rfl) ?_
  refine lv_iload_n hx hb dL_law_280 rfl (lv_at hl 3 rfl) ?_
  refine lv_iconst (v := (3 : Int32)) hx hb dL_law_281 (by decide) ?_
  refine lv_iadd hx hb dL_law_282 ?_
  refine topE (z := nI (j + 3)) (nI_add j 3) ?_
  refine va_sld hx hb hX hbl hbA hJ.2.2.2 (vp_in_nI (by omega) (by omega)) dL_law_283 ?_
  refine topE (z := xs (j + 3)) (by rw [nI_clamp (by omega)]) ?_
  refine lv_aload_n hx hb dL_law_284 rfl (lv_at hl 0 rfl) ?_
  refine lv_iload_n hx hb dL_law_285 rfl (lv_at hl 3 rfl) ?_
  refine lv_iconst (v := (4 : Int32)) hx hb dL_law_286 (by decide) ?_
  refine lv_iadd hx hb dL_law_287 ?_
  refine topE (z := nI (j + 4)) (nI_add j 4) ?_
  refine va_sld hx hb hX hbl hbA hJ.2.2.2 (vp_in_nI (by omega) (by omega)) dL_law_288 ?_
  refine topE (z := xs (j + 4)) (by rw [nI_clamp (by omega)]) ?_
  refine jcVi (As := [.int (xs (j + 1)), .int (xs (j + 2)), .int (xs (j + 3)), .int (xs (j + 4))]) (rest := []) hx hb hml hown hts hKK hJ (by first | rfl | (split <;> rfl)) (c_X3_write l D cI cB cS q_n6 q_b3 (xs (j + 1)) (xs (j + 2)) (xs (j + 3)) (xs (j + 4))) (cwV2 4 hts kw_346 kw_3 kw_343 kw_344 kw_345 rfl rfl (by decide +kernel) ⟨Nat.le_of_ble_eq_true rfl, Nat.le_of_ble_eq_true rfl⟩) 0 rfl rfl rfl rfl hl.1 rfl (Nat.le_of_ble_eq_true rfl) hcl dL_law_289 (fun H locs hJ => ?_)
  refine lv_aload_n hx hb dL_law_292 rfl (lv_at hl 2 rfl) ?_
  refine lv_aload_n hx hb dL_law_293 rfl (lv_at hl 0 rfl) ?_
  refine lv_iload_n hx hb dL_law_294 rfl (lv_at hl 3 rfl) ?_
  refine lv_iconst (v := (1 : Int32)) hx hb dL_law_295 (by decide) ?_
  refine lv_iadd hx hb dL_law_296 ?_
  refine topE (z := nI (j + 1)) (nI_add j 1) ?_
  refine va_sld hx hb hX hbl hbA hJ.2.2.2 (vp_in_nI (by omega) (by omega)) dL_law_297 ?_
  refine topE (z := xs (j + 1)) (by rw [nI_clamp (by omega)]) ?_
  refine lv_aload_n hx hb dL_law_298 rfl (lv_at hl 0 rfl) ?_
  refine lv_iload_n hx hb dL_law_299 rfl (lv_at hl 3 rfl) ?_
  refine lv_iconst (v := (2 : Int32)) hx hb dL_law_300 (by decide) ?_
  refine lv_iadd hx hb dL_law_301 ?_
  refine topE (z := nI (j + 2)) (nI_add j 2) ?_
  refine va_sld hx hb hX hbl hbA hJ.2.2.2 (vp_in_nI (by omega) (by omega)) dL_law_302 ?_
  refine topE (z := xs (j + 2)) (by rw [nI_clamp (by omega)]) ?_
  refine lv_aload_n hx hb dL_law_303 rfl (lv_at hl 0 rfl) ?_
  refine lv_iload_n hx hb dL_law_304 rfl (lv_at hl 3 rfl) ?_
  refine lv_iconst (v := (3 : Int32)) hx hb dL_law_305 (by decide) ?_
  refine lv_iadd hx hb dL_law_306 ?_
  refine topE (z := nI (j + 3)) (nI_add j 3) ?_
  refine va_sld hx hb hX hbl hbA hJ.2.2.2 (vp_in_nI (by omega) (by omega)) dL_law_307 ?_
  refine topE (z := xs (j + 3)) (by rw [nI_clamp (by omega)]) ?_
  refine lv_aload_n hx hb dL_law_308 rfl (lv_at hl 0 rfl) ?_
  refine lv_iload_n hx hb dL_law_309 rfl (lv_at hl 3 rfl) ?_
  refine lv_iconst (v := (4 : Int32)) hx hb dL_law_310 (by decide) ?_
  refine lv_iadd hx hb dL_law_311 ?_
  refine topE (z := nI (j + 4)) (nI_add j 4) ?_
  refine va_sld hx hb hX hbl hbA hJ.2.2.2 (vp_in_nI (by omega) (by omega)) dL_law_312 ?_
  refine topE (z := xs (j + 4)) (by rw [nI_clamp (by omega)]) ?_
  refine jcVi (As := [.int (xs (j + 1)), .int (xs (j + 2)), .int (xs (j + 3)), .int (xs (j + 4))]) (rest := [.int _]) hx hb hml hown hts hKK hJ.sw (by first | rfl | (split <;> rfl)) (c_X4_write l D cI cB cS q_n6 q_m1 (xs (j + 1)) (xs (j + 2)) (xs (j + 3)) (xs (j + 4))) (cwV2 4 hts kw_357 kw_6 kw_354 kw_355 kw_356 rfl rfl (by decide +kernel) ⟨Nat.le_of_ble_eq_true rfl, Nat.le_of_ble_eq_true rfl⟩) 0 rfl rfl rfl rfl hl.1 rfl (Nat.le_of_ble_eq_true rfl) hcl dL_law_313 (fun H locs hJ => ?_)
  have hJ := hJ.sw
  refine lv_icmp_eq (tgt := 776) hx hb dL_law_316 (by decide) (fun _ => ?_) (fun h => absurd rfl h)
  by_cases h : okW (xs (j + 1)) (xs (j + 2)) (xs (j + 3)) (xs (j + 4)) ∧ 0 < n ∧ n < 6
  · rw [if_pos h, if_pos h] at hJ
    exact kk _ _ _ _ _ _ _ _ _ _ _ _ _ _ _ _ (LI_write h.1 h.2.2 hI) hJ
  · rw [if_neg h, if_neg h] at hJ
    exact kk _ _ _ _ _ _ _ _ _ _ _ _ _ _ _ _ (LI_same hI) hJ
set_option maxHeartbeats 1000000 in
theorem arm_sand {p : Program} {l : Launch} {e : Env} {s : State} {m : MethodId} {args : Array Value} {below : List Frame} {meth : Method} {c : Code} {D : va_G} {cI cB cS : ClassId} {H : Heap} {locs : List Loc} {cells slots : Nat} {Q : State → Prop} {b L : Nat} {xs : Nat → Int32} {N j : Nat} {B A : Nat → Nat} {IB IM : Nat → Int32} {J : Nat → Int64} {FB FM : Nat → Nat → Int32} {n fd sz w lv kl kn kw kf ks vs : Nat} {ls : Array Slot} (hx : p.tables.exec = Jvm.exec) (hb : c.code = cL_law) (hml : c.maxLocals = 4) (hown : s.vm.findClass RL = some m.cls) (hts : ∀ w ∈ wsG, w.before args s = true) (hKK : KK D (TYS cI cB cS) s) (hSF : SF ks vs (fun q => s.heap.size ≤ q) s s.heap) (hX : va_X b L xs s s.heap) (hbl : b < s.heap.size) (hj : j + 5 ≤ L) (hL : L ≤ 2560) (hN1 : N < 1000000) (hcl : cells + 0 ≤ room_1.cells ∧ slots + 0 ≤ room_1.slots) (hI : LI N IB FB IM FM n fd sz w lv kl kn kw kf) (hJ : JW D (fun q => s.heap.size ≤ q) s.heap (wsB B cI cS IB FB) (wsM A cI cB IM J FM) H locs) (hl : lv_has ls 4 [(0, .ref b), (1, .ref (B 0)), (2, .ref (A 0)), (3, .int (nI j))])
    (kk : ∀ (H1 : Heap) (locs1 : List Loc) (IB1 IM1 : Nat → Int32) (J1 : Nat → Int64) (FB1 FM1 : Nat → Nat → Int32) (n1 fd1 sz1 w1 lv1 kl1 kn1 kw1 kf1 : Nat), LI (N + 1) IB1 FB1 IM1 FM1 n1 fd1 sz1 w1 lv1 kl1 kn1 kw1 kf1 → JW D (fun q => s.heap.size ≤ q) s.heap (wsB B cI cS IB1 FB1) (wsM A cI cB IM1 J1 FM1) H1 locs1 → W p l e room_1 s m args below meth c H1 locs1 cells slots Q (F0 m 776 ls [])) : W p l e room_1 s m args below meth c H locs cells slots Q (F0 m 321 ls []) := by
  obtain ⟨q_b3, q_m1, q_n6, q_b4, q_m6, q_ww, q_ev, q_b6, q_m9, q_f6, q_b2, q_m13, q_s21, q_b1, q_m0, q_lN, q_b7, q_m20, q_kn6, q_b8, q_m21, q_kww, q_kev, q_b10, q_m23, q_kf6, q_m19, q_kle, q_kept, q_rows, q_ink, q_fnd, q_kink, q_kfnd, q_pg⟩ := id hI
  have hbA : ¬ s.heap.size ≤ b := Nat.not_le.mpr hbl
  by_cases hz : xs (j + 2) = 0
  · refine lv_aload_n hx hb dL_law_321 rfl (lv_at hl 1 rfl) ?_
    refine lv_aload_n hx hb dL_law_322 rfl (lv_at hl 0 rfl) ?_
    refine lv_iload_n hx hb dL_law_323 rfl (lv_at hl 3 rfl) ?_
    refine lv_iconst (v := (1 : Int32)) hx hb dL_law_324 (by decide) ?_
    refine lv_iadd hx hb dL_law_325 ?_
    refine topE (z := nI (j + 1)) (nI_add j 1) ?_
    refine va_sld hx hb hX hbl hbA hJ.2.2.2 (vp_in_nI (by omega) (by omega)) dL_law_326 ?_
    refine topE (z := xs (j + 1)) (by rw [nI_clamp (by omega)]) ?_
    refine lv_aload_n hx hb dL_law_327 rfl (lv_at hl 0 rfl) ?_
    refine lv_iload_n hx hb dL_law_328 rfl (lv_at hl 3 rfl) ?_
    refine lv_iconst (v := (2 : Int32)) hx hb dL_law_329 (by decide) ?_
    refine lv_iadd hx hb dL_law_330 ?_
    refine topE (z := nI (j + 2)) (nI_add j 2) ?_
    refine va_sld hx hb hX hbl hbA hJ.2.2.2 (vp_in_nI (by omega) (by omega)) dL_law_331 ?_
    refine topE (z := xs (j + 2)) (by rw [nI_clamp (by omega)]) ?_
    refine lv_if_eq (tgt := 339) hx hb dL_law_332 (by decide) (fun _ => ?_) (fun h => absurd hz h)
    refine lv_iconst (v := (0 : Int32)) hx hb dL_law_339 (by decide) ?_
    refine jcVi (As := [.int (xs (j + 1)), .int (0 : Int32)]) (rest := []) hx hb hml hown hts hKK hJ (by first | rfl | (split <;> rfl)) (c_X3_sand l D cI cB cS q_n6 q_b3 (xs (j + 1)) (0 : Int32)) (cwV2 2 hts kw_361 kw_3 kw_358 kw_359 kw_360 rfl rfl (by decide +kernel) ⟨Nat.le_of_ble_eq_true rfl, Nat.le_of_ble_eq_true rfl⟩) 0 rfl rfl rfl rfl hl.1 rfl (Nat.le_of_ble_eq_true rfl) hcl dL_law_340 (fun H locs hJ => ?_)
    refine lv_aload_n hx hb dL_law_343 rfl (lv_at hl 2 rfl) ?_
    refine lv_aload_n hx hb dL_law_344 rfl (lv_at hl 0 rfl) ?_
    refine lv_iload_n hx hb dL_law_345 rfl (lv_at hl 3 rfl) ?_
    refine lv_iconst (v := (1 : Int32)) hx hb dL_law_346 (by decide) ?_
    refine lv_iadd hx hb dL_law_347 ?_
    refine topE (z := nI (j + 1)) (nI_add j 1) ?_
    refine va_sld hx hb hX hbl hbA hJ.2.2.2 (vp_in_nI (by omega) (by omega)) dL_law_348 ?_
    refine topE (z := xs (j + 1)) (by rw [nI_clamp (by omega)]) ?_
    refine lv_aload_n hx hb dL_law_349 rfl (lv_at hl 0 rfl) ?_
    refine lv_iload_n hx hb dL_law_350 rfl (lv_at hl 3 rfl) ?_
    refine lv_iconst (v := (2 : Int32)) hx hb dL_law_351 (by decide) ?_
    refine lv_iadd hx hb dL_law_352 ?_
    refine topE (z := nI (j + 2)) (nI_add j 2) ?_
    refine va_sld hx hb hX hbl hbA hJ.2.2.2 (vp_in_nI (by omega) (by omega)) dL_law_353 ?_
    refine topE (z := xs (j + 2)) (by rw [nI_clamp (by omega)]) ?_
    refine lv_if_eq (tgt := 361) hx hb dL_law_354 (by decide) (fun _ => ?_) (fun h => absurd hz h)
    refine lv_iconst (v := (0 : Int32)) hx hb dL_law_361 (by decide) ?_
    refine jcVi (As := [.int (xs (j + 1)), .int (0 : Int32)]) (rest := [.int _]) hx hb hml hown hts hKK hJ.sw (by first | rfl | (split <;> rfl)) (c_X4_sand l D cI cB cS q_n6 q_m1 (xs (j + 1)) (0 : Int32)) (cwV2 2 hts kw_369 kw_6 kw_366 kw_367 kw_368 rfl rfl (by decide +kernel) ⟨Nat.le_of_ble_eq_true rfl, Nat.le_of_ble_eq_true rfl⟩) 0 rfl rfl rfl rfl hl.1 rfl (Nat.le_of_ble_eq_true rfl) hcl dL_law_362 (fun H locs hJ => ?_)
    have hJ := hJ.sw
    refine lv_icmp_eq (tgt := 776) hx hb dL_law_365 (by decide) (fun _ => ?_) (fun h => absurd (if h : okS n (xs (j + 1)) then (by rw [if_pos h, if_pos h, q_b4, q_m6]; exact and1 _) else (by rw [if_neg h, if_neg h])) h)
    by_cases h : okS n (xs (j + 1))
    · rw [if_pos h, if_pos h] at hJ
      obtain ⟨w2, hI2⟩ := LI_sand (z := 0) h hI
      exact kk _ _ _ _ _ _ _ _ _ _ _ _ _ _ _ _ (hI2) hJ
    · rw [if_neg h, if_neg h] at hJ
      exact kk _ _ _ _ _ _ _ _ _ _ _ _ _ _ _ _ (LI_same hI) hJ
  · refine lv_aload_n hx hb dL_law_321 rfl (lv_at hl 1 rfl) ?_
    refine lv_aload_n hx hb dL_law_322 rfl (lv_at hl 0 rfl) ?_
    refine lv_iload_n hx hb dL_law_323 rfl (lv_at hl 3 rfl) ?_
    refine lv_iconst (v := (1 : Int32)) hx hb dL_law_324 (by decide) ?_
    refine lv_iadd hx hb dL_law_325 ?_
    refine topE (z := nI (j + 1)) (nI_add j 1) ?_
    refine va_sld hx hb hX hbl hbA hJ.2.2.2 (vp_in_nI (by omega) (by omega)) dL_law_326 ?_
    refine topE (z := xs (j + 1)) (by rw [nI_clamp (by omega)]) ?_
    refine lv_aload_n hx hb dL_law_327 rfl (lv_at hl 0 rfl) ?_
    refine lv_iload_n hx hb dL_law_328 rfl (lv_at hl 3 rfl) ?_
    refine lv_iconst (v := (2 : Int32)) hx hb dL_law_329 (by decide) ?_
    refine lv_iadd hx hb dL_law_330 ?_
    refine topE (z := nI (j + 2)) (nI_add j 2) ?_
    refine va_sld hx hb hX hbl hbA hJ.2.2.2 (vp_in_nI (by omega) (by omega)) dL_law_331 ?_
    refine topE (z := xs (j + 2)) (by rw [nI_clamp (by omega)]) ?_
    refine lv_if_eq (tgt := 339) hx hb dL_law_332 (by decide) (fun h => absurd h hz) (fun _ => ?_)
    refine lv_iconst (v := (1 : Int32)) hx hb dL_law_335 (by decide) ?_
    refine lv_goto (tgt := 340) hx hb dL_law_336 (by decide) ?_
    refine jcVi (As := [.int (xs (j + 1)), .int (1 : Int32)]) (rest := []) hx hb hml hown hts hKK hJ (by first | rfl | (split <;> rfl)) (c_X3_sand l D cI cB cS q_n6 q_b3 (xs (j + 1)) (1 : Int32)) (cwV2 2 hts kw_361 kw_3 kw_358 kw_359 kw_360 rfl rfl (by decide +kernel) ⟨Nat.le_of_ble_eq_true rfl, Nat.le_of_ble_eq_true rfl⟩) 0 rfl rfl rfl rfl hl.1 rfl (Nat.le_of_ble_eq_true rfl) hcl dL_law_340 (fun H locs hJ => ?_)
    refine lv_aload_n hx hb dL_law_343 rfl (lv_at hl 2 rfl) ?_
    refine lv_aload_n hx hb dL_law_344 rfl (lv_at hl 0 rfl) ?_
    refine lv_iload_n hx hb dL_law_345 rfl (lv_at hl 3 rfl) ?_
    refine lv_iconst (v := (1 : Int32)) hx hb dL_law_346 (by decide) ?_
    refine lv_iadd hx hb dL_law_347 ?_
    refine topE (z := nI (j + 1)) (nI_add j 1) ?_
    refine va_sld hx hb hX hbl hbA hJ.2.2.2 (vp_in_nI (by omega) (by omega)) dL_law_348 ?_
    refine topE (z := xs (j + 1)) (by rw [nI_clamp (by omega)]) ?_
    refine lv_aload_n hx hb dL_law_349 rfl (lv_at hl 0 rfl) ?_
    refine lv_iload_n hx hb dL_law_350 rfl (lv_at hl 3 rfl) ?_
    refine lv_iconst (v := (2 : Int32)) hx hb dL_law_351 (by decide) ?_
    refine lv_iadd hx hb dL_law_352 ?_
    refine topE (z := nI (j + 2)) (nI_add j 2) ?_
    refine va_sld hx hb hX hbl hbA hJ.2.2.2 (vp_in_nI (by omega) (by omega)) dL_law_353 ?_
    refine topE (z := xs (j + 2)) (by rw [nI_clamp (by omega)]) ?_
    refine lv_if_eq (tgt := 361) hx hb dL_law_354 (by decide) (fun h => absurd h hz) (fun _ => ?_)
    refine lv_iconst (v := (1 : Int32)) hx hb dL_law_357 (by decide) ?_
    refine lv_goto (tgt := 362) hx hb dL_law_358 (by decide) ?_
    refine jcVi (As := [.int (xs (j + 1)), .int (1 : Int32)]) (rest := [.int _]) hx hb hml hown hts hKK hJ.sw (by first | rfl | (split <;> rfl)) (c_X4_sand l D cI cB cS q_n6 q_m1 (xs (j + 1)) (1 : Int32)) (cwV2 2 hts kw_369 kw_6 kw_366 kw_367 kw_368 rfl rfl (by decide +kernel) ⟨Nat.le_of_ble_eq_true rfl, Nat.le_of_ble_eq_true rfl⟩) 0 rfl rfl rfl rfl hl.1 rfl (Nat.le_of_ble_eq_true rfl) hcl dL_law_362 (fun H locs hJ => ?_)
    have hJ := hJ.sw
    refine lv_icmp_eq (tgt := 776) hx hb dL_law_365 (by decide) (fun _ => ?_) (fun h => absurd (if h : okS n (xs (j + 1)) then (by rw [if_pos h, if_pos h, q_b4, q_m6]; exact and1 _) else (by rw [if_neg h, if_neg h])) h)
    by_cases h : okS n (xs (j + 1))
    · rw [if_pos h, if_pos h] at hJ
      obtain ⟨w2, hI2⟩ := LI_sand (z := 1) h hI
      exact kk _ _ _ _ _ _ _ _ _ _ _ _ _ _ _ _ (hI2) hJ
    · rw [if_neg h, if_neg h] at hJ
      exact kk _ _ _ _ _ _ _ _ _ _ _ _ _ _ _ _ (LI_same hI) hJ
set_option maxHeartbeats 1000000 in
theorem arm_wet {p : Program} {l : Launch} {e : Env} {s : State} {m : MethodId} {args : Array Value} {below : List Frame} {meth : Method} {c : Code} {D : va_G} {cI cB cS : ClassId} {H : Heap} {locs : List Loc} {cells slots : Nat} {Q : State → Prop} {b L : Nat} {xs : Nat → Int32} {N j : Nat} {B A : Nat → Nat} {IB IM : Nat → Int32} {J : Nat → Int64} {FB FM : Nat → Nat → Int32} {n fd sz w lv kl kn kw kf ks vs : Nat} {ls : Array Slot} (hx : p.tables.exec = Jvm.exec) (hb : c.code = cL_law) (hml : c.maxLocals = 4) (hown : s.vm.findClass RL = some m.cls) (hts : ∀ w ∈ wsG, w.before args s = true) (hKK : KK D (TYS cI cB cS) s) (hSF : SF ks vs (fun q => s.heap.size ≤ q) s s.heap) (hX : va_X b L xs s s.heap) (hbl : b < s.heap.size) (hj : j + 5 ≤ L) (hL : L ≤ 2560) (hN1 : N < 1000000) (hcl : cells + 0 ≤ room_1.cells ∧ slots + 0 ≤ room_1.slots) (hI : LI N IB FB IM FM n fd sz w lv kl kn kw kf) (hJ : JW D (fun q => s.heap.size ≤ q) s.heap (wsB B cI cS IB FB) (wsM A cI cB IM J FM) H locs) (hl : lv_has ls 4 [(0, .ref b), (1, .ref (B 0)), (2, .ref (A 0)), (3, .int (nI j))])
    (kk : ∀ (H1 : Heap) (locs1 : List Loc) (IB1 IM1 : Nat → Int32) (J1 : Nat → Int64) (FB1 FM1 : Nat → Nat → Int32) (n1 fd1 sz1 w1 lv1 kl1 kn1 kw1 kf1 : Nat), LI (N + 1) IB1 FB1 IM1 FM1 n1 fd1 sz1 w1 lv1 kl1 kn1 kw1 kf1 → JW D (fun q => s.heap.size ≤ q) s.heap (wsB B cI cS IB1 FB1) (wsM A cI cB IM1 J1 FM1) H1 locs1 → W p l e room_1 s m args below meth c H1 locs1 cells slots Q (F0 m 776 ls [])) : W p l e room_1 s m args below meth c H locs cells slots Q (F0 m 370 ls []) := by
  obtain ⟨q_b3, q_m1, q_n6, q_b4, q_m6, q_ww, q_ev, q_b6, q_m9, q_f6, q_b2, q_m13, q_s21, q_b1, q_m0, q_lN, q_b7, q_m20, q_kn6, q_b8, q_m21, q_kww, q_kev, q_b10, q_m23, q_kf6, q_m19, q_kle, q_kept, q_rows, q_ink, q_fnd, q_kink, q_kfnd, q_pg⟩ := id hI
  have hbA : ¬ s.heap.size ≤ b := Nat.not_le.mpr hbl
  refine lv_aload_n hx hb dL_law_370 rfl (lv_at hl 1 rfl) ?_
  refine lv_aload_n hx hb dL_law_371 rfl (lv_at hl 0 rfl) ?_
  refine lv_iload_n hx hb dL_law_372 rfl (lv_at hl 3 rfl) ?_
  refine lv_iconst (v := (1 : Int32)) hx hb dL_law_373 (by decide) ?_
  refine lv_iadd hx hb dL_law_374 ?_
  refine topE (z := nI (j + 1)) (nI_add j 1) ?_
  refine va_sld hx hb hX hbl hbA hJ.2.2.2 (vp_in_nI (by omega) (by omega)) dL_law_375 ?_
  refine topE (z := xs (j + 1)) (by rw [nI_clamp (by omega)]) ?_
  refine lv_aload_n hx hb dL_law_376 rfl (lv_at hl 0 rfl) ?_
  refine lv_iload_n hx hb dL_law_377 rfl (lv_at hl 3 rfl) ?_
  refine lv_iconst (v := (2 : Int32)) hx hb dL_law_378 (by decide) ?_
  refine lv_iadd hx hb dL_law_379 ?_
  refine topE (z := nI (j + 2)) (nI_add j 2) ?_
  refine va_sld hx hb hX hbl hbA hJ.2.2.2 (vp_in_nI (by omega) (by omega)) dL_law_380 ?_
  refine topE (z := xs (j + 2)) (by rw [nI_clamp (by omega)]) ?_
  refine rcVi (As := [.int (xs (j + 1)), .int (xs (j + 2))]) (rest := []) hx hb hml hown hts hKK hJ.1 (c_X3_wet l D cI cB cS q_n6 q_b3 (xs (j + 1)) (xs (j + 2))) (cwV2 2 hts kw_373 kw_3 kw_370 kw_371 kw_372 rfl rfl (by decide +kernel) ⟨Nat.le_of_ble_eq_true rfl, Nat.le_of_ble_eq_true rfl⟩) 0 rfl rfl rfl rfl hl.1 rfl (Nat.le_of_ble_eq_true rfl) hcl dL_law_381 ?_
  refine lv_aload_n hx hb dL_law_384 rfl (lv_at hl 2 rfl) ?_
  refine lv_aload_n hx hb dL_law_385 rfl (lv_at hl 0 rfl) ?_
  refine lv_iload_n hx hb dL_law_386 rfl (lv_at hl 3 rfl) ?_
  refine lv_iconst (v := (1 : Int32)) hx hb dL_law_387 (by decide) ?_
  refine lv_iadd hx hb dL_law_388 ?_
  refine topE (z := nI (j + 1)) (nI_add j 1) ?_
  refine va_sld hx hb hX hbl hbA hJ.2.2.2 (vp_in_nI (by omega) (by omega)) dL_law_389 ?_
  refine topE (z := xs (j + 1)) (by rw [nI_clamp (by omega)]) ?_
  refine lv_aload_n hx hb dL_law_390 rfl (lv_at hl 0 rfl) ?_
  refine lv_iload_n hx hb dL_law_391 rfl (lv_at hl 3 rfl) ?_
  refine lv_iconst (v := (2 : Int32)) hx hb dL_law_392 (by decide) ?_
  refine lv_iadd hx hb dL_law_393 ?_
  refine topE (z := nI (j + 2)) (nI_add j 2) ?_
  refine va_sld hx hb hX hbl hbA hJ.2.2.2 (vp_in_nI (by omega) (by omega)) dL_law_394 ?_
  refine topE (z := xs (j + 2)) (by rw [nI_clamp (by omega)]) ?_
  refine rcVi (As := [.int (xs (j + 1)), .int (xs (j + 2))]) (rest := [.int _]) hx hb hml hown hts hKK hJ.sw.1 (c_X4_wet l D cI cB cS q_n6 q_m1 (xs (j + 1)) (xs (j + 2))) (cwV2 2 hts kw_380 kw_6 kw_377 kw_378 kw_379 rfl rfl (by decide +kernel) ⟨Nat.le_of_ble_eq_true rfl, Nat.le_of_ble_eq_true rfl⟩) 0 rfl rfl rfl rfl hl.1 rfl (Nat.le_of_ble_eq_true rfl) hcl dL_law_395 ?_
  refine lv_icmp_eq (tgt := 776) hx hb dL_law_398 (by decide) (fun _ => ?_) (fun h => absurd (by rw [q_b4, q_m6]; exact wetS_eq q_n6 q_rows) h)
  exact kk _ _ _ _ _ _ _ _ _ _ _ _ _ _ _ _ (LI_same hI) hJ
set_option maxHeartbeats 1000000 in
theorem arm_ink {p : Program} {l : Launch} {e : Env} {s : State} {m : MethodId} {args : Array Value} {below : List Frame} {meth : Method} {c : Code} {D : va_G} {cI cB cS : ClassId} {H : Heap} {locs : List Loc} {cells slots : Nat} {Q : State → Prop} {b L : Nat} {xs : Nat → Int32} {N j : Nat} {B A : Nat → Nat} {IB IM : Nat → Int32} {J : Nat → Int64} {FB FM : Nat → Nat → Int32} {n fd sz w lv kl kn kw kf ks vs : Nat} {ls : Array Slot} (hx : p.tables.exec = Jvm.exec) (hb : c.code = cL_law) (hml : c.maxLocals = 4) (hown : s.vm.findClass RL = some m.cls) (hts : ∀ w ∈ wsG, w.before args s = true) (hKK : KK D (TYS cI cB cS) s) (hSF : SF ks vs (fun q => s.heap.size ≤ q) s s.heap) (hX : va_X b L xs s s.heap) (hbl : b < s.heap.size) (hj : j + 5 ≤ L) (hL : L ≤ 2560) (hN1 : N < 1000000) (hcl : cells + 0 ≤ room_1.cells ∧ slots + 0 ≤ room_1.slots) (hI : LI N IB FB IM FM n fd sz w lv kl kn kw kf) (hJ : JW D (fun q => s.heap.size ≤ q) s.heap (wsB B cI cS IB FB) (wsM A cI cB IM J FM) H locs) (hl : lv_has ls 4 [(0, .ref b), (1, .ref (B 0)), (2, .ref (A 0)), (3, .int (nI j))])
    (kk : ∀ (H1 : Heap) (locs1 : List Loc) (IB1 IM1 : Nat → Int32) (J1 : Nat → Int64) (FB1 FM1 : Nat → Nat → Int32) (n1 fd1 sz1 w1 lv1 kl1 kn1 kw1 kf1 : Nat), LI (N + 1) IB1 FB1 IM1 FM1 n1 fd1 sz1 w1 lv1 kl1 kn1 kw1 kf1 → JW D (fun q => s.heap.size ≤ q) s.heap (wsB B cI cS IB1 FB1) (wsM A cI cB IM1 J1 FM1) H1 locs1 → W p l e room_1 s m args below meth c H1 locs1 cells slots Q (F0 m 776 ls [])) : W p l e room_1 s m args below meth c H locs cells slots Q (F0 m 403 ls []) := by
  obtain ⟨q_b3, q_m1, q_n6, q_b4, q_m6, q_ww, q_ev, q_b6, q_m9, q_f6, q_b2, q_m13, q_s21, q_b1, q_m0, q_lN, q_b7, q_m20, q_kn6, q_b8, q_m21, q_kww, q_kev, q_b10, q_m23, q_kf6, q_m19, q_kle, q_kept, q_rows, q_ink, q_fnd, q_kink, q_kfnd, q_pg⟩ := id hI
  have hbA : ¬ s.heap.size ≤ b := Nat.not_le.mpr hbl
  refine lv_aload_n hx hb dL_law_403 rfl (lv_at hl 1 rfl) ?_
  refine lv_aload_n hx hb dL_law_404 rfl (lv_at hl 0 rfl) ?_
  refine lv_iload_n hx hb dL_law_405 rfl (lv_at hl 3 rfl) ?_
  refine lv_iconst (v := (1 : Int32)) hx hb dL_law_406 (by decide) ?_
  refine lv_iadd hx hb dL_law_407 ?_
  refine topE (z := nI (j + 1)) (nI_add j 1) ?_
  refine va_sld hx hb hX hbl hbA hJ.2.2.2 (vp_in_nI (by omega) (by omega)) dL_law_408 ?_
  refine topE (z := xs (j + 1)) (by rw [nI_clamp (by omega)]) ?_
  refine rcVi (As := [.int (xs (j + 1))]) (rest := []) hx hb hml hown hts hKK hJ.1 (c_X3_ink l D cI cB cS q_n6 q_b3 (xs (j + 1))) (cwV2 1 hts kw_387 kw_3 kw_384 kw_385 kw_386 rfl rfl (by decide +kernel) ⟨Nat.le_of_ble_eq_true rfl, Nat.le_of_ble_eq_true rfl⟩) 0 rfl rfl rfl rfl hl.1 rfl (Nat.le_of_ble_eq_true rfl) hcl dL_law_409 ?_
  refine lv_aload_n hx hb dL_law_412 rfl (lv_at hl 2 rfl) ?_
  refine lv_aload_n hx hb dL_law_413 rfl (lv_at hl 0 rfl) ?_
  refine lv_iload_n hx hb dL_law_414 rfl (lv_at hl 3 rfl) ?_
  refine lv_iconst (v := (1 : Int32)) hx hb dL_law_415 (by decide) ?_
  refine lv_iadd hx hb dL_law_416 ?_
  refine topE (z := nI (j + 1)) (nI_add j 1) ?_
  refine va_sld hx hb hX hbl hbA hJ.2.2.2 (vp_in_nI (by omega) (by omega)) dL_law_417 ?_
  refine topE (z := xs (j + 1)) (by rw [nI_clamp (by omega)]) ?_
  refine rcVi (As := [.int (xs (j + 1))]) (rest := [.int _]) hx hb hml hown hts hKK hJ.sw.1 (c_X4_ink l D cI cB cS q_n6 q_m1 (xs (j + 1))) (cwV2 1 hts kw_395 kw_6 kw_392 kw_393 kw_394 rfl rfl (by decide +kernel) ⟨Nat.le_of_ble_eq_true rfl, Nat.le_of_ble_eq_true rfl⟩) 0 rfl rfl rfl rfl hl.1 rfl (Nat.le_of_ble_eq_true rfl) hcl dL_law_418 ?_
  refine lv_icmp_eq (tgt := 776) hx hb dL_law_421 (by decide) (fun _ => ?_) (fun h => absurd (if h : 0 < n ∧ okCell (xs (j + 1)) then (by unfold cInk; rw [if_pos h, if_pos h]; obtain ⟨k, hk, ek⟩ := okCell_nat h.2; rw [ek, nI_clamp (by omega)]; exact q_ink k hk) else (by unfold cInk; rw [if_neg h, if_neg h])) h)
  exact kk _ _ _ _ _ _ _ _ _ _ _ _ _ _ _ _ (LI_same hI) hJ
set_option maxHeartbeats 1000000 in
theorem arm_comes {p : Program} {l : Launch} {e : Env} {s : State} {m : MethodId} {args : Array Value} {below : List Frame} {meth : Method} {c : Code} {D : va_G} {cI cB cS : ClassId} {H : Heap} {locs : List Loc} {cells slots : Nat} {Q : State → Prop} {b L : Nat} {xs : Nat → Int32} {N j : Nat} {B A : Nat → Nat} {IB IM : Nat → Int32} {J : Nat → Int64} {FB FM : Nat → Nat → Int32} {n fd sz w lv kl kn kw kf ks vs : Nat} {ls : Array Slot} (hx : p.tables.exec = Jvm.exec) (hb : c.code = cL_law) (hml : c.maxLocals = 4) (hown : s.vm.findClass RL = some m.cls) (hts : ∀ w ∈ wsG, w.before args s = true) (hKK : KK D (TYS cI cB cS) s) (hSF : SF ks vs (fun q => s.heap.size ≤ q) s s.heap) (hX : va_X b L xs s s.heap) (hbl : b < s.heap.size) (hj : j + 5 ≤ L) (hL : L ≤ 2560) (hN1 : N < 1000000) (hcl : cells + 0 ≤ room_1.cells ∧ slots + 0 ≤ room_1.slots) (hI : LI N IB FB IM FM n fd sz w lv kl kn kw kf) (hJ : JW D (fun q => s.heap.size ≤ q) s.heap (wsB B cI cS IB FB) (wsM A cI cB IM J FM) H locs) (hl : lv_has ls 4 [(0, .ref b), (1, .ref (B 0)), (2, .ref (A 0)), (3, .int (nI j))])
    (kk : ∀ (H1 : Heap) (locs1 : List Loc) (IB1 IM1 : Nat → Int32) (J1 : Nat → Int64) (FB1 FM1 : Nat → Nat → Int32) (n1 fd1 sz1 w1 lv1 kl1 kn1 kw1 kf1 : Nat), LI (N + 1) IB1 FB1 IM1 FM1 n1 fd1 sz1 w1 lv1 kl1 kn1 kw1 kf1 → JW D (fun q => s.heap.size ≤ q) s.heap (wsB B cI cS IB1 FB1) (wsM A cI cB IM1 J1 FM1) H1 locs1 → W p l e room_1 s m args below meth c H1 locs1 cells slots Q (F0 m 776 ls [])) : W p l e room_1 s m args below meth c H locs cells slots Q (F0 m 426 ls []) := by
  obtain ⟨q_b3, q_m1, q_n6, q_b4, q_m6, q_ww, q_ev, q_b6, q_m9, q_f6, q_b2, q_m13, q_s21, q_b1, q_m0, q_lN, q_b7, q_m20, q_kn6, q_b8, q_m21, q_kww, q_kev, q_b10, q_m23, q_kf6, q_m19, q_kle, q_kept, q_rows, q_ink, q_fnd, q_kink, q_kfnd, q_pg⟩ := id hI
  have hbA : ¬ s.heap.size ≤ b := Nat.not_le.mpr hbl
  refine lv_aload_n hx hb dL_law_426 rfl (lv_at hl 1 rfl) ?_
  refine lv_aload_n hx hb dL_law_427 rfl (lv_at hl 0 rfl) ?_
  refine lv_iload_n hx hb dL_law_428 rfl (lv_at hl 3 rfl) ?_
  refine lv_iconst (v := (1 : Int32)) hx hb dL_law_429 (by decide) ?_
  refine lv_iadd hx hb dL_law_430 ?_
  refine topE (z := nI (j + 1)) (nI_add j 1) ?_
  refine va_sld hx hb hX hbl hbA hJ.2.2.2 (vp_in_nI (by omega) (by omega)) dL_law_431 ?_
  refine topE (z := xs (j + 1)) (by rw [nI_clamp (by omega)]) ?_
  refine lv_aload_n hx hb dL_law_432 rfl (lv_at hl 0 rfl) ?_
  refine lv_iload_n hx hb dL_law_433 rfl (lv_at hl 3 rfl) ?_
  refine lv_iconst (v := (2 : Int32)) hx hb dL_law_434 (by decide) ?_
  refine lv_iadd hx hb dL_law_435 ?_
  refine topE (z := nI (j + 2)) (nI_add j 2) ?_
  refine va_sld hx hb hX hbl hbA hJ.2.2.2 (vp_in_nI (by omega) (by omega)) dL_law_436 ?_
  refine topE (z := xs (j + 2)) (by rw [nI_clamp (by omega)]) ?_
  refine rcVi (As := [.int (xs (j + 1)), .int (xs (j + 2))]) (rest := []) hx hb hml hown hts hKK hJ.1 (c_X3_comes l D cI cB cS q_n6 q_b3 (xs (j + 1)) (xs (j + 2))) (cwV2 2 hts kw_403 kw_3 kw_400 kw_401 kw_402 rfl rfl (by decide +kernel) ⟨Nat.le_of_ble_eq_true rfl, Nat.le_of_ble_eq_true rfl⟩) 0 rfl rfl rfl rfl hl.1 rfl (Nat.le_of_ble_eq_true rfl) hcl dL_law_437 ?_
  refine lv_aload_n hx hb dL_law_440 rfl (lv_at hl 2 rfl) ?_
  refine lv_aload_n hx hb dL_law_441 rfl (lv_at hl 0 rfl) ?_
  refine lv_iload_n hx hb dL_law_442 rfl (lv_at hl 3 rfl) ?_
  refine lv_iconst (v := (1 : Int32)) hx hb dL_law_443 (by decide) ?_
  refine lv_iadd hx hb dL_law_444 ?_
  refine topE (z := nI (j + 1)) (nI_add j 1) ?_
  refine va_sld hx hb hX hbl hbA hJ.2.2.2 (vp_in_nI (by omega) (by omega)) dL_law_445 ?_
  refine topE (z := xs (j + 1)) (by rw [nI_clamp (by omega)]) ?_
  refine lv_aload_n hx hb dL_law_446 rfl (lv_at hl 0 rfl) ?_
  refine lv_iload_n hx hb dL_law_447 rfl (lv_at hl 3 rfl) ?_
  refine lv_iconst (v := (2 : Int32)) hx hb dL_law_448 (by decide) ?_
  refine lv_iadd hx hb dL_law_449 ?_
  refine topE (z := nI (j + 2)) (nI_add j 2) ?_
  refine va_sld hx hb hX hbl hbA hJ.2.2.2 (vp_in_nI (by omega) (by omega)) dL_law_450 ?_
  refine topE (z := xs (j + 2)) (by rw [nI_clamp (by omega)]) ?_
  refine rcVi (As := [.int (xs (j + 1)), .int (xs (j + 2))]) (rest := [.int _]) hx hb hml hown hts hKK hJ.sw.1 (c_X4_comes l D cI cB cS q_n6 q_m1 (xs (j + 1)) (xs (j + 2))) (cwV2 2 hts kw_411 kw_6 kw_408 kw_409 kw_410 rfl rfl (by decide +kernel) ⟨Nat.le_of_ble_eq_true rfl, Nat.le_of_ble_eq_true rfl⟩) 0 rfl rfl rfl rfl hl.1 rfl (Nat.le_of_ble_eq_true rfl) hcl dL_law_451 ?_
  refine lv_icmp_eq (tgt := 776) hx hb dL_law_454 (by decide) (fun _ => ?_) (fun h => absurd (by rw [q_b4, q_m6]; exact comesS_eq q_n6 q_rows) h)
  exact kk _ _ _ _ _ _ _ _ _ _ _ _ _ _ _ _ (LI_same hI) hJ
set_option maxHeartbeats 1000000 in
theorem arm_evening {p : Program} {l : Launch} {e : Env} {s : State} {m : MethodId} {args : Array Value} {below : List Frame} {meth : Method} {c : Code} {D : va_G} {cI cB cS : ClassId} {H : Heap} {locs : List Loc} {cells slots : Nat} {Q : State → Prop} {b L : Nat} {xs : Nat → Int32} {N j : Nat} {B A : Nat → Nat} {IB IM : Nat → Int32} {J : Nat → Int64} {FB FM : Nat → Nat → Int32} {n fd sz w lv kl kn kw kf ks vs : Nat} {ls : Array Slot} (hx : p.tables.exec = Jvm.exec) (hb : c.code = cL_law) (hml : c.maxLocals = 4) (hown : s.vm.findClass RL = some m.cls) (hts : ∀ w ∈ wsG, w.before args s = true) (hKK : KK D (TYS cI cB cS) s) (hSF : SF ks vs (fun q => s.heap.size ≤ q) s s.heap) (hX : va_X b L xs s s.heap) (hbl : b < s.heap.size) (hj : j + 5 ≤ L) (hL : L ≤ 2560) (hN1 : N < 1000000) (hcl : cells + 0 ≤ room_1.cells ∧ slots + 0 ≤ room_1.slots) (hI : LI N IB FB IM FM n fd sz w lv kl kn kw kf) (hJ : JW D (fun q => s.heap.size ≤ q) s.heap (wsB B cI cS IB FB) (wsM A cI cB IM J FM) H locs) (hl : lv_has ls 4 [(0, .ref b), (1, .ref (B 0)), (2, .ref (A 0)), (3, .int (nI j))])
    (kk : ∀ (H1 : Heap) (locs1 : List Loc) (IB1 IM1 : Nat → Int32) (J1 : Nat → Int64) (FB1 FM1 : Nat → Nat → Int32) (n1 fd1 sz1 w1 lv1 kl1 kn1 kw1 kf1 : Nat), LI (N + 1) IB1 FB1 IM1 FM1 n1 fd1 sz1 w1 lv1 kl1 kn1 kw1 kf1 → JW D (fun q => s.heap.size ≤ q) s.heap (wsB B cI cS IB1 FB1) (wsM A cI cB IM1 J1 FM1) H1 locs1 → W p l e room_1 s m args below meth c H1 locs1 cells slots Q (F0 m 776 ls [])) : W p l e room_1 s m args below meth c H locs cells slots Q (F0 m 459 ls []) := by
  obtain ⟨q_b3, q_m1, q_n6, q_b4, q_m6, q_ww, q_ev, q_b6, q_m9, q_f6, q_b2, q_m13, q_s21, q_b1, q_m0, q_lN, q_b7, q_m20, q_kn6, q_b8, q_m21, q_kww, q_kev, q_b10, q_m23, q_kf6, q_m19, q_kle, q_kept, q_rows, q_ink, q_fnd, q_kink, q_kfnd, q_pg⟩ := id hI
  have hbA : ¬ s.heap.size ≤ b := Nat.not_le.mpr hbl
  refine lv_aload_n hx hb dL_law_459 rfl (lv_at hl 1 rfl) ?_
  refine lv_aload_n hx hb dL_law_460 rfl (lv_at hl 0 rfl) ?_
  refine lv_iload_n hx hb dL_law_461 rfl (lv_at hl 3 rfl) ?_
  refine lv_iconst (v := (1 : Int32)) hx hb dL_law_462 (by decide) ?_
  refine lv_iadd hx hb dL_law_463 ?_
  refine topE (z := nI (j + 1)) (nI_add j 1) ?_
  refine va_sld hx hb hX hbl hbA hJ.2.2.2 (vp_in_nI (by omega) (by omega)) dL_law_464 ?_
  refine topE (z := xs (j + 1)) (by rw [nI_clamp (by omega)]) ?_
  refine jcVi (As := [.int (xs (j + 1))]) (rest := []) hx hb hml hown hts hKK hJ (by first | rfl | (split <;> rfl)) (c_X3_evening l D cI cB cS q_n6 q_b3 (xs (j + 1))) (cwV2 1 hts kw_415 kw_3 kw_412 kw_413 kw_414 rfl rfl (by decide +kernel) ⟨Nat.le_of_ble_eq_true rfl, Nat.le_of_ble_eq_true rfl⟩) 0 rfl rfl rfl rfl hl.1 rfl (Nat.le_of_ble_eq_true rfl) hcl dL_law_465 (fun H locs hJ => ?_)
  refine lv_aload_n hx hb dL_law_468 rfl (lv_at hl 2 rfl) ?_
  refine lv_aload_n hx hb dL_law_469 rfl (lv_at hl 0 rfl) ?_
  refine lv_iload_n hx hb dL_law_470 rfl (lv_at hl 3 rfl) ?_
  refine lv_iconst (v := (1 : Int32)) hx hb dL_law_471 (by decide) ?_
  refine lv_iadd hx hb dL_law_472 ?_
  refine topE (z := nI (j + 1)) (nI_add j 1) ?_
  refine va_sld hx hb hX hbl hbA hJ.2.2.2 (vp_in_nI (by omega) (by omega)) dL_law_473 ?_
  refine topE (z := xs (j + 1)) (by rw [nI_clamp (by omega)]) ?_
  refine jcVi (As := [.int (xs (j + 1))]) (rest := [.int _]) hx hb hml hown hts hKK hJ.sw (by first | rfl | (split <;> rfl)) (c_X4_evening l D cI cB cS q_n6 q_m1 (xs (j + 1))) (cwV2 1 hts kw_424 kw_6 kw_421 kw_422 kw_423 rfl rfl (by decide +kernel) ⟨Nat.le_of_ble_eq_true rfl, Nat.le_of_ble_eq_true rfl⟩) 0 rfl rfl rfl rfl hl.1 rfl (Nat.le_of_ble_eq_true rfl) hcl dL_law_474 (fun H locs hJ => ?_)
  have hJ := hJ.sw
  refine lv_icmp_eq (tgt := 776) hx hb dL_law_477 (by decide) (fun _ => ?_) (fun h => absurd (by rw [q_b4, q_m6, evg_eq q_n6 q_rows]) h)
  by_cases h : okMin (xs (j + 1)) ∧ 0 < n
  · rw [if_pos h, if_pos h] at hJ
    exact kk _ _ _ _ _ _ _ _ _ _ _ _ _ _ _ _ (LI_evening hI) hJ
  · rw [if_neg h, if_neg h] at hJ
    exact kk _ _ _ _ _ _ _ _ _ _ _ _ _ _ _ _ (LI_same hI) hJ
set_option maxHeartbeats 1000000 in
theorem arm_hills {p : Program} {l : Launch} {e : Env} {s : State} {m : MethodId} {args : Array Value} {below : List Frame} {meth : Method} {c : Code} {D : va_G} {cI cB cS : ClassId} {H : Heap} {locs : List Loc} {cells slots : Nat} {Q : State → Prop} {b L : Nat} {xs : Nat → Int32} {N j : Nat} {B A : Nat → Nat} {IB IM : Nat → Int32} {J : Nat → Int64} {FB FM : Nat → Nat → Int32} {n fd sz w lv kl kn kw kf ks vs : Nat} {ls : Array Slot} (hx : p.tables.exec = Jvm.exec) (hb : c.code = cL_law) (hml : c.maxLocals = 4) (hown : s.vm.findClass RL = some m.cls) (hts : ∀ w ∈ wsG, w.before args s = true) (hKK : KK D (TYS cI cB cS) s) (hSF : SF ks vs (fun q => s.heap.size ≤ q) s s.heap) (hX : va_X b L xs s s.heap) (hbl : b < s.heap.size) (hj : j + 5 ≤ L) (hL : L ≤ 2560) (hN1 : N < 1000000) (hcl : cells + 0 ≤ room_1.cells ∧ slots + 0 ≤ room_1.slots) (hI : LI N IB FB IM FM n fd sz w lv kl kn kw kf) (hJ : JW D (fun q => s.heap.size ≤ q) s.heap (wsB B cI cS IB FB) (wsM A cI cB IM J FM) H locs) (hl : lv_has ls 4 [(0, .ref b), (1, .ref (B 0)), (2, .ref (A 0)), (3, .int (nI j))])
    (kk : ∀ (H1 : Heap) (locs1 : List Loc) (IB1 IM1 : Nat → Int32) (J1 : Nat → Int64) (FB1 FM1 : Nat → Nat → Int32) (n1 fd1 sz1 w1 lv1 kl1 kn1 kw1 kf1 : Nat), LI (N + 1) IB1 FB1 IM1 FM1 n1 fd1 sz1 w1 lv1 kl1 kn1 kw1 kf1 → JW D (fun q => s.heap.size ≤ q) s.heap (wsB B cI cS IB1 FB1) (wsM A cI cB IM1 J1 FM1) H1 locs1 → W p l e room_1 s m args below meth c H1 locs1 cells slots Q (F0 m 776 ls [])) : W p l e room_1 s m args below meth c H locs cells slots Q (F0 m 482 ls []) := by
  obtain ⟨q_b3, q_m1, q_n6, q_b4, q_m6, q_ww, q_ev, q_b6, q_m9, q_f6, q_b2, q_m13, q_s21, q_b1, q_m0, q_lN, q_b7, q_m20, q_kn6, q_b8, q_m21, q_kww, q_kev, q_b10, q_m23, q_kf6, q_m19, q_kle, q_kept, q_rows, q_ink, q_fnd, q_kink, q_kfnd, q_pg⟩ := id hI
  have hbA : ¬ s.heap.size ≤ b := Nat.not_le.mpr hbl
  refine lv_aload_n hx hb dL_law_482 rfl (lv_at hl 1 rfl) ?_
  refine lv_aload_n hx hb dL_law_483 rfl (lv_at hl 0 rfl) ?_
  refine lv_iload_n hx hb dL_law_484 rfl (lv_at hl 3 rfl) ?_
  refine lv_iconst (v := (1 : Int32)) hx hb dL_law_485 (by decide) ?_
  refine lv_iadd hx hb dL_law_486 ?_
  refine topE (z := nI (j + 1)) (nI_add j 1) ?_
  refine va_sld hx hb hX hbl hbA hJ.2.2.2 (vp_in_nI (by omega) (by omega)) dL_law_487 ?_
  refine topE (z := xs (j + 1)) (by rw [nI_clamp (by omega)]) ?_
  refine rcVi (As := [.int (xs (j + 1))]) (rest := []) hx hb hml hown hts hKK hJ.1 (c_X3_hills l D cI cB cS q_n6 q_b3 (xs (j + 1))) (cwV2 1 hts kw_432 kw_3 kw_429 kw_430 kw_431 rfl rfl (by decide +kernel) ⟨Nat.le_of_ble_eq_true rfl, Nat.le_of_ble_eq_true rfl⟩) 0 rfl rfl rfl rfl hl.1 rfl (Nat.le_of_ble_eq_true rfl) hcl dL_law_488 ?_
  refine lv_aload_n hx hb dL_law_491 rfl (lv_at hl 2 rfl) ?_
  refine lv_aload_n hx hb dL_law_492 rfl (lv_at hl 0 rfl) ?_
  refine lv_iload_n hx hb dL_law_493 rfl (lv_at hl 3 rfl) ?_
  refine lv_iconst (v := (1 : Int32)) hx hb dL_law_494 (by decide) ?_
  refine lv_iadd hx hb dL_law_495 ?_
  refine topE (z := nI (j + 1)) (nI_add j 1) ?_
  refine va_sld hx hb hX hbl hbA hJ.2.2.2 (vp_in_nI (by omega) (by omega)) dL_law_496 ?_
  refine topE (z := xs (j + 1)) (by rw [nI_clamp (by omega)]) ?_
  refine rcVi (As := [.int (xs (j + 1))]) (rest := [.int _]) hx hb hml hown hts hKK hJ.sw.1 (c_X4_hills l D cI cB cS q_n6 q_m1 (xs (j + 1))) (cwV2 1 hts kw_436 kw_6 kw_433 kw_434 kw_435 rfl rfl (by decide +kernel) ⟨Nat.le_of_ble_eq_true rfl, Nat.le_of_ble_eq_true rfl⟩) 0 rfl rfl rfl rfl hl.1 rfl (Nat.le_of_ble_eq_true rfl) hcl dL_law_497 ?_
  refine lv_icmp_eq (tgt := 776) hx hb dL_law_500 (by decide) (fun _ => ?_) (fun h => absurd (hills_eq q_ink) h)
  exact kk _ _ _ _ _ _ _ _ _ _ _ _ _ _ _ _ (LI_same hI) hJ
set_option maxHeartbeats 1000000 in
theorem arm_close {p : Program} {l : Launch} {e : Env} {s : State} {m : MethodId} {args : Array Value} {below : List Frame} {meth : Method} {c : Code} {D : va_G} {cI cB cS : ClassId} {H : Heap} {locs : List Loc} {cells slots : Nat} {Q : State → Prop} {b L : Nat} {xs : Nat → Int32} {N j : Nat} {B A : Nat → Nat} {IB IM : Nat → Int32} {J : Nat → Int64} {FB FM : Nat → Nat → Int32} {n fd sz w lv kl kn kw kf ks vs : Nat} {ls : Array Slot} (hx : p.tables.exec = Jvm.exec) (hb : c.code = cL_law) (hml : c.maxLocals = 4) (hown : s.vm.findClass RL = some m.cls) (hts : ∀ w ∈ wsG, w.before args s = true) (hKK : KK D (TYS cI cB cS) s) (hSF : SF ks vs (fun q => s.heap.size ≤ q) s s.heap) (hX : va_X b L xs s s.heap) (hbl : b < s.heap.size) (hj : j + 5 ≤ L) (hL : L ≤ 2560) (hN1 : N < 1000000) (hcl : cells + 0 ≤ room_1.cells ∧ slots + 0 ≤ room_1.slots) (hI : LI N IB FB IM FM n fd sz w lv kl kn kw kf) (hJ : JW D (fun q => s.heap.size ≤ q) s.heap (wsB B cI cS IB FB) (wsM A cI cB IM J FM) H locs) (hl : lv_has ls 4 [(0, .ref b), (1, .ref (B 0)), (2, .ref (A 0)), (3, .int (nI j))])
    (kk : ∀ (H1 : Heap) (locs1 : List Loc) (IB1 IM1 : Nat → Int32) (J1 : Nat → Int64) (FB1 FM1 : Nat → Nat → Int32) (n1 fd1 sz1 w1 lv1 kl1 kn1 kw1 kf1 : Nat), LI (N + 1) IB1 FB1 IM1 FM1 n1 fd1 sz1 w1 lv1 kl1 kn1 kw1 kf1 → JW D (fun q => s.heap.size ≤ q) s.heap (wsB B cI cS IB1 FB1) (wsM A cI cB IM1 J1 FM1) H1 locs1 → W p l e room_1 s m args below meth c H1 locs1 cells slots Q (F0 m 776 ls [])) : W p l e room_1 s m args below meth c H locs cells slots Q (F0 m 505 ls []) := by
  obtain ⟨q_b3, q_m1, q_n6, q_b4, q_m6, q_ww, q_ev, q_b6, q_m9, q_f6, q_b2, q_m13, q_s21, q_b1, q_m0, q_lN, q_b7, q_m20, q_kn6, q_b8, q_m21, q_kww, q_kev, q_b10, q_m23, q_kf6, q_m19, q_kle, q_kept, q_rows, q_ink, q_fnd, q_kink, q_kfnd, q_pg⟩ := id hI
  have hbA : ¬ s.heap.size ≤ b := Nat.not_le.mpr hbl
  refine lv_aload_n hx hb dL_law_505 rfl (lv_at hl 1 rfl) ?_
  refine lv_aload_n hx hb dL_law_506 rfl (lv_at hl 0 rfl) ?_
  refine lv_iload_n hx hb dL_law_507 rfl (lv_at hl 3 rfl) ?_
  refine lv_iconst (v := (1 : Int32)) hx hb dL_law_508 (by decide) ?_
  refine lv_iadd hx hb dL_law_509 ?_
  refine topE (z := nI (j + 1)) (nI_add j 1) ?_
  refine va_sld hx hb hX hbl hbA hJ.2.2.2 (vp_in_nI (by omega) (by omega)) dL_law_510 ?_
  refine topE (z := xs (j + 1)) (by rw [nI_clamp (by omega)]) ?_
  refine lv_aload_n hx hb dL_law_511 rfl (lv_at hl 0 rfl) ?_
  refine lv_iload_n hx hb dL_law_512 rfl (lv_at hl 3 rfl) ?_
  refine lv_iconst (v := (2 : Int32)) hx hb dL_law_513 (by decide) ?_
  refine lv_iadd hx hb dL_law_514 ?_
  refine topE (z := nI (j + 2)) (nI_add j 2) ?_
  refine va_sld hx hb hX hbl hbA hJ.2.2.2 (vp_in_nI (by omega) (by omega)) dL_law_515 ?_
  refine topE (z := xs (j + 2)) (by rw [nI_clamp (by omega)]) ?_
  refine rcVi (As := [.int (xs (j + 1)), .int (xs (j + 2))]) (rest := []) hx hb hml hown hts hKK hJ.1 (c_X3_close l D cI cB cS q_n6 q_b3 (xs (j + 1)) (xs (j + 2))) (cwV2 2 hts kw_444 kw_3 kw_441 kw_442 kw_443 rfl rfl (by decide +kernel) ⟨Nat.le_of_ble_eq_true rfl, Nat.le_of_ble_eq_true rfl⟩) 0 rfl rfl rfl rfl hl.1 rfl (Nat.le_of_ble_eq_true rfl) hcl dL_law_516 ?_
  refine lv_aload_n hx hb dL_law_519 rfl (lv_at hl 2 rfl) ?_
  refine lv_aload_n hx hb dL_law_520 rfl (lv_at hl 0 rfl) ?_
  refine lv_iload_n hx hb dL_law_521 rfl (lv_at hl 3 rfl) ?_
  refine lv_iconst (v := (1 : Int32)) hx hb dL_law_522 (by decide) ?_
  refine lv_iadd hx hb dL_law_523 ?_
  refine topE (z := nI (j + 1)) (nI_add j 1) ?_
  refine va_sld hx hb hX hbl hbA hJ.2.2.2 (vp_in_nI (by omega) (by omega)) dL_law_524 ?_
  refine topE (z := xs (j + 1)) (by rw [nI_clamp (by omega)]) ?_
  refine lv_aload_n hx hb dL_law_525 rfl (lv_at hl 0 rfl) ?_
  refine lv_iload_n hx hb dL_law_526 rfl (lv_at hl 3 rfl) ?_
  refine lv_iconst (v := (2 : Int32)) hx hb dL_law_527 (by decide) ?_
  refine lv_iadd hx hb dL_law_528 ?_
  refine topE (z := nI (j + 2)) (nI_add j 2) ?_
  refine va_sld hx hb hX hbl hbA hJ.2.2.2 (vp_in_nI (by omega) (by omega)) dL_law_529 ?_
  refine topE (z := xs (j + 2)) (by rw [nI_clamp (by omega)]) ?_
  refine rcVi (As := [.int (xs (j + 1)), .int (xs (j + 2))]) (rest := [.int _]) hx hb hml hown hts hKK hJ.sw.1 (c_X4_close l D cI cB cS q_n6 q_m1 (xs (j + 1)) (xs (j + 2))) (cwV2 2 hts kw_451 kw_6 kw_448 kw_449 kw_450 rfl rfl (by decide +kernel) ⟨Nat.le_of_ble_eq_true rfl, Nat.le_of_ble_eq_true rfl⟩) 0 rfl rfl rfl rfl hl.1 rfl (Nat.le_of_ble_eq_true rfl) hcl dL_law_530 ?_
  refine lv_icmp_eq (tgt := 776) hx hb dL_law_533 (by decide) (fun _ => ?_) (fun h => absurd (by rw [q_b4, q_m6]; exact close_eq q_n6 q_rows) h)
  exact kk _ _ _ _ _ _ _ _ _ _ _ _ _ _ _ _ (LI_same hI) hJ
set_option maxHeartbeats 1000000 in
theorem arm_toSand {p : Program} {l : Launch} {e : Env} {s : State} {m : MethodId} {args : Array Value} {below : List Frame} {meth : Method} {c : Code} {D : va_G} {cI cB cS : ClassId} {H : Heap} {locs : List Loc} {cells slots : Nat} {Q : State → Prop} {b L : Nat} {xs : Nat → Int32} {N j : Nat} {B A : Nat → Nat} {IB IM : Nat → Int32} {J : Nat → Int64} {FB FM : Nat → Nat → Int32} {n fd sz w lv kl kn kw kf ks vs : Nat} {ls : Array Slot} (hx : p.tables.exec = Jvm.exec) (hb : c.code = cL_law) (hml : c.maxLocals = 4) (hown : s.vm.findClass RL = some m.cls) (hts : ∀ w ∈ wsG, w.before args s = true) (hKK : KK D (TYS cI cB cS) s) (hSF : SF ks vs (fun q => s.heap.size ≤ q) s s.heap) (hX : va_X b L xs s s.heap) (hbl : b < s.heap.size) (hj : j + 5 ≤ L) (hL : L ≤ 2560) (hN1 : N < 1000000) (hcl : cells + 0 ≤ room_1.cells ∧ slots + 0 ≤ room_1.slots) (hI : LI N IB FB IM FM n fd sz w lv kl kn kw kf) (hJ : JW D (fun q => s.heap.size ≤ q) s.heap (wsB B cI cS IB FB) (wsM A cI cB IM J FM) H locs) (hl : lv_has ls 4 [(0, .ref b), (1, .ref (B 0)), (2, .ref (A 0)), (3, .int (nI j))])
    (kk : ∀ (H1 : Heap) (locs1 : List Loc) (IB1 IM1 : Nat → Int32) (J1 : Nat → Int64) (FB1 FM1 : Nat → Nat → Int32) (n1 fd1 sz1 w1 lv1 kl1 kn1 kw1 kf1 : Nat), LI (N + 1) IB1 FB1 IM1 FM1 n1 fd1 sz1 w1 lv1 kl1 kn1 kw1 kf1 → JW D (fun q => s.heap.size ≤ q) s.heap (wsB B cI cS IB1 FB1) (wsM A cI cB IM1 J1 FM1) H1 locs1 → W p l e room_1 s m args below meth c H1 locs1 cells slots Q (F0 m 776 ls [])) : W p l e room_1 s m args below meth c H locs cells slots Q (F0 m 538 ls []) := by
  obtain ⟨q_b3, q_m1, q_n6, q_b4, q_m6, q_ww, q_ev, q_b6, q_m9, q_f6, q_b2, q_m13, q_s21, q_b1, q_m0, q_lN, q_b7, q_m20, q_kn6, q_b8, q_m21, q_kww, q_kev, q_b10, q_m23, q_kf6, q_m19, q_kle, q_kept, q_rows, q_ink, q_fnd, q_kink, q_kfnd, q_pg⟩ := id hI
  have hbA : ¬ s.heap.size ≤ b := Nat.not_le.mpr hbl
  refine lv_aload_n hx hb dL_law_538 rfl (lv_at hl 1 rfl) ?_
  refine lv_aload_n hx hb dL_law_539 rfl (lv_at hl 0 rfl) ?_
  refine lv_iload_n hx hb dL_law_540 rfl (lv_at hl 3 rfl) ?_
  refine lv_iconst (v := (1 : Int32)) hx hb dL_law_541 (by decide) ?_
  refine lv_iadd hx hb dL_law_542 ?_
  refine topE (z := nI (j + 1)) (nI_add j 1) ?_
  refine va_sld hx hb hX hbl hbA hJ.2.2.2 (vp_in_nI (by omega) (by omega)) dL_law_543 ?_
  refine topE (z := xs (j + 1)) (by rw [nI_clamp (by omega)]) ?_
  refine lv_aload_n hx hb dL_law_544 rfl (lv_at hl 0 rfl) ?_
  refine lv_iload_n hx hb dL_law_545 rfl (lv_at hl 3 rfl) ?_
  refine lv_iconst (v := (2 : Int32)) hx hb dL_law_546 (by decide) ?_
  refine lv_iadd hx hb dL_law_547 ?_
  refine topE (z := nI (j + 2)) (nI_add j 2) ?_
  refine va_sld hx hb hX hbl hbA hJ.2.2.2 (vp_in_nI (by omega) (by omega)) dL_law_548 ?_
  refine topE (z := xs (j + 2)) (by rw [nI_clamp (by omega)]) ?_
  refine lv_aload_n hx hb dL_law_549 rfl (lv_at hl 0 rfl) ?_
  refine lv_iload_n hx hb dL_law_550 rfl (lv_at hl 3 rfl) ?_
  refine lv_iconst (v := (3 : Int32)) hx hb dL_law_551 (by decide) ?_
  refine lv_iadd hx hb dL_law_552 ?_
  refine topE (z := nI (j + 3)) (nI_add j 3) ?_
  refine va_sld hx hb hX hbl hbA hJ.2.2.2 (vp_in_nI (by omega) (by omega)) dL_law_553 ?_
  refine topE (z := xs (j + 3)) (by rw [nI_clamp (by omega)]) ?_
  refine rcVi (As := [.int (xs (j + 1)), .int (xs (j + 2)), .int (xs (j + 3))]) (rest := []) hx hb hml hown hts hKK hJ.1 (c_X3_toSand l D cI cB cS q_n6 q_b3 (xs (j + 1)) (xs (j + 2)) (xs (j + 3))) (cwV2 3 hts kw_459 kw_3 kw_456 kw_457 kw_458 rfl rfl (by decide +kernel) ⟨Nat.le_of_ble_eq_true rfl, Nat.le_of_ble_eq_true rfl⟩) 0 rfl rfl rfl rfl hl.1 rfl (Nat.le_of_ble_eq_true rfl) hcl dL_law_554 ?_
  refine lv_aload_n hx hb dL_law_557 rfl (lv_at hl 2 rfl) ?_
  refine lv_aload_n hx hb dL_law_558 rfl (lv_at hl 0 rfl) ?_
  refine lv_iload_n hx hb dL_law_559 rfl (lv_at hl 3 rfl) ?_
  refine lv_iconst (v := (1 : Int32)) hx hb dL_law_560 (by decide) ?_
  refine lv_iadd hx hb dL_law_561 ?_
  refine topE (z := nI (j + 1)) (nI_add j 1) ?_
  refine va_sld hx hb hX hbl hbA hJ.2.2.2 (vp_in_nI (by omega) (by omega)) dL_law_562 ?_
  refine topE (z := xs (j + 1)) (by rw [nI_clamp (by omega)]) ?_
  refine lv_aload_n hx hb dL_law_563 rfl (lv_at hl 0 rfl) ?_
  refine lv_iload_n hx hb dL_law_564 rfl (lv_at hl 3 rfl) ?_
  refine lv_iconst (v := (2 : Int32)) hx hb dL_law_565 (by decide) ?_
  refine lv_iadd hx hb dL_law_566 ?_
  refine topE (z := nI (j + 2)) (nI_add j 2) ?_
  refine va_sld hx hb hX hbl hbA hJ.2.2.2 (vp_in_nI (by omega) (by omega)) dL_law_567 ?_
  refine topE (z := xs (j + 2)) (by rw [nI_clamp (by omega)]) ?_
  refine lv_aload_n hx hb dL_law_568 rfl (lv_at hl 0 rfl) ?_
  refine lv_iload_n hx hb dL_law_569 rfl (lv_at hl 3 rfl) ?_
  refine lv_iconst (v := (3 : Int32)) hx hb dL_law_570 (by decide) ?_
  refine lv_iadd hx hb dL_law_571 ?_
  refine topE (z := nI (j + 3)) (nI_add j 3) ?_
  refine va_sld hx hb hX hbl hbA hJ.2.2.2 (vp_in_nI (by omega) (by omega)) dL_law_572 ?_
  refine topE (z := xs (j + 3)) (by rw [nI_clamp (by omega)]) ?_
  refine jcVi (As := [.int (xs (j + 1)), .int (xs (j + 2)), .int (xs (j + 3))]) (rest := [.int _]) hx hb hml hown hts hKK hJ.sw (by first | rfl | (split <;> rfl)) (c_X4_toSand l D cI cB cS q_n6 q_m1 (xs (j + 1)) (xs (j + 2)) (xs (j + 3))) (cwV2 3 hts kw_475 kw_6 kw_472 kw_473 kw_474 rfl rfl (by decide +kernel) ⟨Nat.le_of_ble_eq_true rfl, Nat.le_of_ble_eq_true rfl⟩) 0 rfl rfl rfl rfl hl.1 rfl (Nat.le_of_ble_eq_true rfl) hcl dL_law_573 (fun H locs hJ => ?_)
  have hJ := hJ.sw
  refine lv_icmp_eq (tgt := 776) hx hb dL_law_576 (by decide) (fun _ => ?_) (fun h => absurd (by rw [q_b4, q_m6]; exact toSand_eq q_n6 q_ww q_rows) h)
  exact kk _ _ _ _ _ _ _ _ _ _ _ _ _ _ _ _ (LI_same hI) hJ
set_option maxHeartbeats 1000000 in
theorem arm_found {p : Program} {l : Launch} {e : Env} {s : State} {m : MethodId} {args : Array Value} {below : List Frame} {meth : Method} {c : Code} {D : va_G} {cI cB cS : ClassId} {H : Heap} {locs : List Loc} {cells slots : Nat} {Q : State → Prop} {b L : Nat} {xs : Nat → Int32} {N j : Nat} {B A : Nat → Nat} {IB IM : Nat → Int32} {J : Nat → Int64} {FB FM : Nat → Nat → Int32} {n fd sz w lv kl kn kw kf ks vs : Nat} {ls : Array Slot} (hx : p.tables.exec = Jvm.exec) (hb : c.code = cL_law) (hml : c.maxLocals = 4) (hown : s.vm.findClass RL = some m.cls) (hts : ∀ w ∈ wsG, w.before args s = true) (hKK : KK D (TYS cI cB cS) s) (hSF : SF ks vs (fun q => s.heap.size ≤ q) s s.heap) (hX : va_X b L xs s s.heap) (hbl : b < s.heap.size) (hj : j + 5 ≤ L) (hL : L ≤ 2560) (hN1 : N < 1000000) (hcl : cells + 0 ≤ room_1.cells ∧ slots + 0 ≤ room_1.slots) (hI : LI N IB FB IM FM n fd sz w lv kl kn kw kf) (hJ : JW D (fun q => s.heap.size ≤ q) s.heap (wsB B cI cS IB FB) (wsM A cI cB IM J FM) H locs) (hl : lv_has ls 4 [(0, .ref b), (1, .ref (B 0)), (2, .ref (A 0)), (3, .int (nI j))])
    (kk : ∀ (H1 : Heap) (locs1 : List Loc) (IB1 IM1 : Nat → Int32) (J1 : Nat → Int64) (FB1 FM1 : Nat → Nat → Int32) (n1 fd1 sz1 w1 lv1 kl1 kn1 kw1 kf1 : Nat), LI (N + 1) IB1 FB1 IM1 FM1 n1 fd1 sz1 w1 lv1 kl1 kn1 kw1 kf1 → JW D (fun q => s.heap.size ≤ q) s.heap (wsB B cI cS IB1 FB1) (wsM A cI cB IM1 J1 FM1) H1 locs1 → W p l e room_1 s m args below meth c H1 locs1 cells slots Q (F0 m 776 ls [])) : W p l e room_1 s m args below meth c H locs cells slots Q (F0 m 581 ls []) := by
  obtain ⟨q_b3, q_m1, q_n6, q_b4, q_m6, q_ww, q_ev, q_b6, q_m9, q_f6, q_b2, q_m13, q_s21, q_b1, q_m0, q_lN, q_b7, q_m20, q_kn6, q_b8, q_m21, q_kww, q_kev, q_b10, q_m23, q_kf6, q_m19, q_kle, q_kept, q_rows, q_ink, q_fnd, q_kink, q_kfnd, q_pg⟩ := id hI
  have hbA : ¬ s.heap.size ≤ b := Nat.not_le.mpr hbl
  refine lv_aload_n hx hb dL_law_581 rfl (lv_at hl 1 rfl) ?_
  refine lv_aload_n hx hb dL_law_582 rfl (lv_at hl 0 rfl) ?_
  refine lv_iload_n hx hb dL_law_583 rfl (lv_at hl 3 rfl) ?_
  refine lv_iconst (v := (1 : Int32)) hx hb dL_law_584 (by decide) ?_
  refine lv_iadd hx hb dL_law_585 ?_
  refine topE (z := nI (j + 1)) (nI_add j 1) ?_
  refine va_sld hx hb hX hbl hbA hJ.2.2.2 (vp_in_nI (by omega) (by omega)) dL_law_586 ?_
  refine topE (z := xs (j + 1)) (by rw [nI_clamp (by omega)]) ?_
  refine lv_aload_n hx hb dL_law_587 rfl (lv_at hl 0 rfl) ?_
  refine lv_iload_n hx hb dL_law_588 rfl (lv_at hl 3 rfl) ?_
  refine lv_iconst (v := (2 : Int32)) hx hb dL_law_589 (by decide) ?_
  refine lv_iadd hx hb dL_law_590 ?_
  refine topE (z := nI (j + 2)) (nI_add j 2) ?_
  refine va_sld hx hb hX hbl hbA hJ.2.2.2 (vp_in_nI (by omega) (by omega)) dL_law_591 ?_
  refine topE (z := xs (j + 2)) (by rw [nI_clamp (by omega)]) ?_
  refine lv_aload_n hx hb dL_law_592 rfl (lv_at hl 0 rfl) ?_
  refine lv_iload_n hx hb dL_law_593 rfl (lv_at hl 3 rfl) ?_
  refine lv_iconst (v := (3 : Int32)) hx hb dL_law_594 (by decide) ?_
  refine lv_iadd hx hb dL_law_595 ?_
  refine topE (z := nI (j + 3)) (nI_add j 3) ?_
  refine va_sld hx hb hX hbl hbA hJ.2.2.2 (vp_in_nI (by omega) (by omega)) dL_law_596 ?_
  refine topE (z := xs (j + 3)) (by rw [nI_clamp (by omega)]) ?_
  refine jcVi (As := [.int (xs (j + 1)), .int (xs (j + 2)), .int (xs (j + 3))]) (rest := []) hx hb hml hown hts hKK hJ (by first | rfl | (split <;> rfl)) (c_X3_found l D cI cB cS q_n6 q_b3 q_f6 q_b6 (xs (j + 1)) (xs (j + 2)) (xs (j + 3))) (cwV2 3 hts kw_490 kw_3 kw_487 kw_488 kw_489 rfl rfl (by decide +kernel) ⟨Nat.le_of_ble_eq_true rfl, Nat.le_of_ble_eq_true rfl⟩) 0 rfl rfl rfl rfl hl.1 rfl (Nat.le_of_ble_eq_true rfl) hcl dL_law_597 (fun H locs hJ => ?_)
  refine lv_aload_n hx hb dL_law_600 rfl (lv_at hl 2 rfl) ?_
  refine lv_aload_n hx hb dL_law_601 rfl (lv_at hl 0 rfl) ?_
  refine lv_iload_n hx hb dL_law_602 rfl (lv_at hl 3 rfl) ?_
  refine lv_iconst (v := (1 : Int32)) hx hb dL_law_603 (by decide) ?_
  refine lv_iadd hx hb dL_law_604 ?_
  refine topE (z := nI (j + 1)) (nI_add j 1) ?_
  refine va_sld hx hb hX hbl hbA hJ.2.2.2 (vp_in_nI (by omega) (by omega)) dL_law_605 ?_
  refine topE (z := xs (j + 1)) (by rw [nI_clamp (by omega)]) ?_
  refine lv_aload_n hx hb dL_law_606 rfl (lv_at hl 0 rfl) ?_
  refine lv_iload_n hx hb dL_law_607 rfl (lv_at hl 3 rfl) ?_
  refine lv_iconst (v := (2 : Int32)) hx hb dL_law_608 (by decide) ?_
  refine lv_iadd hx hb dL_law_609 ?_
  refine topE (z := nI (j + 2)) (nI_add j 2) ?_
  refine va_sld hx hb hX hbl hbA hJ.2.2.2 (vp_in_nI (by omega) (by omega)) dL_law_610 ?_
  refine topE (z := xs (j + 2)) (by rw [nI_clamp (by omega)]) ?_
  refine lv_aload_n hx hb dL_law_611 rfl (lv_at hl 0 rfl) ?_
  refine lv_iload_n hx hb dL_law_612 rfl (lv_at hl 3 rfl) ?_
  refine lv_iconst (v := (3 : Int32)) hx hb dL_law_613 (by decide) ?_
  refine lv_iadd hx hb dL_law_614 ?_
  refine topE (z := nI (j + 3)) (nI_add j 3) ?_
  refine va_sld hx hb hX hbl hbA hJ.2.2.2 (vp_in_nI (by omega) (by omega)) dL_law_615 ?_
  refine topE (z := xs (j + 3)) (by rw [nI_clamp (by omega)]) ?_
  refine jcVi (As := [.int (xs (j + 1)), .int (xs (j + 2)), .int (xs (j + 3))]) (rest := [.int _]) hx hb hml hown hts hKK hJ.sw (by first | rfl | (split <;> rfl)) (c_X4_found l D cI cB cS q_n6 q_m1 q_f6 q_m9 (xs (j + 1)) (xs (j + 2)) (xs (j + 3))) (cwV2 3 hts kw_498 kw_6 kw_495 kw_496 kw_497 rfl rfl (by decide +kernel) ⟨Nat.le_of_ble_eq_true rfl, Nat.le_of_ble_eq_true rfl⟩) 0 rfl rfl rfl rfl hl.1 rfl (Nat.le_of_ble_eq_true rfl) hcl dL_law_616 (fun H locs hJ => ?_)
  have hJ := hJ.sw
  refine lv_icmp_eq (tgt := 776) hx hb dL_law_619 (by decide) (fun _ => ?_) (fun h => absurd rfl h)
  by_cases h : 0 < n ∧ okCell (xs (j + 1)) ∧ okMin (xs (j + 2)) ∧ okMuch (xs (j + 3)) ∧ fd < 6
  · rw [if_pos h, if_pos h] at hJ
    exact kk _ _ _ _ _ _ _ _ _ _ _ _ _ _ _ _ (LI_found h.2.2.2.2 hI) hJ
  · rw [if_neg h, if_neg h] at hJ
    exact kk _ _ _ _ _ _ _ _ _ _ _ _ _ _ _ _ (LI_same hI) hJ
set_option maxHeartbeats 1000000 in
theorem arm_forget {p : Program} {l : Launch} {e : Env} {s : State} {m : MethodId} {args : Array Value} {below : List Frame} {meth : Method} {c : Code} {D : va_G} {cI cB cS : ClassId} {H : Heap} {locs : List Loc} {cells slots : Nat} {Q : State → Prop} {b L : Nat} {xs : Nat → Int32} {N j : Nat} {B A : Nat → Nat} {IB IM : Nat → Int32} {J : Nat → Int64} {FB FM : Nat → Nat → Int32} {n fd sz w lv kl kn kw kf ks vs : Nat} {ls : Array Slot} (hx : p.tables.exec = Jvm.exec) (hb : c.code = cL_law) (hml : c.maxLocals = 4) (hown : s.vm.findClass RL = some m.cls) (hts : ∀ w ∈ wsG, w.before args s = true) (hKK : KK D (TYS cI cB cS) s) (hSF : SF ks vs (fun q => s.heap.size ≤ q) s s.heap) (hX : va_X b L xs s s.heap) (hbl : b < s.heap.size) (hj : j + 5 ≤ L) (hL : L ≤ 2560) (hN1 : N < 1000000) (hcl : cells + 0 ≤ room_1.cells ∧ slots + 0 ≤ room_1.slots) (hI : LI N IB FB IM FM n fd sz w lv kl kn kw kf) (hJ : JW D (fun q => s.heap.size ≤ q) s.heap (wsB B cI cS IB FB) (wsM A cI cB IM J FM) H locs) (hl : lv_has ls 4 [(0, .ref b), (1, .ref (B 0)), (2, .ref (A 0)), (3, .int (nI j))])
    (kk : ∀ (H1 : Heap) (locs1 : List Loc) (IB1 IM1 : Nat → Int32) (J1 : Nat → Int64) (FB1 FM1 : Nat → Nat → Int32) (n1 fd1 sz1 w1 lv1 kl1 kn1 kw1 kf1 : Nat), LI (N + 1) IB1 FB1 IM1 FM1 n1 fd1 sz1 w1 lv1 kl1 kn1 kw1 kf1 → JW D (fun q => s.heap.size ≤ q) s.heap (wsB B cI cS IB1 FB1) (wsM A cI cB IM1 J1 FM1) H1 locs1 → W p l e room_1 s m args below meth c H1 locs1 cells slots Q (F0 m 776 ls [])) : W p l e room_1 s m args below meth c H locs cells slots Q (F0 m 624 ls []) := by
  obtain ⟨q_b3, q_m1, q_n6, q_b4, q_m6, q_ww, q_ev, q_b6, q_m9, q_f6, q_b2, q_m13, q_s21, q_b1, q_m0, q_lN, q_b7, q_m20, q_kn6, q_b8, q_m21, q_kww, q_kev, q_b10, q_m23, q_kf6, q_m19, q_kle, q_kept, q_rows, q_ink, q_fnd, q_kink, q_kfnd, q_pg⟩ := id hI
  have hbA : ¬ s.heap.size ≤ b := Nat.not_le.mpr hbl
  refine lv_aload_n hx hb dL_law_624 rfl (lv_at hl 1 rfl) ?_
  refine jcVi (As := []) (rest := []) hx hb hml hown hts hKK hJ (by first | rfl | (split <;> rfl)) (c_X3_forget l D cI cB cS  ) (cwV2 0 hts kw_502 kw_3 kw_499 kw_500 kw_501 rfl rfl (by decide +kernel) ⟨Nat.le_of_ble_eq_true rfl, Nat.le_of_ble_eq_true rfl⟩) 0 rfl rfl rfl rfl hl.1 rfl (Nat.le_of_ble_eq_true rfl) hcl dL_law_625 (fun H locs hJ => ?_)
  refine lv_aload_n hx hb dL_law_628 rfl (lv_at hl 2 rfl) ?_
  refine jcVi (As := []) (rest := [.int _]) hx hb hml hown hts hKK hJ.sw (by first | rfl | (split <;> rfl)) (c_X4_forget l D cI cB cS  ) (cwV2 0 hts kw_506 kw_6 kw_503 kw_504 kw_505 rfl rfl (by decide +kernel) ⟨Nat.le_of_ble_eq_true rfl, Nat.le_of_ble_eq_true rfl⟩) 0 rfl rfl rfl rfl hl.1 rfl (Nat.le_of_ble_eq_true rfl) hcl dL_law_629 (fun H locs hJ => ?_)
  have hJ := hJ.sw
  refine lv_icmp_eq (tgt := 776) hx hb dL_law_632 (by decide) (fun _ => ?_) (fun h => absurd (q_b6.trans q_m9.symm) h)
  exact kk _ _ _ _ _ _ _ _ _ _ _ _ _ _ _ _ (LI_forget hI) hJ
set_option maxHeartbeats 1000000 in
theorem arm_look {p : Program} {l : Launch} {e : Env} {s : State} {m : MethodId} {args : Array Value} {below : List Frame} {meth : Method} {c : Code} {D : va_G} {cI cB cS : ClassId} {H : Heap} {locs : List Loc} {cells slots : Nat} {Q : State → Prop} {b L : Nat} {xs : Nat → Int32} {N j : Nat} {B A : Nat → Nat} {IB IM : Nat → Int32} {J : Nat → Int64} {FB FM : Nat → Nat → Int32} {n fd sz w lv kl kn kw kf ks vs : Nat} {ls : Array Slot} (hx : p.tables.exec = Jvm.exec) (hb : c.code = cL_law) (hml : c.maxLocals = 4) (hown : s.vm.findClass RL = some m.cls) (hts : ∀ w ∈ wsG, w.before args s = true) (hKK : KK D (TYS cI cB cS) s) (hSF : SF ks vs (fun q => s.heap.size ≤ q) s s.heap) (hX : va_X b L xs s s.heap) (hbl : b < s.heap.size) (hj : j + 5 ≤ L) (hL : L ≤ 2560) (hN1 : N < 1000000) (hcl : cells + 0 ≤ room_1.cells ∧ slots + 0 ≤ room_1.slots) (hI : LI N IB FB IM FM n fd sz w lv kl kn kw kf) (hJ : JW D (fun q => s.heap.size ≤ q) s.heap (wsB B cI cS IB FB) (wsM A cI cB IM J FM) H locs) (hl : lv_has ls 4 [(0, .ref b), (1, .ref (B 0)), (2, .ref (A 0)), (3, .int (nI j))])
    (kk : ∀ (H1 : Heap) (locs1 : List Loc) (IB1 IM1 : Nat → Int32) (J1 : Nat → Int64) (FB1 FM1 : Nat → Nat → Int32) (n1 fd1 sz1 w1 lv1 kl1 kn1 kw1 kf1 : Nat), LI (N + 1) IB1 FB1 IM1 FM1 n1 fd1 sz1 w1 lv1 kl1 kn1 kw1 kf1 → JW D (fun q => s.heap.size ≤ q) s.heap (wsB B cI cS IB1 FB1) (wsM A cI cB IM1 J1 FM1) H1 locs1 → W p l e room_1 s m args below meth c H1 locs1 cells slots Q (F0 m 776 ls [])) : W p l e room_1 s m args below meth c H locs cells slots Q (F0 m 637 ls []) := by
  obtain ⟨q_b3, q_m1, q_n6, q_b4, q_m6, q_ww, q_ev, q_b6, q_m9, q_f6, q_b2, q_m13, q_s21, q_b1, q_m0, q_lN, q_b7, q_m20, q_kn6, q_b8, q_m21, q_kww, q_kev, q_b10, q_m23, q_kf6, q_m19, q_kle, q_kept, q_rows, q_ink, q_fnd, q_kink, q_kfnd, q_pg⟩ := id hI
  have hbA : ¬ s.heap.size ≤ b := Nat.not_le.mpr hbl
  refine lv_aload_n hx hb dL_law_637 rfl (lv_at hl 1 rfl) ?_
  refine lv_aload_n hx hb dL_law_638 rfl (lv_at hl 0 rfl) ?_
  refine lv_iload_n hx hb dL_law_639 rfl (lv_at hl 3 rfl) ?_
  refine lv_iconst (v := (1 : Int32)) hx hb dL_law_640 (by decide) ?_
  refine lv_iadd hx hb dL_law_641 ?_
  refine topE (z := nI (j + 1)) (nI_add j 1) ?_
  refine va_sld hx hb hX hbl hbA hJ.2.2.2 (vp_in_nI (by omega) (by omega)) dL_law_642 ?_
  refine topE (z := xs (j + 1)) (by rw [nI_clamp (by omega)]) ?_
  refine lv_aload_n hx hb dL_law_643 rfl (lv_at hl 0 rfl) ?_
  refine lv_iload_n hx hb dL_law_644 rfl (lv_at hl 3 rfl) ?_
  refine lv_iconst (v := (2 : Int32)) hx hb dL_law_645 (by decide) ?_
  refine lv_iadd hx hb dL_law_646 ?_
  refine topE (z := nI (j + 2)) (nI_add j 2) ?_
  refine va_sld hx hb hX hbl hbA hJ.2.2.2 (vp_in_nI (by omega) (by omega)) dL_law_647 ?_
  refine topE (z := xs (j + 2)) (by rw [nI_clamp (by omega)]) ?_
  refine jcVi (As := [.int (xs (j + 1)), .int (xs (j + 2))]) (rest := []) hx hb hml hown hts hKK hJ (by first | rfl | (split <;> rfl)) (c_X3_look l D cI cB cS q_n6 q_b3 q_f6 q_b6 (xs (j + 1)) (xs (j + 2))) (cwV2 2 hts kw_510 kw_3 kw_507 kw_508 kw_509 rfl rfl (by decide +kernel) ⟨Nat.le_of_ble_eq_true rfl, Nat.le_of_ble_eq_true rfl⟩) 0 rfl rfl rfl rfl hl.1 rfl (Nat.le_of_ble_eq_true rfl) hcl dL_law_648 (fun H locs hJ => ?_)
  refine lv_aload_n hx hb dL_law_651 rfl (lv_at hl 2 rfl) ?_
  refine lv_aload_n hx hb dL_law_652 rfl (lv_at hl 0 rfl) ?_
  refine lv_iload_n hx hb dL_law_653 rfl (lv_at hl 3 rfl) ?_
  refine lv_iconst (v := (1 : Int32)) hx hb dL_law_654 (by decide) ?_
  refine lv_iadd hx hb dL_law_655 ?_
  refine topE (z := nI (j + 1)) (nI_add j 1) ?_
  refine va_sld hx hb hX hbl hbA hJ.2.2.2 (vp_in_nI (by omega) (by omega)) dL_law_656 ?_
  refine topE (z := xs (j + 1)) (by rw [nI_clamp (by omega)]) ?_
  refine lv_aload_n hx hb dL_law_657 rfl (lv_at hl 0 rfl) ?_
  refine lv_iload_n hx hb dL_law_658 rfl (lv_at hl 3 rfl) ?_
  refine lv_iconst (v := (2 : Int32)) hx hb dL_law_659 (by decide) ?_
  refine lv_iadd hx hb dL_law_660 ?_
  refine topE (z := nI (j + 2)) (nI_add j 2) ?_
  refine va_sld hx hb hX hbl hbA hJ.2.2.2 (vp_in_nI (by omega) (by omega)) dL_law_661 ?_
  refine topE (z := xs (j + 2)) (by rw [nI_clamp (by omega)]) ?_
  refine jcVi (As := [.int (xs (j + 1)), .int (xs (j + 2))]) (rest := [.int _]) hx hb hml hown hts hKK hJ.sw (by first | rfl | (split <;> rfl)) (c_X4_look l D cI cB cS q_n6 q_m1 q_f6 q_m9 (xs (j + 1)) (xs (j + 2))) (cwV2 2 hts kw_523 kw_6 kw_520 kw_521 kw_522 rfl rfl (by decide +kernel) ⟨Nat.le_of_ble_eq_true rfl, Nat.le_of_ble_eq_true rfl⟩) 0 rfl rfl rfl rfl hl.1 rfl (Nat.le_of_ble_eq_true rfl) hcl dL_law_662 (fun H locs hJ => ?_)
  have hJ := hJ.sw
  refine lv_icmp_eq (tgt := 776) hx hb dL_law_665 (by decide) (fun _ => ?_) (fun h => absurd (by rw [q_b4, q_m6]; exact look_eq q_n6 q_f6 q_rows q_fnd) h)
  by_cases h : okS n (xs (j + 1)) ∧ okMin (xs (j + 2))
  · rw [if_pos h] at hJ
    exact kk _ _ _ _ _ _ _ _ _ _ _ _ _ _ _ _ (LI_look hI) hJ
  · rw [if_neg h] at hJ
    exact kk _ _ _ _ _ _ _ _ _ _ _ _ _ _ _ _ (LI_lookB hI) hJ
set_option maxHeartbeats 1000000 in
theorem arm_years {p : Program} {l : Launch} {e : Env} {s : State} {m : MethodId} {args : Array Value} {below : List Frame} {meth : Method} {c : Code} {D : va_G} {cI cB cS : ClassId} {H : Heap} {locs : List Loc} {cells slots : Nat} {Q : State → Prop} {b L : Nat} {xs : Nat → Int32} {N j : Nat} {B A : Nat → Nat} {IB IM : Nat → Int32} {J : Nat → Int64} {FB FM : Nat → Nat → Int32} {n fd sz w lv kl kn kw kf ks vs : Nat} {ls : Array Slot} (hx : p.tables.exec = Jvm.exec) (hb : c.code = cL_law) (hml : c.maxLocals = 4) (hown : s.vm.findClass RL = some m.cls) (hts : ∀ w ∈ wsG, w.before args s = true) (hKK : KK D (TYS cI cB cS) s) (hSF : SF ks vs (fun q => s.heap.size ≤ q) s s.heap) (hX : va_X b L xs s s.heap) (hbl : b < s.heap.size) (hj : j + 5 ≤ L) (hL : L ≤ 2560) (hN1 : N < 1000000) (hcl : cells + 0 ≤ room_1.cells ∧ slots + 0 ≤ room_1.slots) (hI : LI N IB FB IM FM n fd sz w lv kl kn kw kf) (hJ : JW D (fun q => s.heap.size ≤ q) s.heap (wsB B cI cS IB FB) (wsM A cI cB IM J FM) H locs) (hl : lv_has ls 4 [(0, .ref b), (1, .ref (B 0)), (2, .ref (A 0)), (3, .int (nI j))])
    (kk : ∀ (H1 : Heap) (locs1 : List Loc) (IB1 IM1 : Nat → Int32) (J1 : Nat → Int64) (FB1 FM1 : Nat → Nat → Int32) (n1 fd1 sz1 w1 lv1 kl1 kn1 kw1 kf1 : Nat), LI (N + 1) IB1 FB1 IM1 FM1 n1 fd1 sz1 w1 lv1 kl1 kn1 kw1 kf1 → JW D (fun q => s.heap.size ≤ q) s.heap (wsB B cI cS IB1 FB1) (wsM A cI cB IM1 J1 FM1) H1 locs1 → W p l e room_1 s m args below meth c H1 locs1 cells slots Q (F0 m 776 ls [])) : W p l e room_1 s m args below meth c H locs cells slots Q (F0 m 670 ls []) := by
  obtain ⟨q_b3, q_m1, q_n6, q_b4, q_m6, q_ww, q_ev, q_b6, q_m9, q_f6, q_b2, q_m13, q_s21, q_b1, q_m0, q_lN, q_b7, q_m20, q_kn6, q_b8, q_m21, q_kww, q_kev, q_b10, q_m23, q_kf6, q_m19, q_kle, q_kept, q_rows, q_ink, q_fnd, q_kink, q_kfnd, q_pg⟩ := id hI
  have hbA : ¬ s.heap.size ≤ b := Nat.not_le.mpr hbl
  refine lv_aload_n hx hb dL_law_670 rfl (lv_at hl 1 rfl) ?_
  refine lv_aload_n hx hb dL_law_671 rfl (lv_at hl 0 rfl) ?_
  refine lv_iload_n hx hb dL_law_672 rfl (lv_at hl 3 rfl) ?_
  refine lv_iconst (v := (1 : Int32)) hx hb dL_law_673 (by decide) ?_
  refine lv_iadd hx hb dL_law_674 ?_
  refine topE (z := nI (j + 1)) (nI_add j 1) ?_
  refine va_sld hx hb hX hbl hbA hJ.2.2.2 (vp_in_nI (by omega) (by omega)) dL_law_675 ?_
  refine topE (z := xs (j + 1)) (by rw [nI_clamp (by omega)]) ?_
  refine lv_aload_n hx hb dL_law_676 rfl (lv_at hl 0 rfl) ?_
  refine lv_iload_n hx hb dL_law_677 rfl (lv_at hl 3 rfl) ?_
  refine lv_iconst (v := (2 : Int32)) hx hb dL_law_678 (by decide) ?_
  refine lv_iadd hx hb dL_law_679 ?_
  refine topE (z := nI (j + 2)) (nI_add j 2) ?_
  refine va_sld hx hb hX hbl hbA hJ.2.2.2 (vp_in_nI (by omega) (by omega)) dL_law_680 ?_
  refine topE (z := xs (j + 2)) (by rw [nI_clamp (by omega)]) ?_
  refine lv_aload_n hx hb dL_law_681 rfl (lv_at hl 0 rfl) ?_
  refine lv_iload_n hx hb dL_law_682 rfl (lv_at hl 3 rfl) ?_
  refine lv_iconst (v := (3 : Int32)) hx hb dL_law_683 (by decide) ?_
  refine lv_iadd hx hb dL_law_684 ?_
  refine topE (z := nI (j + 3)) (nI_add j 3) ?_
  refine va_sld hx hb hX hbl hbA hJ.2.2.2 (vp_in_nI (by omega) (by omega)) dL_law_685 ?_
  refine topE (z := xs (j + 3)) (by rw [nI_clamp (by omega)]) ?_
  refine jcVi (As := [.int (xs (j + 1)), .int (xs (j + 2)), .int (xs (j + 3))]) (rest := []) hx hb hml hown hts hKK hJ (by first | rfl | (split <;> rfl)) (c_X3_years l D cI cB cS q_n6 q_b3 (xs (j + 1)) (xs (j + 2)) (xs (j + 3))) (cwV2 3 hts kw_540 kw_3 kw_537 kw_538 kw_539 rfl rfl (by decide +kernel) ⟨Nat.le_of_ble_eq_true rfl, Nat.le_of_ble_eq_true rfl⟩) 0 rfl rfl rfl rfl hl.1 rfl (Nat.le_of_ble_eq_true rfl) hcl dL_law_686 (fun H locs hJ => ?_)
  refine lv_aload_n hx hb dL_law_689 rfl (lv_at hl 2 rfl) ?_
  refine lv_aload_n hx hb dL_law_690 rfl (lv_at hl 0 rfl) ?_
  refine lv_iload_n hx hb dL_law_691 rfl (lv_at hl 3 rfl) ?_
  refine lv_iconst (v := (1 : Int32)) hx hb dL_law_692 (by decide) ?_
  refine lv_iadd hx hb dL_law_693 ?_
  refine topE (z := nI (j + 1)) (nI_add j 1) ?_
  refine va_sld hx hb hX hbl hbA hJ.2.2.2 (vp_in_nI (by omega) (by omega)) dL_law_694 ?_
  refine topE (z := xs (j + 1)) (by rw [nI_clamp (by omega)]) ?_
  refine lv_aload_n hx hb dL_law_695 rfl (lv_at hl 0 rfl) ?_
  refine lv_iload_n hx hb dL_law_696 rfl (lv_at hl 3 rfl) ?_
  refine lv_iconst (v := (2 : Int32)) hx hb dL_law_697 (by decide) ?_
  refine lv_iadd hx hb dL_law_698 ?_
  refine topE (z := nI (j + 2)) (nI_add j 2) ?_
  refine va_sld hx hb hX hbl hbA hJ.2.2.2 (vp_in_nI (by omega) (by omega)) dL_law_699 ?_
  refine topE (z := xs (j + 2)) (by rw [nI_clamp (by omega)]) ?_
  refine lv_aload_n hx hb dL_law_700 rfl (lv_at hl 0 rfl) ?_
  refine lv_iload_n hx hb dL_law_701 rfl (lv_at hl 3 rfl) ?_
  refine lv_iconst (v := (3 : Int32)) hx hb dL_law_702 (by decide) ?_
  refine lv_iadd hx hb dL_law_703 ?_
  refine topE (z := nI (j + 3)) (nI_add j 3) ?_
  refine va_sld hx hb hX hbl hbA hJ.2.2.2 (vp_in_nI (by omega) (by omega)) dL_law_704 ?_
  refine topE (z := xs (j + 3)) (by rw [nI_clamp (by omega)]) ?_
  refine jcVi (As := [.int (xs (j + 1)), .int (xs (j + 2)), .int (xs (j + 3))]) (rest := [.int _]) hx hb hml hown hts hKK hJ.sw (by first | rfl | (split <;> rfl)) (c_X4_years l D cI cB cS q_n6 q_m1 (xs (j + 1)) (xs (j + 2)) (xs (j + 3))) (cwV2 3 hts kw_560 kw_6 kw_557 kw_558 kw_559 rfl rfl (by decide +kernel) ⟨Nat.le_of_ble_eq_true rfl, Nat.le_of_ble_eq_true rfl⟩) 0 rfl rfl rfl rfl hl.1 rfl (Nat.le_of_ble_eq_true rfl) hcl dL_law_705 (fun H locs hJ => ?_)
  have hJ := hJ.sw
  refine lv_icmp_eq (tgt := 776) hx hb dL_law_708 (by decide) (fun _ => ?_) (fun h => absurd (by rw [q_b4, q_m6]; exact years_eq q_n6 q_rows (fun c hc => by rw [rowN_in hc]; exact q_ink c hc)) h)
  by_cases h : okY (xs (j + 1)) (xs (j + 2)) (xs (j + 3)) ∧ 0 < n
  · rw [if_pos h, if_pos h] at hJ
    exact kk _ _ _ _ _ _ _ _ _ _ _ _ _ _ _ _ (LI_years hI) hJ
  · rw [if_neg h, if_neg h] at hJ
    exact kk _ _ _ _ _ _ _ _ _ _ _ _ _ _ _ _ (LI_same hI) hJ
set_option maxHeartbeats 1000000 in
theorem arm_image {p : Program} {l : Launch} {e : Env} {s : State} {m : MethodId} {args : Array Value} {below : List Frame} {meth : Method} {c : Code} {D : va_G} {cI cB cS : ClassId} {H : Heap} {locs : List Loc} {cells slots : Nat} {Q : State → Prop} {b L : Nat} {xs : Nat → Int32} {N j : Nat} {B A : Nat → Nat} {IB IM : Nat → Int32} {J : Nat → Int64} {FB FM : Nat → Nat → Int32} {n fd sz w lv kl kn kw kf ks vs : Nat} {ls : Array Slot} (hx : p.tables.exec = Jvm.exec) (hb : c.code = cL_law) (hml : c.maxLocals = 4) (hown : s.vm.findClass RL = some m.cls) (hts : ∀ w ∈ wsG, w.before args s = true) (hKK : KK D (TYS cI cB cS) s) (hSF : SF ks vs (fun q => s.heap.size ≤ q) s s.heap) (hX : va_X b L xs s s.heap) (hbl : b < s.heap.size) (hj : j + 5 ≤ L) (hL : L ≤ 2560) (hN1 : N < 1000000) (hcl : cells + 0 ≤ room_1.cells ∧ slots + 0 ≤ room_1.slots) (hI : LI N IB FB IM FM n fd sz w lv kl kn kw kf) (hJ : JW D (fun q => s.heap.size ≤ q) s.heap (wsB B cI cS IB FB) (wsM A cI cB IM J FM) H locs) (hl : lv_has ls 4 [(0, .ref b), (1, .ref (B 0)), (2, .ref (A 0)), (3, .int (nI j))])
    (kk : ∀ (H1 : Heap) (locs1 : List Loc) (IB1 IM1 : Nat → Int32) (J1 : Nat → Int64) (FB1 FM1 : Nat → Nat → Int32) (n1 fd1 sz1 w1 lv1 kl1 kn1 kw1 kf1 : Nat), LI (N + 1) IB1 FB1 IM1 FM1 n1 fd1 sz1 w1 lv1 kl1 kn1 kw1 kf1 → JW D (fun q => s.heap.size ≤ q) s.heap (wsB B cI cS IB1 FB1) (wsM A cI cB IM1 J1 FM1) H1 locs1 → W p l e room_1 s m args below meth c H1 locs1 cells slots Q (F0 m 776 ls [])) : W p l e room_1 s m args below meth c H locs cells slots Q (F0 m 713 ls []) := by
  obtain ⟨q_b3, q_m1, q_n6, q_b4, q_m6, q_ww, q_ev, q_b6, q_m9, q_f6, q_b2, q_m13, q_s21, q_b1, q_m0, q_lN, q_b7, q_m20, q_kn6, q_b8, q_m21, q_kww, q_kev, q_b10, q_m23, q_kf6, q_m19, q_kle, q_kept, q_rows, q_ink, q_fnd, q_kink, q_kfnd, q_pg⟩ := id hI
  have hbA : ¬ s.heap.size ≤ b := Nat.not_le.mpr hbl
  refine lv_aload_n hx hb dL_law_713 rfl (lv_at hl 1 rfl) ?_
  refine jcVi (As := []) (rest := []) hx hb hml hown hts hKK hJ (by first | rfl | (split <;> rfl)) (c_X3_image l D cI cB cS q_n6 q_b3 ) (cwV2 0 hts kw_585 kw_3 kw_582 kw_583 kw_584 rfl rfl (by decide +kernel) ⟨Nat.le_of_ble_eq_true rfl, Nat.le_of_ble_eq_true rfl⟩) 0 rfl rfl rfl rfl hl.1 rfl (Nat.le_of_ble_eq_true rfl) hcl dL_law_714 (fun H locs hJ => ?_)
  refine lv_aload_n hx hb dL_law_717 rfl (lv_at hl 2 rfl) ?_
  refine jcVi (As := []) (rest := [.int _]) hx hb hml hown hts hKK hJ.sw (by first | rfl | (split <;> rfl)) (c_X4_image l D cI cB cS q_n6 q_m1 ) (cwV2 0 hts kw_593 kw_6 kw_590 kw_591 kw_592 rfl rfl (by decide +kernel) ⟨Nat.le_of_ble_eq_true rfl, Nat.le_of_ble_eq_true rfl⟩) 0 rfl rfl rfl rfl hl.1 rfl (Nat.le_of_ble_eq_true rfl) hcl dL_law_718 (fun H locs hJ => ?_)
  have hJ := hJ.sw
  refine lv_icmp_eq (tgt := 776) hx hb dL_law_721 (by decide) (fun _ => ?_) (fun h => absurd (by rw [q_ev]) h)
  by_cases h : 0 < n
  · rw [if_pos h, if_pos h] at hJ
    exact kk _ _ _ _ _ _ _ _ _ _ _ _ _ _ _ _ (LI_image hN1 hI) hJ
  · rw [if_neg h, if_neg h] at hJ
    exact kk _ _ _ _ _ _ _ _ _ _ _ _ _ _ _ _ (LI_same hI) hJ
set_option maxHeartbeats 1000000 in
theorem arm_restore {p : Program} {l : Launch} {e : Env} {s : State} {m : MethodId} {args : Array Value} {below : List Frame} {meth : Method} {c : Code} {D : va_G} {cI cB cS : ClassId} {H : Heap} {locs : List Loc} {cells slots : Nat} {Q : State → Prop} {b L : Nat} {xs : Nat → Int32} {N j : Nat} {B A : Nat → Nat} {IB IM : Nat → Int32} {J : Nat → Int64} {FB FM : Nat → Nat → Int32} {n fd sz w lv kl kn kw kf ks vs : Nat} {ls : Array Slot} (hx : p.tables.exec = Jvm.exec) (hb : c.code = cL_law) (hml : c.maxLocals = 4) (hown : s.vm.findClass RL = some m.cls) (hts : ∀ w ∈ wsG, w.before args s = true) (hKK : KK D (TYS cI cB cS) s) (hSF : SF ks vs (fun q => s.heap.size ≤ q) s s.heap) (hX : va_X b L xs s s.heap) (hbl : b < s.heap.size) (hj : j + 5 ≤ L) (hL : L ≤ 2560) (hN1 : N < 1000000) (hcl : cells + 0 ≤ room_1.cells ∧ slots + 0 ≤ room_1.slots) (hI : LI N IB FB IM FM n fd sz w lv kl kn kw kf) (hJ : JW D (fun q => s.heap.size ≤ q) s.heap (wsB B cI cS IB FB) (wsM A cI cB IM J FM) H locs) (hl : lv_has ls 4 [(0, .ref b), (1, .ref (B 0)), (2, .ref (A 0)), (3, .int (nI j))])
    (kk : ∀ (H1 : Heap) (locs1 : List Loc) (IB1 IM1 : Nat → Int32) (J1 : Nat → Int64) (FB1 FM1 : Nat → Nat → Int32) (n1 fd1 sz1 w1 lv1 kl1 kn1 kw1 kf1 : Nat), LI (N + 1) IB1 FB1 IM1 FM1 n1 fd1 sz1 w1 lv1 kl1 kn1 kw1 kf1 → JW D (fun q => s.heap.size ≤ q) s.heap (wsB B cI cS IB1 FB1) (wsM A cI cB IM1 J1 FM1) H1 locs1 → W p l e room_1 s m args below meth c H1 locs1 cells slots Q (F0 m 776 ls [])) : W p l e room_1 s m args below meth c H locs cells slots Q (F0 m 726 ls []) := by
  obtain ⟨q_b3, q_m1, q_n6, q_b4, q_m6, q_ww, q_ev, q_b6, q_m9, q_f6, q_b2, q_m13, q_s21, q_b1, q_m0, q_lN, q_b7, q_m20, q_kn6, q_b8, q_m21, q_kww, q_kev, q_b10, q_m23, q_kf6, q_m19, q_kle, q_kept, q_rows, q_ink, q_fnd, q_kink, q_kfnd, q_pg⟩ := id hI
  have hbA : ¬ s.heap.size ≤ b := Nat.not_le.mpr hbl
  refine lv_aload_n hx hb dL_law_726 rfl (lv_at hl 1 rfl) ?_
  refine jcVi (As := []) (rest := []) hx hb hml hown hts hKK hJ (by first | rfl | (split <;> rfl)) (c_X3_restore l D cI cB cS  ) (cwV2 0 hts kw_603 kw_3 kw_600 kw_601 kw_602 rfl rfl (by decide +kernel) ⟨Nat.le_of_ble_eq_true rfl, Nat.le_of_ble_eq_true rfl⟩) 0 rfl rfl rfl rfl hl.1 rfl (Nat.le_of_ble_eq_true rfl) hcl dL_law_727 (fun H locs hJ => ?_)
  refine lv_aload_n hx hb dL_law_730 rfl (lv_at hl 2 rfl) ?_
  refine jcVi (As := []) (rest := [.int _]) hx hb hml hown hts hKK hJ.sw (by first | rfl | (split <;> rfl)) (c_X4_restore l D cI cB cS q_n6 q_m1 ) (cwV2 0 hts kw_607 kw_6 kw_604 kw_605 kw_606 rfl rfl (by decide +kernel) ⟨Nat.le_of_ble_eq_true rfl, Nat.le_of_ble_eq_true rfl⟩) 0 rfl rfl rfl rfl hl.1 rfl (Nat.le_of_ble_eq_true rfl) hcl dL_law_731 (fun H locs hJ => ?_)
  have hJ := hJ.sw
  refine lv_icmp_eq (tgt := 776) hx hb dL_law_734 (by decide) (fun _ => ?_) (fun h => absurd (if h : ¬ IB 0 = 0 then (by rw [if_pos h, if_pos ((LI_kept hN1 hI).mp h), q_kev]) else (by rw [if_neg h, if_neg (fun z => h ((LI_kept hN1 hI).mpr z))])) h)
  by_cases h : ¬ IB 0 = 0
  · rw [if_pos h, if_pos ((LI_kept hN1 hI).mp h)] at hJ
    exact kk _ _ _ _ _ _ _ _ _ _ _ _ _ _ _ _ (LI_restore hI) hJ
  · rw [if_neg h, if_neg (fun z => h ((LI_kept hN1 hI).mpr z))] at hJ
    exact kk _ _ _ _ _ _ _ _ _ _ _ _ _ _ _ _ (LI_same hI) hJ
set_option maxHeartbeats 1000000 in
theorem arm_count {p : Program} {l : Launch} {e : Env} {s : State} {m : MethodId} {args : Array Value} {below : List Frame} {meth : Method} {c : Code} {D : va_G} {cI cB cS : ClassId} {H : Heap} {locs : List Loc} {cells slots : Nat} {Q : State → Prop} {b L : Nat} {xs : Nat → Int32} {N j : Nat} {B A : Nat → Nat} {IB IM : Nat → Int32} {J : Nat → Int64} {FB FM : Nat → Nat → Int32} {n fd sz w lv kl kn kw kf ks vs : Nat} {ls : Array Slot} (hx : p.tables.exec = Jvm.exec) (hb : c.code = cL_law) (hml : c.maxLocals = 4) (hown : s.vm.findClass RL = some m.cls) (hts : ∀ w ∈ wsG, w.before args s = true) (hKK : KK D (TYS cI cB cS) s) (hSF : SF ks vs (fun q => s.heap.size ≤ q) s s.heap) (hX : va_X b L xs s s.heap) (hbl : b < s.heap.size) (hj : j + 5 ≤ L) (hL : L ≤ 2560) (hN1 : N < 1000000) (hcl : cells + 0 ≤ room_1.cells ∧ slots + 0 ≤ room_1.slots) (hI : LI N IB FB IM FM n fd sz w lv kl kn kw kf) (hJ : JW D (fun q => s.heap.size ≤ q) s.heap (wsB B cI cS IB FB) (wsM A cI cB IM J FM) H locs) (hl : lv_has ls 4 [(0, .ref b), (1, .ref (B 0)), (2, .ref (A 0)), (3, .int (nI j))])
    (kk : ∀ (H1 : Heap) (locs1 : List Loc) (IB1 IM1 : Nat → Int32) (J1 : Nat → Int64) (FB1 FM1 : Nat → Nat → Int32) (n1 fd1 sz1 w1 lv1 kl1 kn1 kw1 kf1 : Nat), LI (N + 1) IB1 FB1 IM1 FM1 n1 fd1 sz1 w1 lv1 kl1 kn1 kw1 kf1 → JW D (fun q => s.heap.size ≤ q) s.heap (wsB B cI cS IB1 FB1) (wsM A cI cB IM1 J1 FM1) H1 locs1 → W p l e room_1 s m args below meth c H1 locs1 cells slots Q (F0 m 776 ls [])) : W p l e room_1 s m args below meth c H locs cells slots Q (F0 m 739 ls []) := by
  obtain ⟨q_b3, q_m1, q_n6, q_b4, q_m6, q_ww, q_ev, q_b6, q_m9, q_f6, q_b2, q_m13, q_s21, q_b1, q_m0, q_lN, q_b7, q_m20, q_kn6, q_b8, q_m21, q_kww, q_kev, q_b10, q_m23, q_kf6, q_m19, q_kle, q_kept, q_rows, q_ink, q_fnd, q_kink, q_kfnd, q_pg⟩ := id hI
  have hbA : ¬ s.heap.size ≤ b := Nat.not_le.mpr hbl
  refine lv_aload_n hx hb dL_law_739 rfl (lv_at hl 1 rfl) ?_
  refine lv_aload_n hx hb dL_law_740 rfl (lv_at hl 0 rfl) ?_
  refine lv_iload_n hx hb dL_law_741 rfl (lv_at hl 3 rfl) ?_
  refine lv_iconst (v := (1 : Int32)) hx hb dL_law_742 (by decide) ?_
  refine lv_iadd hx hb dL_law_743 ?_
  refine topE (z := nI (j + 1)) (nI_add j 1) ?_
  refine va_sld hx hb hX hbl hbA hJ.2.2.2 (vp_in_nI (by omega) (by omega)) dL_law_744 ?_
  refine topE (z := xs (j + 1)) (by rw [nI_clamp (by omega)]) ?_
  refine rcVi (As := [.int (xs (j + 1))]) (rest := []) hx hb hml hown hts hKK hJ.1 (c_X3_count l D cI cB cS q_n6 q_b3 (xs (j + 1))) (cwV2 1 hts kw_611 kw_3 kw_608 kw_609 kw_610 rfl rfl (by decide +kernel) ⟨Nat.le_of_ble_eq_true rfl, Nat.le_of_ble_eq_true rfl⟩) 0 rfl rfl rfl rfl hl.1 rfl (Nat.le_of_ble_eq_true rfl) hcl dL_law_745 ?_
  refine lv_aload_n hx hb dL_law_748 rfl (lv_at hl 2 rfl) ?_
  refine lv_aload_n hx hb dL_law_749 rfl (lv_at hl 0 rfl) ?_
  refine lv_iload_n hx hb dL_law_750 rfl (lv_at hl 3 rfl) ?_
  refine lv_iconst (v := (1 : Int32)) hx hb dL_law_751 (by decide) ?_
  refine lv_iadd hx hb dL_law_752 ?_
  refine topE (z := nI (j + 1)) (nI_add j 1) ?_
  refine va_sld hx hb hX hbl hbA hJ.2.2.2 (vp_in_nI (by omega) (by omega)) dL_law_753 ?_
  refine topE (z := xs (j + 1)) (by rw [nI_clamp (by omega)]) ?_
  refine rcVi (As := [.int (xs (j + 1))]) (rest := [.int _]) hx hb hml hown hts hKK hJ.sw.1 (c_X4_count l D cI cB cS q_n6 q_m1 (xs (j + 1))) (cwV2 1 hts kw_615 kw_6 kw_612 kw_613 kw_614 rfl rfl (by decide +kernel) ⟨Nat.le_of_ble_eq_true rfl, Nat.le_of_ble_eq_true rfl⟩) 0 rfl rfl rfl rfl hl.1 rfl (Nat.le_of_ble_eq_true rfl) hcl dL_law_754 ?_
  refine lv_icmp_eq (tgt := 776) hx hb dL_law_757 (by decide) (fun _ => ?_) (fun h => absurd (count_eq (by have := two_n q_n6; omega) q_b4 (q_m6.trans q_b4.symm) q_ev (q_m9.trans q_b6.symm) (q_m13.trans q_b2.symm) (q_m0.trans q_b1.symm) q_ink) h)
  exact kk _ _ _ _ _ _ _ _ _ _ _ _ _ _ _ _ (LI_same hI) hJ
set_option maxHeartbeats 1000000 in
theorem arm_digest {p : Program} {l : Launch} {e : Env} {s : State} {m : MethodId} {args : Array Value} {below : List Frame} {meth : Method} {c : Code} {D : va_G} {cI cB cS : ClassId} {H : Heap} {locs : List Loc} {cells slots : Nat} {Q : State → Prop} {b L : Nat} {xs : Nat → Int32} {N j : Nat} {B A : Nat → Nat} {IB IM : Nat → Int32} {J : Nat → Int64} {FB FM : Nat → Nat → Int32} {n fd sz w lv kl kn kw kf ks vs : Nat} {ls : Array Slot} (hx : p.tables.exec = Jvm.exec) (hb : c.code = cL_law) (hml : c.maxLocals = 4) (hown : s.vm.findClass RL = some m.cls) (hts : ∀ w ∈ wsG, w.before args s = true) (hKK : KK D (TYS cI cB cS) s) (hSF : SF ks vs (fun q => s.heap.size ≤ q) s s.heap) (hX : va_X b L xs s s.heap) (hbl : b < s.heap.size) (hj : j + 5 ≤ L) (hL : L ≤ 2560) (hN1 : N < 1000000) (hcl : cells + 0 ≤ room_1.cells ∧ slots + 0 ≤ room_1.slots) (hI : LI N IB FB IM FM n fd sz w lv kl kn kw kf) (hJ : JW D (fun q => s.heap.size ≤ q) s.heap (wsB B cI cS IB FB) (wsM A cI cB IM J FM) H locs) (hl : lv_has ls 4 [(0, .ref b), (1, .ref (B 0)), (2, .ref (A 0)), (3, .int (nI j))])
    (kk : ∀ (H1 : Heap) (locs1 : List Loc) (IB1 IM1 : Nat → Int32) (J1 : Nat → Int64) (FB1 FM1 : Nat → Nat → Int32) (n1 fd1 sz1 w1 lv1 kl1 kn1 kw1 kf1 : Nat), LI (N + 1) IB1 FB1 IM1 FM1 n1 fd1 sz1 w1 lv1 kl1 kn1 kw1 kf1 → JW D (fun q => s.heap.size ≤ q) s.heap (wsB B cI cS IB1 FB1) (wsM A cI cB IM1 J1 FM1) H1 locs1 → W p l e room_1 s m args below meth c H1 locs1 cells slots Q (F0 m 776 ls [])) : W p l e room_1 s m args below meth c H locs cells slots Q (F0 m 762 ls []) := by
  obtain ⟨q_b3, q_m1, q_n6, q_b4, q_m6, q_ww, q_ev, q_b6, q_m9, q_f6, q_b2, q_m13, q_s21, q_b1, q_m0, q_lN, q_b7, q_m20, q_kn6, q_b8, q_m21, q_kww, q_kev, q_b10, q_m23, q_kf6, q_m19, q_kle, q_kept, q_rows, q_ink, q_fnd, q_kink, q_kfnd, q_pg⟩ := id hI
  have hbA : ¬ s.heap.size ≤ b := Nat.not_le.mpr hbl
  refine lv_aload_n hx hb dL_law_762 rfl (lv_at hl 1 rfl) ?_
  refine jcVl (As := []) (rest := []) hx hb hml hown hts hKK hJ (by first | rfl | (split <;> rfl)) (c_X3_digest l D cI cB cS q_n6 q_b3 q_f6 q_b6 q_s21 q_b2 ) (cwV2 0 hts kw_623 kw_3 kw_620 kw_621 kw_622 rfl rfl (by decide +kernel) ⟨Nat.le_of_ble_eq_true rfl, Nat.le_of_ble_eq_true rfl⟩) 0 rfl rfl rfl rfl hl.1 rfl (Nat.le_of_ble_eq_true rfl) hcl dL_law_763 (fun H locs hJ => ?_)
  refine lv_aload_n hx hb dL_law_766 rfl (lv_at hl 2 rfl) ?_
  refine jcVl (As := []) (rest := [.long _]) hx hb hml hown hts hKK hJ.sw (by first | rfl | (split <;> rfl)) (c_X4_digest l D cI cB cS q_n6 q_m1 q_f6 q_m9 q_s21 q_m13 ) (cwV2 0 hts kw_644 kw_6 kw_641 kw_642 kw_643 rfl rfl (by decide +kernel) ⟨Nat.le_of_ble_eq_true rfl, Nat.le_of_ble_eq_true rfl⟩) 0 rfl rfl rfl rfl hl.1 rfl (Nat.le_of_ble_eq_true rfl) hcl dL_law_767 (fun H locs hJ => ?_)
  have hJ := hJ.sw
  have hdig : cDigest IB FB n fd sz = mDigest IM FM n fd sz := (digest_eq q_n6 q_f6 q_ww q_rows q_fnd q_b4 (q_m6.trans q_b4.symm) q_ev (q_m9.trans q_b6.symm) (q_m13.trans q_b2.symm) (q_m0.trans q_b1.symm) q_ink (fun i hi => (q_pg i hi).1))
  rw [← hdig]
  refine lv_lcmpE hx hb dL_law_770 ?_
  refine lv_if_eq (tgt := 776) hx hb dL_law_771 (by decide) (fun _ => ?_) (fun h => absurd rfl h)
  rw [← hdig] at hJ
  exact kk _ _ _ _ _ _ _ _ _ _ _ _ _ _ _ _ (LI_look hI) hJ
