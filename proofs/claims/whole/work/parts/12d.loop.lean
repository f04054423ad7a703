/-! THE LAW: its loop -/
theorem len5 : ∀ k, k < 2561 → (nI k - 5).toInt = (k : Int) - 5 := by decide +kernel
set_option maxHeartbeats 2000000 in
theorem law_loop {p : Program} {l : Launch} {e : Env} {s : State} {m : MethodId} {args : Array Value} {below : List Frame} {meth : Method} {c : Code} {D : va_G} {cI cB cS : ClassId} {cells slots : Nat} {Q : State → Prop} {b L : Nat} {xs : Nat → Int32} {B A : Nat → Nat} {ks vs : Nat} (hx : p.tables.exec = Jvm.exec) (hb : c.code = cL_law) (hml : c.maxLocals = 4) (hown : s.vm.findClass RL = some m.cls) (hts : ∀ w ∈ wsG, w.before args s = true) (hKK : KK D (TYS cI cB cS) s) (hSF : SF ks vs (fun q => s.heap.size ≤ q) s s.heap) (hX : va_X b L xs s s.heap) (hbl : b < s.heap.size) (hL : L ≤ 2560) (hcl : cells + 0 ≤ room_1.cells ∧ slots + 0 ≤ room_1.slots)
    (kex : ∀ (H1 : Heap) (locs1 : List Loc) (ls : Array Slot), va_S (fun q => s.heap.size ≤ q) s.heap H1 locs1 → W p l e room_1 s m args below meth c H1 locs1 cells slots Q (F0 m 782 ls [])) : ∀ (z N : Nat), L + 5 < 5 * N + z → ∀ (H : Heap) (locs : List Loc) (IB IM : Nat → Int32) (J : Nat → Int64) (FB FM : Nat → Nat → Int32) (n fd sz w lv kl kn kw kf : Nat) (ls : Array Slot), LI N IB FB IM FM n fd sz w lv kl kn kw kf → JW D (fun q => s.heap.size ≤ q) s.heap (wsB B cI cS IB FB) (wsM A cI cB IM J FM) H locs → lv_has ls 4 [(0, .ref b), (1, .ref (B 0)), (2, .ref (A 0)), (3, .int (nI (5 * N)))] → 5 * N ≤ 2560 + 5 → W p l e room_1 s m args below meth c H locs cells slots Q (F0 m 18 ls []) := by
  intro z
  induction z with
  | zero =>
    intro N hz H locs IB IM J FB FM n fd sz w lv kl kn kw kf ls hI hJ hl hN5
    have hbA : ¬ s.heap.size ≤ b := Nat.not_le.mpr hbl
    refine lv_iload_n hx hb dL_law_18 rfl (lv_at hl 3 rfl) ?_
    refine lv_aload_n hx hb dL_law_19 rfl (lv_at hl 0 rfl) ?_
    refine va_slen hx hb hX hbl hbA hJ.2.2.2 dL_law_20 ?_
    refine lv_iconst (v := (5 : Int32)) hx hb dL_law_21 (by decide) ?_
    refine lv_isub hx hb dL_law_22 ?_
    refine lv_icmp_gt (tgt := 782) hx hb dL_law_23 (by decide) (fun _ => kex _ _ _ hJ.2.2.2) (fun h => absurd ?_ h)
    have e1 : (Int32.ofNat L - 5).toInt = (L : Int) - 5 := len5 L (by omega)
    have e2 : (nI (5 * N)).toInt = (5 * N : Nat) := nI_toInt (by omega)
    rw [Int32.lt_iff_toInt_lt, e1, e2]
    omega
  | succ z ih =>
    intro N hz H locs IB IM J FB FM n fd sz w lv kl kn kw kf ls hI hJ hl hN5
    have hbA : ¬ s.heap.size ≤ b := Nat.not_le.mpr hbl
    have e1 : (Int32.ofNat L - 5).toInt = (L : Int) - 5 := len5 L (by omega)
    have e2 : (nI (5 * N)).toInt = (5 * N : Nat) := nI_toInt (by omega)
    refine lv_iload_n hx hb dL_law_18 rfl (lv_at hl 3 rfl) ?_
    refine lv_aload_n hx hb dL_law_19 rfl (lv_at hl 0 rfl) ?_
    refine va_slen hx hb hX hbl hbA hJ.2.2.2 dL_law_20 ?_
    refine lv_iconst (v := (5 : Int32)) hx hb dL_law_21 (by decide) ?_
    refine lv_isub hx hb dL_law_22 ?_
    refine lv_icmp_gt (tgt := 782) hx hb dL_law_23 (by decide) (fun _ => kex _ _ _ hJ.2.2.2) (fun hle => ?_)
    rw [Int32.lt_iff_toInt_lt, e1, e2] at hle
    have hj : 5 * N + 5 ≤ L := by omega
    have next : ∀ (H1 : Heap) (locs1 : List Loc) (IB1 IM1 : Nat → Int32) (J1 : Nat → Int64) (FB1 FM1 : Nat → Nat → Int32) (n1 fd1 sz1 w1 lv1 kl1 kn1 kw1 kf1 : Nat), LI (N + 1) IB1 FB1 IM1 FM1 n1 fd1 sz1 w1 lv1 kl1 kn1 kw1 kf1 → JW D (fun q => s.heap.size ≤ q) s.heap (wsB B cI cS IB1 FB1) (wsM A cI cB IM1 J1 FM1) H1 locs1 → W p l e room_1 s m args below meth c H1 locs1 cells slots Q (F0 m 776 ls []) := by
      intro H1 locs1 IB1 IM1 J1 FB1 FM1 n1 fd1 sz1 w1 lv1 kl1 kn1 kw1 kf1 hI1 hJ1
      refine lv_iinc (v := nI (5 * (N + 1))) (lv' := [(3, .int (nI (5 * (N + 1)))), (0, .ref b), (1, .ref (B 0)), (2, .ref (A 0))]) hx hb dL_law_776 hl (k := 3) rfl (nI_add (5 * N) 5) (by decide) rfl (fun ls hl2 => ?_)
      refine lv_goto (tgt := 18) hx hb dL_law_779 (by decide) ?_
      exact ih (N + 1) (by omega) H1 locs1 IB1 IM1 J1 FB1 FM1 n1 fd1 sz1 w1 lv1 kl1 kn1 kw1 kf1 ls hI1 hJ1 (lv_sub hl2 [1, 2, 3, 0] rfl) (by omega)
    refine lv_aload_n hx hb dL_law_26 rfl (lv_at hl 0 rfl) ?_
    refine lv_iload_n hx hb dL_law_27 rfl (lv_at hl 3 rfl) ?_
    refine va_sld hx hb hX hbl hbA hJ.2.2.2 (vp_in_nI (by omega) (by omega)) dL_law_28 ?_
    refine lv_bipush (v := (31 : Int32)) hx hb dL_law_29 (by decide) ?_
    refine lv_iand hx hb dL_law_31 ?_
    obtain ⟨k, hk, ek⟩ := pk_andE (xs (nI (5 * N)).toNatClampNeg) (m := 31) 5 rfl
    refine topE ek ?_
    match k, hk with
    | 0, _ => exact lv_tableIn (off := 108) (tgt := 140) hx hb dL_law_32 (by decide) (by decide) rfl (by decide) (arm_letter (j := 5 * N) hx hb hml hown hts hKK hSF hX hbl hj hL (by omega) hcl hI hJ hl next)
    | 1, _ => exact lv_tableIn (off := 131) (tgt := 163) hx hb dL_law_32 (by decide) (by decide) rfl (by decide) (arm_blank (j := 5 * N) hx hb hml hown hts hKK hSF hX hbl hj hL (by omega) hcl hI hJ hl next)
    | 2, _ => exact lv_tableIn (off := 144) (tgt := 176) hx hb dL_law_32 (by decide) (by decide) rfl (by decide) (arm_fault (j := 5 * N) hx hb hml hown hts hKK hSF hX hbl hj hL (by omega) hcl hI hJ hl next)
    | 3, _ => exact lv_tableIn (off := 157) (tgt := 189) hx hb dL_law_32 (by decide) (by decide) rfl (by decide) (arm_leaf (j := 5 * N) hx hb hml hown hts hKK hSF hX hbl hj hL (by omega) hcl hI hJ hl next)
    | 4, _ => exact lv_tableIn (off := 170) (tgt := 202) hx hb dL_law_32 (by decide) (by decide) rfl (by decide) (arm_about (j := 5 * N) hx hb hml hown hts hKK hSF hX hbl hj hL (by omega) hcl hI hJ hl next)
    | 5, _ => exact lv_tableIn (off := 203) (tgt := 235) hx hb dL_law_32 (by decide) (by decide) rfl (by decide) (arm_as (j := 5 * N) hx hb hml hown hts hKK hSF hX hbl hj hL (by omega) hcl hI hJ hl next)
    | 6, _ => exact lv_tableIn (off := 236) (tgt := 268) hx hb dL_law_32 (by decide) (by decide) rfl (by decide) (arm_write (j := 5 * N) hx hb hml hown hts hKK hSF hX hbl hj hL (by omega) hcl hI hJ hl next)
    | 7, _ => exact lv_tableIn (off := 289) (tgt := 321) hx hb dL_law_32 (by decide) (by decide) rfl (by decide) (arm_sand (j := 5 * N) hx hb hml hown hts hKK hSF hX hbl hj hL (by omega) hcl hI hJ hl next)
    | 8, _ => exact lv_tableIn (off := 338) (tgt := 370) hx hb dL_law_32 (by decide) (by decide) rfl (by decide) (arm_wet (j := 5 * N) hx hb hml hown hts hKK hSF hX hbl hj hL (by omega) hcl hI hJ hl next)
    | 9, _ => exact lv_tableIn (off := 371) (tgt := 403) hx hb dL_law_32 (by decide) (by decide) rfl (by decide) (arm_ink (j := 5 * N) hx hb hml hown hts hKK hSF hX hbl hj hL (by omega) hcl hI hJ hl next)
    | 10, _ => exact lv_tableIn (off := 394) (tgt := 426) hx hb dL_law_32 (by decide) (by decide) rfl (by decide) (arm_comes (j := 5 * N) hx hb hml hown hts hKK hSF hX hbl hj hL (by omega) hcl hI hJ hl next)
    | 11, _ => exact lv_tableIn (off := 427) (tgt := 459) hx hb dL_law_32 (by decide) (by decide) rfl (by decide) (arm_evening (j := 5 * N) hx hb hml hown hts hKK hSF hX hbl hj hL (by omega) hcl hI hJ hl next)
    | 12, _ => exact lv_tableIn (off := 450) (tgt := 482) hx hb dL_law_32 (by decide) (by decide) rfl (by decide) (arm_hills (j := 5 * N) hx hb hml hown hts hKK hSF hX hbl hj hL (by omega) hcl hI hJ hl next)
    | 13, _ => exact lv_tableIn (off := 473) (tgt := 505) hx hb dL_law_32 (by decide) (by decide) rfl (by decide) (arm_close (j := 5 * N) hx hb hml hown hts hKK hSF hX hbl hj hL (by omega) hcl hI hJ hl next)
    | 14, _ => exact lv_tableIn (off := 506) (tgt := 538) hx hb dL_law_32 (by decide) (by decide) rfl (by decide) (arm_toSand (j := 5 * N) hx hb hml hown hts hKK hSF hX hbl hj hL (by omega) hcl hI hJ hl next)
    | 15, _ => exact lv_tableIn (off := 549) (tgt := 581) hx hb dL_law_32 (by decide) (by decide) rfl (by decide) (arm_found (j := 5 * N) hx hb hml hown hts hKK hSF hX hbl hj hL (by omega) hcl hI hJ hl next)
    | 16, _ => exact lv_tableIn (off := 592) (tgt := 624) hx hb dL_law_32 (by decide) (by decide) rfl (by decide) (arm_forget (j := 5 * N) hx hb hml hown hts hKK hSF hX hbl hj hL (by omega) hcl hI hJ hl next)
    | 17, _ => exact lv_tableIn (off := 605) (tgt := 637) hx hb dL_law_32 (by decide) (by decide) rfl (by decide) (arm_look (j := 5 * N) hx hb hml hown hts hKK hSF hX hbl hj hL (by omega) hcl hI hJ hl next)
    | 18, _ => exact lv_tableIn (off := 638) (tgt := 670) hx hb dL_law_32 (by decide) (by decide) rfl (by decide) (arm_years (j := 5 * N) hx hb hml hown hts hKK hSF hX hbl hj hL (by omega) hcl hI hJ hl next)
    | 19, _ => exact lv_tableIn (off := 681) (tgt := 713) hx hb dL_law_32 (by decide) (by decide) rfl (by decide) (arm_image (j := 5 * N) hx hb hml hown hts hKK hSF hX hbl hj hL (by omega) hcl hI hJ hl next)
    | 20, _ => exact lv_tableIn (off := 694) (tgt := 726) hx hb dL_law_32 (by decide) (by decide) rfl (by decide) (arm_restore (j := 5 * N) hx hb hml hown hts hKK hSF hX hbl hj hL (by omega) hcl hI hJ hl next)
    | 21, _ => exact lv_tableIn (off := 707) (tgt := 739) hx hb dL_law_32 (by decide) (by decide) rfl (by decide) (arm_count (j := 5 * N) hx hb hml hown hts hKK hSF hX hbl hj hL (by omega) hcl hI hJ hl next)
    | 22, _ => exact lv_tableIn (off := 730) (tgt := 762) hx hb dL_law_32 (by decide) (by decide) rfl (by decide) (arm_digest (j := 5 * N) hx hb hml hown hts hKK hSF hX hbl hj hL (by omega) hcl hI hJ hl next)
    | k + 23, hk =>
      have e3 : (nI (k + 23)).toInt = (k + 23 : Nat) := nI_toInt (by omega)
      exact lv_tableOut (tgt := 776) hx hb dL_law_32 (by rw [e3]; omega) (by decide) (next _ _ _ _ _ _ _ _ _ _ _ _ _ _ _ _ (LI_same hI) hJ)
