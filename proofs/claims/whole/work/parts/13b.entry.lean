/-! THE LAW: from its entry to its loop -/
set_option maxHeartbeats 2000000 in
theorem law_entry {p : Program} {l : Launch} {e : Env} {s : State} {m : MethodId} {below : List Frame} {meth : Method} {c : Code} {D : va_G} {cI cB cS : ClassId} {Q : State → Prop} {b L : Nat} {xs : Nat → Int32} {ks vs : Nat} (hx : p.tables.exec = Jvm.exec) (hb : c.code = cL_law) (hml : c.maxLocals = 4) (hown : s.vm.findClass RL = some m.cls) (hts : ∀ w ∈ wsG, w.before #[Value.ref b] s = true) (hKK : KK D (TYS cI cB cS) s) (hAO : va_AO RX2 s) (hSF : SF ks vs (fun q => s.heap.size ≤ q) s s.heap) (hX : va_X b L xs s s.heap) (hbl : b < s.heap.size) (hL : L ≤ 2560)
    (kex : ∀ (H1 : Heap) (locs1 : List Loc) (ls : Array Slot), va_S (fun q => s.heap.size ≤ q) s.heap H1 locs1 → W p l e room_1 s m #[Value.ref b] below meth c H1 locs1 (0 + 1 + 21 + 1 + 15) (0 + 8 + 151 + 29 + 201) Q (F0 m 782 ls [])) : W p l e room_1 s m #[Value.ref b] below meth c s.heap [] 0 0 Q (entryFrame m ([Value.ref b] : List Value).toArray 4) := by
  obtain ⟨hK, hN⟩ := id hKK
  rw [lg_entry_eq]
  have hl : lv_has ((lg_sl [Value.ref b] ++ List.replicate (4 - (lg_sl [Value.ref b]).length) Slot.unset).toArray) 4 [(0, .ref b)] := lv_entry [Value.ref b] (n := 4) (Nat.le_of_ble_eq_true rfl)
  generalize ((lg_sl [Value.ref b] ++ List.replicate (4 - (lg_sl [Value.ref b]).length) Slot.unset).toArray) = ls at hl
  have hP : va_P D vwCl [] s.heap := fun k q h => by simp at h
  have hD : va_D (fun q => s.heap.size ≤ q) [] := ⟨fun i j p q h => by simp at h, fun k q h => by simp at h⟩
  have hS : va_S (fun q => s.heap.size ≤ q) s.heap s.heap [] := va_S.rf
  have hA : ∀ q, s.heap.size ≤ q → s.heap.size ≤ q := fun _ h => h
  refine va_new (ci := 3) (fs := [.null, .null, .null, .null, .int 0, .int 0, .null, .null]) (C := RX3) (T := TX3) (N := 8) hx hb hts inlX3 tyX3 tyX3_ok hown (hts _ kw_1) (hts _ kw_2) (hts _ kw_3) hK hP hD hS hA rfl newX3 (Nat.le_of_ble_eq_true rfl) (Nat.le_of_ble_eq_true rfl) dL_law_0 (fun q1 H hP hD hS => ?_)
  refine lv_dup hx hb dL_law_3 rfl ?_
  have hP : va_P D vwCl ([] ++ [(q1, .inr (3, [.null, .null, .null, .null, .int 0, .int 0, .null, .null]))]) H := hP
  have hD : va_D (fun q => s.heap.size ≤ q) ([] ++ [(q1, .inr (3, [.null, .null, .null, .null, .int 0, .int 0, .null, .null]))]) := hD
  have hPc := lastP (wr := []) hP
  have hDc := lastD (wr := []) hD
  refine alCV (wr := []) (va_runI (As := []) (rest := [.ref q1]) ⟨hx, hb, hml, hown, hts⟩ (c_X3_init l D cI cB cS q1 H.size) ⟨callB_of 0 hts (Wm_good kw_9) rfl rfl rfl (hts _ kw_3) (hts _ kw_7) (by decide +kernel) ⟨Nat.le_of_ble_eq_true rfl, Nat.le_of_ble_eq_true rfl⟩, rfl, hts _ kw_8⟩ ⟨fun a U g mk q => ⟨q.1, ⟨q.2.1.1, q.2.1.2.1, KK.call q.2.1.2.2.1, q.2.1.2.2.2⟩, va_AO.moved (u := U) (U := U.calling g mk a) (Vm.Alike.refl U.vm) q.2.2⟩, fun U hU hW => ⟨rfl, ⟨by rw [hU], by rw [hU]; exact hPc, hKK.warm hW, hDc.weaken (fun _ _ _ _ => trivial)⟩, va_AO.moved hW.alike hAO⟩⟩ rfl rfl hl.1 rfl (lv_room (Nat.le_of_ble_eq_true rfl)) dL_law_4 ⟨Nat.le_of_ble_eq_true rfl, Nat.le_of_ble_eq_true rfl⟩) hP hD hS hA (fun H locs w1 hRw hP hD hS => ?_)
  obtain ⟨B, hB0, rfl⟩ := hRw
  refine W.eq (g2 := F0 m 7 ls [.ref q1]) rfl ?_
  refine lv_astore_n (lv' := [(1, .ref q1), (0, .ref b)]) hx hb dL_law_7 rfl hl (by decide) rfl (fun ls hl => ?_)
  refine va_new (ci := 4) (fs := [.int 0, .int 0, .null, .null, .null, .null, .int 0, .null, .int 0, .int 0, .null, .null, .null, .int 0, .null, .null, .long 0, .null, .int 0, .int 0, .int 0, .int 0, .int 0, .int 0, .null, .null, .null, .null, .long 0]) (C := RX4) (T := TX4) (N := 29) hx hb hts inlX4 tyX4 tyX4_ok hown (hts _ kw_4) (hts _ kw_5) (hts _ kw_6) hK hP hD hS hA rfl newX4 (Nat.le_of_ble_eq_true rfl) (Nat.le_of_ble_eq_true rfl) dL_law_8 (fun q2 H hP hD hS => ?_)
  refine lv_dup hx hb dL_law_11 rfl ?_
  have hPc := lastP hP
  have hDc := lastD hD
  refine alCV (va_runI (As := []) (rest := [.ref q2]) ⟨hx, hb, hml, hown, hts⟩ (c_X4_init l D cI cB cS q2 H.size) ⟨callB_of 0 hts (Wm_good kw_57) rfl rfl rfl (hts _ kw_6) (hts _ kw_55) (by decide +kernel) ⟨Nat.le_of_ble_eq_true rfl, Nat.le_of_ble_eq_true rfl⟩, rfl, hts _ kw_56⟩ ⟨fun a U g mk q => ⟨q.1, ⟨q.2.1.1, q.2.1.2.1, KK.call q.2.1.2.2.1, q.2.1.2.2.2⟩, trivial⟩, fun U hU hW => ⟨rfl, ⟨by rw [hU], by rw [hU]; exact hPc, hKK.warm hW, hDc.weaken (fun _ _ _ _ => trivial)⟩, trivial⟩⟩ rfl rfl hl.1 rfl (lv_room (Nat.le_of_ble_eq_true rfl)) dL_law_12 ⟨Nat.le_of_ble_eq_true rfl, Nat.le_of_ble_eq_true rfl⟩) hP hD hS hA (fun H9 locs9 w1 hRw hP9 hD9 hS9 => ?_)
  obtain ⟨A, hA0, rfl⟩ := hRw
  refine W.eq (g2 := F0 m 15 ls [.ref q2]) rfl ?_
  refine lv_astore_n (lv' := [(2, .ref q2), (1, .ref q1), (0, .ref b)]) hx hb dL_law_15 rfl hl (by decide) rfl (fun ls hl => ?_)
  refine lv_iconst (v := (0 : Int32)) hx hb dL_law_16 (by decide) ?_
  refine lv_istore_n (lv' := [(3, .int (0 : Int32)), (2, .ref q2), (1, .ref q1), (0, .ref b)]) hx hb dL_law_17 rfl hl (by decide) rfl (fun ls hl => ?_)
  subst hB0
  subst hA0
  exact law_loop hx hb hml hown hts hKK hSF hX hbl hL ⟨Nat.le_of_ble_eq_true rfl, Nat.le_of_ble_eq_true rfl⟩ kex (L + 6) 0 (by omega) H9 locs9 _ _ (fun _ => 0) _ _ 0 0 0 0 0 0 0 0 0 ls LI_start ⟨fun k q h => hP9 k q (appL h), fun k q h => hP9 _ q (appR h), hD9, hS9⟩ (lv_sub hl [3, 2, 1, 0] rfl) (by omega)
