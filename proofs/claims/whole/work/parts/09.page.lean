/-! the text of the kinds' letters, and the JDK's way to a letter's place -/
def kB (j : Nat) : Int32 := ([115, 98, 113, 102, 116] : List Int32).getD j 0
abbrev NoA : Nat → Prop := fun _ => False
def SF (ks vs : Nat) (A : Nat → Prop) (U : State) (H : Heap) : Prop :=
  va_O "java/lang/String" ks A U H ∧ va_OF "java/lang/String" "coder" "B" (.int 0) ks A U H ∧ va_OF "java/lang/String" "value" "[B" (.ref vs) ks A U H ∧ va_T .byte vs 5 (fun j => .int (kB j)) A U H ∧ va_Z "java/lang/String" "COMPACT_STRINGS" "Z" (.int 1) A U H ∧ vk_R RX0 23 "sbqft" ks U
theorem SF.warm {ks vs : Nat} {A : Nat → Prop} {s U : State} {H : Heap} (hW : s.WarmedH U.vm) (h : SF ks vs A s H) : SF ks vs A U H :=
  ⟨va_O.moved hW.alike h.1, va_OF.moved hW.alike h.2.1, va_OF.moved hW.alike h.2.2.1, va_T.moved hW.alike h.2.2.2.1, va_Z.moved hW.alike h.2.2.2.2.1, h.2.2.2.2.2.warm hW⟩
theorem SF.call {ks vs : Nat} {A : Nat → Prop} {U : State} {H : Heap} {g : JFrame} {mk : MethodId} {a : Array Value} (h : SF ks vs A U H) : SF ks vs A (U.calling g mk a) H :=
  ⟨va_O.moved (u := U) (U := U.calling g mk a) (Vm.Alike.refl U.vm) h.1, va_OF.moved (u := U) (U := U.calling g mk a) (Vm.Alike.refl U.vm) h.2.1, va_OF.moved (u := U) (U := U.calling g mk a) (Vm.Alike.refl U.vm) h.2.2.1, va_T.moved (u := U) (U := U.calling g mk a) (Vm.Alike.refl U.vm) h.2.2.2.1, va_Z.moved (u := U) (U := U.calling g mk a) (Vm.Alike.refl U.vm) h.2.2.2.2.1, vk_R.same (u := U) (U := U.calling g mk a) rfl h.2.2.2.2.2⟩
theorem SF.narrow {ks vs : Nat} {A B : Nat → Prop} {U : State} {H : Heap} (h : SF ks vs A U H) (hAB : ∀ q, B q → A q) : SF ks vs B U H :=
  ⟨h.1.narrow hAB, h.2.1.narrow hAB, h.2.2.1.narrow hAB, h.2.2.2.1.narrow hAB, h.2.2.2.2.1.narrow hAB, h.2.2.2.2.2⟩
theorem SF.kept {ks vs : Nat} {A : Nat → Prop} {U : State} {H H1 : Heap} (h : SF ks vs A U H) (hq : ∀ a : Nat, a < H.size → ¬ A a → H1[a]? = H[a]?) : SF ks vs A U H1 :=
  ⟨h.1.kept hq, h.2.1.kept hq, h.2.2.1.kept hq, h.2.2.2.1.kept hq, h.2.2.2.2.1.kept hq, h.2.2.2.2.2⟩
/-- behind writes of other cells -/
theorem SF.at {ks vs : Nat} {A : Nat → Prop} {s : State} {H : Heap} {locs : List Loc} (h : SF ks vs A s s.heap) (hS : va_S A s.heap H locs) : SF ks vs NoA s H := (h.kept hS.2.1).narrow (fun _ z => z.elim)
abbrev PS (D : va_G) (tys : List (ClassId × FieldType)) (ws : va_W) (ks vs : Nat) (U : State) : Prop := PR D tys ws U ∧ SF ks vs NoA U U.heap
abbrev PWS (D : va_G) (tys : List (ClassId × FieldType)) (ws : va_W) (ks vs : Nat) (U : State) : Prop := PW D tys ws U ∧ SF ks vs (FPw ws) U U.heap
theorem PS_blind {D : va_G} {tys : List (ClassId × FieldType)} {ws : va_W} {ks vs : Nat} {av : List Value} : FrameBlind (va_Pc av (PS D tys ws ks vs)) := fun a U g mk q => ⟨q.1, ⟨q.2.1.1, KK.call q.2.1.2⟩, SF.call q.2.2⟩
theorem PWS_blind {D : va_G} {tys : List (ClassId × FieldType)} {ws : va_W} {ks vs : Nat} {av : List Value} : FrameBlind (va_Pc av (PWS D tys ws ks vs)) := fun a U g mk q => ⟨q.1, ⟨q.2.1.1, KK.call q.2.1.2.1, q.2.1.2.2⟩, SF.call q.2.2⟩
section GSM
variable {l : Launch} {y : MethodName} {cc : ByteArray} {maxL : Nat} {ret : Option FieldType} {rm : Room} {D : va_G} {tys : List (ClassId × FieldType)} {ws ws' : va_W} {v : Option Value} {ks vs : Nat}
theorem metS (hy : plainName y.cls = true) (av : List Value) (hlen : (lg_sl av).length ≤ maxL)
    (body : ∀ (p : Program) (e : Env) (s : State) (m : MethodId) (args : Array Value) (below : List Frame) (meth : Method) (c : Code), p.tables.exec = Jvm.exec → c.code = cc → c.maxLocals = maxL → meth.sig.returnType = ret → meth.locks = false → s.vm.findClass y.cls = some m.cls → (∀ w ∈ wsG, w.before args s = true) → KK D tys s → va_P D vwCl ws s.heap → SF ks vs NoA s s.heap → ∀ ls : Array Slot, lv_has ls maxL (lv_args 0 av) →
      W p l e rm s m args below meth c s.heap [] 0 0 (MQ below (QcV v) args s 0 0 (fun _ => False)) (F0 m 0 ls [])) : Met l y (Wm y cc maxL ret) rm (va_Pc av (PS D tys ws ks vs)) (QcV v) 0 0 (fun _ => False) := by
  refine Met.ofW (cc := cc) (maxL := maxL) (ret := ret) hy rfl ?_
  intro p e s m args below meth c s₁ B hml hv
  obtain ⟨ha, ⟨hP, hK⟩, hSF⟩ := hv
  have hts := atoms_spec (ws := Wm y cc maxL ret) B.pre
  have hl := lv_entry av (n := maxL) hlen
  have key := body p e s m args below meth c B.exec B.bytes hml B.returns B.notSynchronized (findClass_of_methodNamed B.named) (fun w h => hts w (List.mem_cons_of_mem _ h)) hK hP hSF _ hl
  have e2 : entryFrame m args maxL = F0 m 0 ((lg_sl av ++ List.replicate (maxL - (lg_sl av).length) Slot.unset).toArray) [] := by rw [ha, lg_entry_eq]
  rw [e2]
  exact key
theorem metWS (hy : plainName y.cls = true) (av : List Value) (hlen : (lg_sl av).length ≤ maxL)
    (body : ∀ (p : Program) (e : Env) (s : State) (m : MethodId) (args : Array Value) (below : List Frame) (meth : Method) (c : Code), p.tables.exec = Jvm.exec → c.code = cc → c.maxLocals = maxL → meth.sig.returnType = ret → meth.locks = false → s.vm.findClass y.cls = some m.cls → (∀ w ∈ wsG, w.before args s = true) → KK D tys s → va_P D vwCl ws s.heap → va_D (FPw ws) ws → va_S (FPw ws) s.heap s.heap [] → SF ks vs (FPw ws) s s.heap → ∀ ls : Array Slot, lv_has ls maxL (lv_args 0 av) →
      W p l e rm s m args below meth c s.heap [] 0 0 (MQ below (QcW D v ws ws') args s 0 0 (FPw ws)) (F0 m 0 ls [])) : Met l y (Wm y cc maxL ret) rm (va_Pc av (PWS D tys ws ks vs)) (QcW D v ws ws') 0 0 (FPw ws) := by
  refine Met.ofW (cc := cc) (maxL := maxL) (ret := ret) hy rfl ?_
  intro p e s m args below meth c s₁ B hml hv
  obtain ⟨ha, ⟨hP, hK, hD⟩, hSF⟩ := hv
  have hts := atoms_spec (ws := Wm y cc maxL ret) B.pre
  have hl := lv_entry av (n := maxL) hlen
  have key := body p e s m args below meth c B.exec B.bytes hml B.returns B.notSynchronized (findClass_of_methodNamed B.named) (fun w h => hts w (List.mem_cons_of_mem _ h)) hK hP (FPw_self hD) va_S.rf hSF _ hl
  have e2 : entryFrame m args maxL = F0 m 0 ((lg_sl av ++ List.replicate (maxL - (lg_sl av).length) Slot.unset).toArray) [] := by rw [ha, lg_entry_eq]
  rw [e2]
  exact key
end GSM
section GSC
variable {p : Program} {l : Launch} {e : Env} {R : Room} {s : State} {m : MethodId} {args : Array Value} {below : List Frame} {meth : Method} {c : Code} {H : Heap} {locs : List Loc} {cells slots : Nat} {Q : State → Prop}
variable {cc bytes : ByteArray} {pc nL maxL index n : Nat} {ls : Array Slot} {rest st : List Value} {own C : String} {y : MethodName} {ret : Option FieldType} {rm : Room} {As : List Value} {b : Addr} {D : va_G} {tys : List (ClassId × FieldType)} {ws ws' : va_W} {wy : List Cond} {v : Option Value} {A : Nat → Prop} {H0 : Heap} {ks vs : Nat}
theorem rsVi {r : Int32} (hx : p.tables.exec = Jvm.exec) (hb : c.code = cc) (hml : c.maxLocals = nL) (hown : s.vm.findClass own = some m.cls) (hts : ∀ w ∈ wsG, w.before args s = true) (hK : KK D tys s) (hP : va_P D vwCl ws H) (hSF : SF ks vs NoA s H) (hM : Met l y wy rm (va_Pc (.ref b :: As) (PS D tys ws ks vs)) (QcV (some (.int r))) 0 0 (fun _ => False)) (cw : CallW R s args own C index y bytes maxL ret wy rm 0 0 n) (q0 : Nat) {ci : Nat} {fs : List Value} {q : vw_C} (he : ws[q0]? = some (b, .inr (ci, fs))) (hc : vwCl[ci]? = some q) (hC : q.1 = C) (hn : As.length = n) (hl : ls.size = nL) (hst : st = As.reverse ++ .ref b :: rest) (hW : (rest.map fun v => v.category).sum ≤ 8) (hcl : cells + 0 ≤ R.cells ∧ slots + 0 ≤ R.slots) (hdg : decode cc pc = .ok (.invokevirtual index, 3))
    (kk : W p l e R s m args below meth c H locs cells slots Q (F0 m (pc + 3) ls (.int r :: rest))) : W p l e R s m args below meth c H locs cells slots Q (F0 m pc ls st) :=
  rdC (runV2 hx hb hml hown hts hK hM cw hP q0 he hc hC hn hl hst hW hdg hcl PS_blind (fun U hU hW => ⟨⟨by rw [hU]; exact hP, hK.warm hW⟩, by rw [hU]; exact hSF.warm hW⟩)) kk
theorem rsKi {r : Int32} (hx : p.tables.exec = Jvm.exec) (hb : c.code = cc) (hml : c.maxLocals = nL) (hown : s.vm.findClass own = some m.cls) (hts : ∀ w ∈ wsG, w.before args s = true) (hK : KK D tys s) (hP : va_P D vwCl ws H) (hSF : SF ks vs NoA s H) (hM : Met l y wy rm (va_Pc (.ref ks :: As) (PS D tys ws ks vs)) (QcV (some (.int r))) 0 0 (fun _ => False)) (cw : CallW R s args own "java/lang/String" index y bytes maxL ret wy rm 0 0 n) (hn : As.length = n) (hl : ls.size = nL) (hst : st = As.reverse ++ .ref ks :: rest) (hW : (rest.map fun v => v.category).sum ≤ 8) (hcl : cells + 0 ≤ R.cells ∧ slots + 0 ≤ R.slots) (hdg : decode cc pc = .ok (.invokevirtual index, 3))
    (kk : W p l e R s m args below meth c H locs cells slots Q (F0 m (pc + 3) ls (.int r :: rest))) : W p l e R s m args below meth c H locs cells slots Q (F0 m pc ls st) := by
  obtain ⟨cell, h1, h2, h3, -⟩ := hSF.1
  exact rdC (W.runV ⟨hx, hb, hml, hown, hts⟩ hM cw ⟨PS_blind, ⟨cell, h1, h2, h3⟩, fun U hU hW => ⟨rfl, ⟨by rw [hU]; exact hP, hK.warm hW⟩, by rw [hU]; exact hSF.warm hW⟩⟩ rfl hn hl hst (lv_room hW) hdg hcl) kk
theorem rsSi {r : Int32} (hx : p.tables.exec = Jvm.exec) (hb : c.code = cc) (hml : c.maxLocals = nL) (hown : s.vm.findClass own = some m.cls) (hts : ∀ w ∈ wsG, w.before args s = true) (hK : KK D tys s) (hP : va_P D vwCl ws H) (hSF : SF ks vs NoA s H) (hM : Met l y wy rm (va_Pc As (PS D tys ws ks vs)) (QcV (some (.int r))) 0 0 (fun _ => False)) (cw : CallB R s args own index y bytes maxL ret wy rm 0 0 n ∧ (Cond.static y).before args s = true) (hn : As.length = n) (hl : ls.size = nL) (hst : st = As.reverse ++ rest) (hW : (rest.map fun v => v.category).sum ≤ 8) (hcl : cells + 0 ≤ R.cells ∧ slots + 0 ≤ R.slots) (hdg : decode cc pc = .ok (.invokestatic index, 3))
    (kk : W p l e R s m args below meth c H locs cells slots Q (F0 m (pc + 3) ls (.int r :: rest))) : W p l e R s m args below meth c H locs cells slots Q (F0 m pc ls st) :=
  rdC (runS2 hx hb hml hown hts hM cw hn hl hst hW hdg hcl PS_blind (fun U hU hW => ⟨⟨by rw [hU]; exact hP, hK.warm hW⟩, by rw [hU]; exact hSF.warm hW⟩)) kk
theorem cwS3 (C : String) (n : Nat) (hts : ∀ w ∈ wsG, w.before args s = true) (hcode : Cond.code y bytes maxL ret ∈ wsG) (hini : Cond.initialized C ∈ wsG) (hl : Cond.methodLink own index y ∈ wsG) (hst : Cond.static y ∈ wsG) (hrc : rm.cells = 0) (hrs : rm.slots = 0)
    (hd : y.cls = C ∧ y.cls ≠ "java/lang/invoke/MethodHandle" ∧ y.cls ≠ "java/lang/invoke/VarHandle" ∧ (parseMethodDescriptor y.desc).map (fun d => d.parameters.length) = some n) (hR : rm.frames + 1 ≤ R.frames ∧ 8 + (maxL + 11) + rm.locals ≤ R.locals) :
    CallB R s args own index y bytes maxL ret (Wm y bytes maxL ret) rm 0 0 n ∧ (Cond.static y).before args s = true := cwS2 n hts hcode hini hl hst hrc hrs hd hR
theorem retRb {z r : Int32} {ty : FieldType} (hx : p.tables.exec = Jvm.exec) (hb : c.code = cc) (hr : meth.sig.returnType = some ty) (hlk : meth.locks = false) (hdg : decode cc pc = .ok (.ireturn, 1)) (hn : narrow ty (.int r) = .int r) (hv : z = r) : W p l e R s m args below meth c s.heap [] 0 0 (MQ below (QcV (some (.int r))) args s 0 0 (fun _ => False)) (F0 m pc ls [.int z]) := by
  subst hv
  exact W.zret hx hb hr hn (fun t ht _ => ⟨rfl, ht⟩) (fun _ h => by cases h) hdg hlk
end GSC
abbrev okEnc (x : Int32) : Prop := ¬ x < 0 ∧ ¬ (255 : Int32) < x
def kI (x : Int32) : Int32 := if okEnc x then cFirst kB x.toInt8.toInt32 5 0 else -1
theorem kF_step {v : Int32} {k : Nat} {r : Int32} (hk : k < 5) (h : cFirst kB v (5 - k) k = r) : (kB k = v → nI k = r) ∧ (¬ kB k = v → cFirst kB v (5 - (k + 1)) (k + 1) = r) := by
  rw [show 5 - k = 5 - (k + 1) + 1 by omega, cFirst] at h
  exact ⟨fun e => by rw [if_pos e] at h; exact h, fun e => by rw [if_neg e] at h; exact h⟩
def cKind (x : Int32) : Int32 := kI ((x.toUInt32 % 65536).toInt32)
abbrev cStand (f : Nat → Int32) (k : Nat) : Prop :=
  k < 19 ∧ (if k % 5 = 0 then ¬ cKind (f k) < 0 else if k % 5 = 1 then ¬ f k - 48 < 0 ∧ ¬ (10 : Int32) ≤ f k - 48 else if k % 5 = 2 then ¬ f k - 48 < 1 ∧ ¬ (5 : Int32) < f k - 48
  else if k % 5 = 3 then ¬ f k - 48 < 1 ∧ ¬ (9 : Int32) < f k - 48 else f k = 44)
abbrev cIsL (f : Nat → Int32) (sz : Nat) : Prop := sz % 5 = 4 ∧ fltN (cStand f) sz 0 = sz
theorem dJ0_length_8abf5_0 : decode cJ0_length_8abf5 0 = .ok (.aload_n 0, 1) := by decide +kernel
theorem dJ0_length_8abf5_1 : decode cJ0_length_8abf5 1 = .ok (.getfield 9, 3) := by decide +kernel
theorem dJ0_length_8abf5_4 : decode cJ0_length_8abf5 4 = .ok (.arraylength, 1) := by decide +kernel
theorem dJ0_length_8abf5_5 : decode cJ0_length_8abf5 5 = .ok (.aload_n 0, 1) := by decide +kernel
theorem dJ0_length_8abf5_6 : decode cJ0_length_8abf5 6 = .ok (.invokevirtual 335, 3) := by decide +kernel
theorem dJ0_length_8abf5_9 : decode cJ0_length_8abf5 9 = .ok (.ishr, 1) := by decide +kernel
theorem dJ0_length_8abf5_10 : decode cJ0_length_8abf5 10 = .ok (.ireturn, 1) := by decide +kernel
theorem dJ0_coder_7d493_0 : decode cJ0_coder_7d493 0 = .ok (.getstatic 38, 3) := by decide +kernel
theorem dJ0_coder_7d493_3 : decode cJ0_coder_7d493 3 = .ok (.ifCond .eq 10, 3) := by decide +kernel
theorem dJ0_coder_7d493_6 : decode cJ0_coder_7d493 6 = .ok (.aload_n 0, 1) := by decide +kernel
theorem dJ0_coder_7d493_7 : decode cJ0_coder_7d493 7 = .ok (.getfield 15, 3) := by decide +kernel
theorem dJ0_coder_7d493_10 : decode cJ0_coder_7d493 10 = .ok (.goto 4, 3) := by decide +kernel
theorem dJ0_coder_7d493_13 : decode cJ0_coder_7d493 13 = .ok (.iconst 1, 1) := by decide +kernel
theorem dJ0_coder_7d493_14 : decode cJ0_coder_7d493 14 = .ok (.ireturn, 1) := by decide +kernel
set_option maxHeartbeats 1000000 in
set_option maxRecDepth 100000 in
theorem c_J0_isLatin1_aae02 (l : Launch) (D : va_G) (cI cB cS : ClassId) {ws : va_W} {ks vs : Nat} : Met l yJ0_isLatin1_aae02 (Wm yJ0_isLatin1_aae02 cJ0_isLatin1_aae02 1 (some .boolean)) ({ frames := 0, cells := 0, slots := 0, locals := 0 }) (va_Pc [.ref ks] (PS D (TYS cI cB cS) ws ks vs)) (QcV (some (.int (b2 (True))))) 0 0 (fun _ => False) := by
  refine metS (by decide) [.ref ks] (Nat.le_of_ble_eq_true rfl) ?_
  intro p e s m args below meth c hx hb hml hr hlk hown hts hKK hP hSF ls hl
  obtain ⟨hK, hN⟩ := id hKK
  have hl : lv_has ls 1 [(0, .ref ks)] := hl
  refine va_gets hx hb hSF.2.2.2.2.1 va_S.rf hown (hts _ kw_137) (fun _ h9 => h9) dJ0_isLatin1_aae02_0 ?_
  refine lv_if_eq (tgt := 17) hx hb dJ0_isLatin1_aae02_3 (by decide) (fun c_1 => ?_) (fun c_1 => ?_)
  · exact absurd c_1 (by decide)
  · refine lv_aload_n hx hb dJ0_isLatin1_aae02_6 rfl (lv_at hl 0 rfl) ?_
    refine vk_getf hx hb hSF.2.1 va_S.rf hown (hts _ kw_138) (fun _ h9 => h9) dJ0_isLatin1_aae02_7 ?_
    refine lv_if_ne (tgt := 17) hx hb dJ0_isLatin1_aae02_10 (by decide) (fun c_2 => ?_) (fun c_2 => ?_)
    · exact absurd c_2 (by decide)
    · refine lv_iconst (v := (1 : Int32)) hx hb dJ0_isLatin1_aae02_13 (by decide) ?_
      refine lv_goto (tgt := 18) hx hb dJ0_isLatin1_aae02_14 (by decide) ?_
      exact retRz hx hb hr hlk dJ0_isLatin1_aae02_18 (by exact b2_t trivial)
set_option maxHeartbeats 1000000 in
set_option maxRecDepth 100000 in
theorem c_J0_coder_7d493 (l : Launch) (D : va_G) (cI cB cS : ClassId) {ws : va_W} {ks vs : Nat} : Met l yJ0_coder_7d493 (Wm yJ0_coder_7d493 cJ0_coder_7d493 1 (some .byte)) ({ frames := 0, cells := 0, slots := 0, locals := 0 }) (va_Pc [.ref ks] (PS D (TYS cI cB cS) ws ks vs)) (QcV (some (.int (0 : Int32)))) 0 0 (fun _ => False) := by
  refine metS (by decide) [.ref ks] (Nat.le_of_ble_eq_true rfl) ?_
  intro p e s m args below meth c hx hb hml hr hlk hown hts hKK hP hSF ls hl
  obtain ⟨hK, hN⟩ := id hKK
  have hl : lv_has ls 1 [(0, .ref ks)] := hl
  refine va_gets hx hb hSF.2.2.2.2.1 va_S.rf hown (hts _ kw_137) (fun _ h9 => h9) dJ0_coder_7d493_0 ?_
  refine lv_if_eq (tgt := 13) hx hb dJ0_coder_7d493_3 (by decide) (fun c_1 => ?_) (fun c_1 => ?_)
  · exact absurd c_1 (by decide)
  · refine lv_aload_n hx hb dJ0_coder_7d493_6 rfl (lv_at hl 0 rfl) ?_
    refine vk_getf hx hb hSF.2.1 va_S.rf hown (hts _ kw_138) (fun _ h9 => h9) dJ0_coder_7d493_7 ?_
    refine lv_goto (tgt := 14) hx hb dJ0_coder_7d493_10 (by decide) ?_
    exact retRb hx hb hr hlk dJ0_coder_7d493_14 rfl rfl
set_option maxHeartbeats 1000000 in
set_option maxRecDepth 100000 in
theorem c_J0_length_8abf5 (l : Launch) (D : va_G) (cI cB cS : ClassId) {ws : va_W} {ks vs : Nat} : Met l yJ0_length_8abf5 (Wm yJ0_length_8abf5 cJ0_length_8abf5 1 (some .int)) ({ frames := 1, cells := 0, slots := 0, locals := 20 }) (va_Pc [.ref ks] (PS D (TYS cI cB cS) ws ks vs)) (QcV (some (.int (5 : Int32)))) 0 0 (fun _ => False) := by
  refine metS (by decide) [.ref ks] (Nat.le_of_ble_eq_true rfl) ?_
  intro p e s m args below meth c hx hb hml hr hlk hown hts hKK hP hSF ls hl
  obtain ⟨hK, hN⟩ := id hKK
  have hl : lv_has ls 1 [(0, .ref ks)] := hl
  refine lv_aload_n hx hb dJ0_length_8abf5_0 rfl (lv_at hl 0 rfl) ?_
  refine vk_getf hx hb hSF.2.2.1 va_S.rf hown (hts _ kw_132) (fun _ h9 => h9) dJ0_length_8abf5_1 ?_
  refine va_tlen hx hb hSF.2.2.2.1 va_S.rf (v := (5 : Int32)) rfl dJ0_length_8abf5_4 ?_
  refine lv_aload_n hx hb dJ0_length_8abf5_5 rfl (lv_at hl 0 rfl) ?_
  refine rsKi (As := []) (rest := [.int (5 : Int32)]) hx hb hml hown hts hKK hP hSF (c_J0_coder_7d493 l D cI cB cS ) (cwV2 0 hts kw_146 kw_126 kw_143 kw_144 kw_145 rfl rfl (by decide +kernel) ⟨Nat.le_of_ble_eq_true rfl, Nat.le_of_ble_eq_true rfl⟩) rfl hl.1 rfl (Nat.le_of_ble_eq_true rfl) ⟨Nat.zero_le _, Nat.zero_le _⟩ dJ0_length_8abf5_6 ?_
  refine lv_ishr hx hb dJ0_length_8abf5_9 ?_
  exact retRi hx hb hr hlk dJ0_length_8abf5_10 (by decide)
set_option maxHeartbeats 1000000 in
set_option maxRecDepth 100000 in
theorem c_J1_canEncode_9a6ad (l : Launch) (D : va_G) (cI cB cS : ClassId) {ws : va_W} {ks vs : Nat} (p0 : Int32) : Met l yJ1_canEncode_9a6ad (Wm yJ1_canEncode_9a6ad cJ1_canEncode_9a6ad 1 (some .boolean)) ({ frames := 0, cells := 0, slots := 0, locals := 0 }) (va_Pc [.int p0] (PS D (TYS cI cB cS) ws ks vs)) (QcV (some (.int (b2 (okEnc p0))))) 0 0 (fun _ => False) := by
  refine metS (by decide) [.int p0] (Nat.le_of_ble_eq_true rfl) ?_
  intro p e s m args below meth c hx hb hml hr hlk hown hts hKK hP hSF ls hl
  obtain ⟨hK, hN⟩ := id hKK
  have hl : lv_has ls 1 [(0, .int p0)] := hl
  refine lv_iload_n hx hb dJ1_canEncode_9a6ad_0 rfl (lv_at hl 0 rfl) ?_
  refine lv_if_lt (tgt := 15) hx hb dJ1_canEncode_9a6ad_1 (by decide) (fun c_1 => ?_) (fun c_1 => ?_)
  · refine lv_iconst (v := (0 : Int32)) hx hb dJ1_canEncode_9a6ad_15 (by decide) ?_
    exact retRz hx hb hr hlk dJ1_canEncode_9a6ad_16 (by grind [b2])
  · refine lv_iload_n hx hb dJ1_canEncode_9a6ad_4 rfl (lv_at hl 0 rfl) ?_
    refine lv_sipush (v := (255 : Int32)) hx hb dJ1_canEncode_9a6ad_5 (by decide) ?_
    refine lv_icmp_gt (tgt := 15) hx hb dJ1_canEncode_9a6ad_8 (by decide) (fun c_2 => ?_) (fun c_2 => ?_)
    · refine lv_iconst (v := (0 : Int32)) hx hb dJ1_canEncode_9a6ad_15 (by decide) ?_
      exact retRz hx hb hr hlk dJ1_canEncode_9a6ad_16 (by grind [b2])
    · refine lv_iconst (v := (1 : Int32)) hx hb dJ1_canEncode_9a6ad_11 (by decide) ?_
      refine lv_goto (tgt := 16) hx hb dJ1_canEncode_9a6ad_12 (by decide) ?_
      exact retRz hx hb hr hlk dJ1_canEncode_9a6ad_16 (by grind [b2])
set_option maxHeartbeats 1000000 in
set_option maxRecDepth 100000 in
theorem c_J1_indexOfChar_4cfef (l : Launch) (D : va_G) (cI cB cS : ClassId) {ws : va_W} {ks vs : Nat} (p0 : Int32) : Met l yJ1_indexOfChar_4cfef (Wm yJ1_indexOfChar_4cfef cJ1_indexOfChar_4cfef 6 (some .int)) ({ frames := 0, cells := 0, slots := 0, locals := 0 }) (va_Pc [.ref vs, .int p0, .int (0 : Int32), .int (5 : Int32)] (PS D (TYS cI cB cS) ws ks vs)) (QcV (some (.int (cFirst kB p0.toInt8.toInt32 5 0)))) 0 0 (fun _ => False) := by
  refine metS (by decide) [.ref vs, .int p0, .int (0 : Int32), .int (5 : Int32)] (Nat.le_of_ble_eq_true rfl) ?_
  intro p e s m args below meth c hx hb hml hr hlk hown hts hKK hP hSF ls hl
  obtain ⟨hK, hN⟩ := id hKK
  have hl : lv_has ls 6 [(0, .ref vs), (1, .int p0), (2, .int (0 : Int32)), (3, .int (5 : Int32))] := hl
  refine lv_iload_n hx hb dJ1_indexOfChar_4cfef_0 rfl (lv_at hl 1 rfl) ?_
  refine lv_i2b (v := ((p0).toInt8.toInt32)) hx hb dJ1_indexOfChar_4cfef_1 rfl ?_
  refine lv_istore (lv' := [(4, .int ((p0).toInt8.toInt32)), (0, .ref vs), (1, .int p0), (2, .int (0 : Int32)), (3, .int (5 : Int32))]) hx hb dJ1_indexOfChar_4cfef_2 hl (by decide) rfl (fun ls hl => ?_)
  refine lv_iload_n hx hb dJ1_indexOfChar_4cfef_4 rfl (lv_at hl 3 rfl) ?_
  refine lv_istore (lv' := [(5, .int (0 : Int32)), (4, .int ((p0).toInt8.toInt32)), (0, .ref vs), (1, .int p0), (2, .int (0 : Int32)), (3, .int (5 : Int32))]) hx hb dJ1_indexOfChar_4cfef_5 hl (by decide) rfl (fun ls hl => ?_)
  have loop_7 : ∀ (z : Nat) (k : Nat) (x5 : Int32), x5 = nI k → (k ≤ 5) → (cFirst kB p0.toInt8.toInt32 (5 - k) k = cFirst kB p0.toInt8.toInt32 5 0) → 5 - k < z → ∀ (ls : Array Slot), lv_has ls 6 [(0, .ref vs), (1, .int p0), (2, .int (0 : Int32)), (3, .int (5 : Int32)), (4, .int ((p0).toInt8.toInt32)), (5, .int x5)] → W p l e ({ frames := 0, cells := 0, slots := 0, locals := 0 } : Room) s m args below meth c s.heap [] 0 0 (MQ below (QcV (some (.int (cFirst kB p0.toInt8.toInt32 5 0)))) args s 0 0 (fun _ => False)) (F0 m 7 ls []) := by
    intro z
    induction z with
    | zero =>
      intro k x5 ex5 hk hF hz
      exact absurd hz (Nat.not_lt_zero _)
    | succ z ih_7 =>
      intro k x5 ex5 hk hF hz ls hl
      subst ex5
      refine lv_iload hx hb dJ1_indexOfChar_4cfef_7 (lv_at hl 5 rfl) ?_
      refine lv_iload_n hx hb dJ1_indexOfChar_4cfef_9 rfl (lv_at hl 3 rfl) ?_
      refine lv_icmp_ge (tgt := 31) hx hb dJ1_indexOfChar_4cfef_10 (by decide) (fun c_1 => ?_) (fun c_1 => ?_)
      · have nc_1 : 5 ≤ k := (nI_leI (a := 5) (b := k) (by omega) (by omega)).mp c_1
        refine lv_iconst (v := (-1 : Int32)) hx hb dJ1_indexOfChar_4cfef_31 (by decide) ?_
        exact retRi hx hb hr hlk dJ1_indexOfChar_4cfef_32 (by have hkn : k = 5 := (by omega); subst hkn; exact hF)
      · have nc_1 : ¬ 5 ≤ k := fun h => c_1 ((nI_leI (a := 5) (b := k) (by omega) (by omega)).mpr h)
        refine lv_aload_n hx hb dJ1_indexOfChar_4cfef_13 rfl (lv_at hl 0 rfl) ?_
        refine lv_iload hx hb dJ1_indexOfChar_4cfef_14 (lv_at hl 5 rfl) ?_
        refine va_tb hx hb hSF.2.2.2.1 va_S.rf (vp_in_nI (by omega) (by omega)) (v := .int (kB k)) (congrArg (fun j => Value.int (kB j)) (nI_clamp (n := k) (by omega))) dJ1_indexOfChar_4cfef_16 ?_
        refine lv_iload hx hb dJ1_indexOfChar_4cfef_17 (lv_at hl 4 rfl) ?_
        refine lv_icmp_ne (tgt := 25) hx hb dJ1_indexOfChar_4cfef_19 (by decide) (fun c_2 => ?_) (fun c_2 => ?_)
        · refine lv_iinc (v := (nI (k + 1))) (lv' := [(5, .int (nI (k + 1))), (0, .ref vs), (1, .int p0), (2, .int (0 : Int32)), (3, .int (5 : Int32)), (4, .int ((p0).toInt8.toInt32))]) hx hb dJ1_indexOfChar_4cfef_25 hl (k := 5) rfl (nI_add k 1) (by decide) rfl (fun ls hl => ?_)
          refine lv_goto (tgt := 7) hx hb dJ1_indexOfChar_4cfef_28 (by decide) ?_
          exact ih_7 (k + 1) (nI (k + 1)) rfl (by omega) (by exact (kF_step (by omega) hF).2 c_2) (by omega) ls (lv_sub hl [1, 2, 3, 4, 5, 0] rfl)
        · refine lv_iload hx hb dJ1_indexOfChar_4cfef_22 (lv_at hl 5 rfl) ?_
          exact retRi hx hb hr hlk dJ1_indexOfChar_4cfef_24 (by exact (kF_step (by omega) hF).1 c_2)
  exact loop_7 ((5 - 0) + 1) 0 (0 : Int32) rfl (by omega) (by rfl) (by omega) ls (lv_sub hl [2, 3, 4, 5, 1, 0] rfl)
set_option maxHeartbeats 1000000 in
set_option maxRecDepth 100000 in
theorem c_J1_indexOf_4cfef (l : Launch) (D : va_G) (cI cB cS : ClassId) {ws : va_W} {ks vs : Nat} (p0 : Int32) : Met l yJ1_indexOf_4cfef (Wm yJ1_indexOf_4cfef cJ1_indexOf_4cfef 4 (some .int)) ({ frames := 1, cells := 0, slots := 0, locals := 25 }) (va_Pc [.ref vs, .int p0, .int (0 : Int32), .int (5 : Int32)] (PS D (TYS cI cB cS) ws ks vs)) (QcV (some (.int (kI p0)))) 0 0 (fun _ => False) := by
  refine metS (by decide) [.ref vs, .int p0, .int (0 : Int32), .int (5 : Int32)] (Nat.le_of_ble_eq_true rfl) ?_
  intro p e s m args below meth c hx hb hml hr hlk hown hts hKK hP hSF ls hl
  obtain ⟨hK, hN⟩ := id hKK
  have hl : lv_has ls 4 [(0, .ref vs), (1, .int p0), (2, .int (0 : Int32)), (3, .int (5 : Int32))] := hl
  refine lv_iload_n hx hb dJ1_indexOf_4cfef_0 rfl (lv_at hl 1 rfl) ?_
  refine rsSi (As := [.int p0]) (rest := []) hx hb hml hown hts hKK hP hSF (c_J1_canEncode_9a6ad l D cI cB cS p0) (cwS2 1 hts kw_160 kw_149 kw_158 kw_159 rfl rfl (by decide +kernel) ⟨Nat.le_of_ble_eq_true rfl, Nat.le_of_ble_eq_true rfl⟩) rfl hl.1 rfl (Nat.le_of_ble_eq_true rfl) ⟨Nat.zero_le _, Nat.zero_le _⟩ dJ1_indexOf_4cfef_1 ?_
  refine lv_if_ne (tgt := 9) hx hb dJ1_indexOf_4cfef_4 (by decide) (fun c_1 => ?_) (fun c_1 => ?_)
  · have c_1 := b2_nz c_1
    refine lv_iload_n hx hb dJ1_indexOf_4cfef_9 rfl (lv_at hl 2 rfl) ?_
    refine lv_iconst (v := (0 : Int32)) hx hb dJ1_indexOf_4cfef_10 (by decide) ?_
    refine va_mmax hx hb (hml.trans hl.1.symm) hown (hts _ kw_151) (hts _ kw_152) (hts _ kw_153) (hts _ kw_154) (Nat.le_of_ble_eq_true rfl) (Nat.le_of_ble_eq_true rfl) (Nat.zero_le _) (Nat.zero_le _) dJ1_indexOf_4cfef_11 ?_
    refine topE (z := (0 : Int32)) (by decide) ?_
    refine lv_istore_n (lv' := [(2, .int (0 : Int32)), (0, .ref vs), (1, .int p0), (3, .int (5 : Int32))]) hx hb dJ1_indexOf_4cfef_14 rfl hl (by decide) rfl (fun ls hl => ?_)
    refine lv_iload_n hx hb dJ1_indexOf_4cfef_15 rfl (lv_at hl 3 rfl) ?_
    refine lv_aload_n hx hb dJ1_indexOf_4cfef_16 rfl (lv_at hl 1 rfl) ?_
    refine va_tlen hx hb hSF.2.2.2.1 va_S.rf (v := (5 : Int32)) rfl dJ1_indexOf_4cfef_17 ?_
    refine va_mmin hx hb (hml.trans hl.1.symm) hown (hts _ kw_155) (hts _ kw_156) (hts _ kw_153) (hts _ kw_157) (Nat.le_of_ble_eq_true rfl) (Nat.le_of_ble_eq_true rfl) (Nat.zero_le _) (Nat.zero_le _) dJ1_indexOf_4cfef_18 ?_
    refine topE (z := (5 : Int32)) (by decide) ?_
    refine lv_istore_n (lv' := [(3, .int (5 : Int32)), (2, .int (0 : Int32)), (0, .ref vs), (1, .int p0)]) hx hb dJ1_indexOf_4cfef_21 rfl hl (by decide) rfl (fun ls hl => ?_)
    refine lv_iload_n hx hb dJ1_indexOf_4cfef_22 rfl (lv_at hl 1 rfl) ?_
    refine lv_iload_n hx hb dJ1_indexOf_4cfef_23 rfl (lv_at hl 0 rfl) ?_
    refine lv_icmp_lt (tgt := 29) hx hb dJ1_indexOf_4cfef_24 (by decide) (fun c_2 => ?_) (fun c_2 => ?_)
    · refine lv_aload_n hx hb dJ1_indexOf_4cfef_29 rfl (lv_at hl 2 rfl) ?_
      refine lv_iload_n hx hb dJ1_indexOf_4cfef_30 rfl (lv_at hl 3 rfl) ?_
      refine lv_iload_n hx hb dJ1_indexOf_4cfef_31 rfl (lv_at hl 1 rfl) ?_
      refine lv_iload_n hx hb dJ1_indexOf_4cfef_32 rfl (lv_at hl 0 rfl) ?_
      refine rsSi (As := [.ref vs, .int p0, .int (0 : Int32), .int (5 : Int32)]) (rest := []) hx hb hml hown hts hKK hP hSF (c_J1_indexOfChar_4cfef l D cI cB cS p0) (cwS2 4 hts kw_163 kw_149 kw_161 kw_162 rfl rfl (by decide +kernel) ⟨Nat.le_of_ble_eq_true rfl, Nat.le_of_ble_eq_true rfl⟩) rfl hl.1 rfl (Nat.le_of_ble_eq_true rfl) ⟨Nat.zero_le _, Nat.zero_le _⟩ dJ1_indexOf_4cfef_33 ?_
      exact retRi hx hb hr hlk dJ1_indexOf_4cfef_36 (by rw [kI, if_pos c_1])
    · exact absurd c_2 (by decide)
  · have c_1 := b2_z c_1
    refine lv_iconst (v := (-1 : Int32)) hx hb dJ1_indexOf_4cfef_7 (by decide) ?_
    exact retRi hx hb hr hlk dJ1_indexOf_4cfef_8 (by rw [kI, if_neg c_1])
set_option maxHeartbeats 1000000 in
set_option maxRecDepth 100000 in
theorem c_J0_indexOf_7cf53 (l : Launch) (D : va_G) (cI cB cS : ClassId) {ws : va_W} {ks vs : Nat} (p0 : Int32) : Met l yJ0_indexOf_7cf53 (Wm yJ0_indexOf_7cf53 cJ0_indexOf_7cf53 3 (some .int)) ({ frames := 2, cells := 0, slots := 0, locals := 48 }) (va_Pc [.ref ks, .int p0, .int (0 : Int32)] (PS D (TYS cI cB cS) ws ks vs)) (QcV (some (.int (kI p0)))) 0 0 (fun _ => False) := by
  refine metS (by decide) [.ref ks, .int p0, .int (0 : Int32)] (Nat.le_of_ble_eq_true rfl) ?_
  intro p e s m args below meth c hx hb hml hr hlk hown hts hKK hP hSF ls hl
  obtain ⟨hK, hN⟩ := id hKK
  have hl : lv_has ls 3 [(0, .ref ks), (1, .int p0), (2, .int (0 : Int32))] := hl
  refine lv_aload_n hx hb dJ0_indexOf_7cf53_0 rfl (lv_at hl 0 rfl) ?_
  refine rsKi (As := []) (rest := []) hx hb hml hown hts hKK hP hSF (c_J0_isLatin1_aae02 l D cI cB cS ) (cwV2 0 hts kw_136 kw_126 kw_133 kw_134 kw_135 rfl rfl (by decide +kernel) ⟨Nat.le_of_ble_eq_true rfl, Nat.le_of_ble_eq_true rfl⟩) rfl hl.1 rfl (Nat.le_of_ble_eq_true rfl) ⟨Nat.zero_le _, Nat.zero_le _⟩ dJ0_indexOf_7cf53_1 ?_
  refine lv_if_eq (tgt := 23) hx hb dJ0_indexOf_7cf53_4 (by decide) (fun c_1 => ?_) (fun c_1 => ?_)
  · have c_1 := b2_z c_1
    exact absurd trivial c_1
  · have c_1 := b2_nz c_1
    refine lv_aload_n hx hb dJ0_indexOf_7cf53_7 rfl (lv_at hl 0 rfl) ?_
    refine vk_getf hx hb hSF.2.2.1 va_S.rf hown (hts _ kw_132) (fun _ h9 => h9) dJ0_indexOf_7cf53_8 ?_
    refine lv_iload_n hx hb dJ0_indexOf_7cf53_11 rfl (lv_at hl 1 rfl) ?_
    refine lv_iload_n hx hb dJ0_indexOf_7cf53_12 rfl (lv_at hl 2 rfl) ?_
    refine lv_aload_n hx hb dJ0_indexOf_7cf53_13 rfl (lv_at hl 0 rfl) ?_
    refine rsKi (As := []) (rest := [.int (0 : Int32), .int p0, .ref vs]) hx hb hml hown hts hKK hP hSF (c_J0_length_8abf5 l D cI cB cS ) (cwV2 0 hts kw_142 kw_126 kw_139 kw_140 kw_141 rfl rfl (by decide +kernel) ⟨Nat.le_of_ble_eq_true rfl, Nat.le_of_ble_eq_true rfl⟩) rfl hl.1 rfl (Nat.le_of_ble_eq_true rfl) ⟨Nat.zero_le _, Nat.zero_le _⟩ dJ0_indexOf_7cf53_14 ?_
    refine rsSi (As := [.ref vs, .int p0, .int (0 : Int32), .int (5 : Int32)]) (rest := []) hx hb hml hown hts hKK hP hSF (c_J1_indexOf_4cfef l D cI cB cS p0) (cwS2 4 hts kw_150 kw_149 kw_147 kw_148 rfl rfl (by decide +kernel) ⟨Nat.le_of_ble_eq_true rfl, Nat.le_of_ble_eq_true rfl⟩) rfl hl.1 rfl (Nat.le_of_ble_eq_true rfl) ⟨Nat.zero_le _, Nat.zero_le _⟩ dJ0_indexOf_7cf53_17 ?_
    refine lv_goto (tgt := 36) hx hb dJ0_indexOf_7cf53_20 (by decide) ?_
    exact retRi hx hb hr hlk dJ0_indexOf_7cf53_36 rfl
set_option maxHeartbeats 1000000 in
set_option maxRecDepth 100000 in
theorem c_J0_indexOf_0f7a4 (l : Launch) (D : va_G) (cI cB cS : ClassId) {ws : va_W} {ks vs : Nat} (p0 : Int32) : Met l yJ0_indexOf_0f7a4 (Wm yJ0_indexOf_0f7a4 cJ0_indexOf_0f7a4 2 (some .int)) ({ frames := 3, cells := 0, slots := 0, locals := 70 }) (va_Pc [.ref ks, .int p0] (PS D (TYS cI cB cS) ws ks vs)) (QcV (some (.int (kI p0)))) 0 0 (fun _ => False) := by
  refine metS (by decide) [.ref ks, .int p0] (Nat.le_of_ble_eq_true rfl) ?_
  intro p e s m args below meth c hx hb hml hr hlk hown hts hKK hP hSF ls hl
  obtain ⟨hK, hN⟩ := id hKK
  have hl : lv_has ls 2 [(0, .ref ks), (1, .int p0)] := hl
  refine lv_aload_n hx hb dJ0_indexOf_0f7a4_0 rfl (lv_at hl 0 rfl) ?_
  refine lv_iload_n hx hb dJ0_indexOf_0f7a4_1 rfl (lv_at hl 1 rfl) ?_
  refine lv_iconst (v := (0 : Int32)) hx hb dJ0_indexOf_0f7a4_2 (by decide) ?_
  refine rsKi (As := [.int p0, .int (0 : Int32)]) (rest := []) hx hb hml hown hts hKK hP hSF (c_J0_indexOf_7cf53 l D cI cB cS p0) (cwV2 2 hts kw_131 kw_126 kw_128 kw_129 kw_130 rfl rfl (by decide +kernel) ⟨Nat.le_of_ble_eq_true rfl, Nat.le_of_ble_eq_true rfl⟩) rfl hl.1 rfl (Nat.le_of_ble_eq_true rfl) ⟨Nat.zero_le _, Nat.zero_le _⟩ dJ0_indexOf_0f7a4_3 ?_
  exact retRi hx hb hr hlk dJ0_indexOf_0f7a4_6 rfl
set_option maxHeartbeats 1000000 in
set_option maxRecDepth 100000 in
theorem c_X0_kindAt (l : Launch) (D : va_G) (cI cB cS : ClassId) {B : Nat → Nat} {I : Nat → Int32} {F : Nat → Nat → Int32} {ks vs : Nat} {k : Nat} (hk : k < 21) : Met l yX0_kindAt (Wm yX0_kindAt cX0_kindAt 2 (some .int)) ({ frames := 4, cells := 0, slots := 0, locals := 91 }) (va_Pc [.ref (B 1), .int (nI k)] (PS D (TYS cI cB cS) (wsB B cI cS I F) ks vs)) (QcV (some (.int (cKind (F 7 k))))) 0 0 (fun _ => False) := by
  refine metS (by decide) [.ref (B 1), .int (nI k)] (Nat.le_of_ble_eq_true rfl) ?_
  intro p e s m args below meth c hx hb hml hr hlk hown hts hKK hP hSF ls hl
  obtain ⟨hK, hN⟩ := id hKK
  have hl : lv_has ls 2 [(0, .ref (B 1)), (1, .int (nI k))] := hl
  refine va_ldcS hx hb hown hSF.2.2.2.2.2 dX0_kindAt_0 ?_
  refine lv_aload_n hx hb dX0_kindAt_2 rfl (lv_at hl 0 rfl) ?_
  refine lv_iload_n hx hb dX0_kindAt_3 rfl (lv_at hl 1 rfl) ?_
  refine rcVi (As := [.int (nI k)]) (rest := [.ref ks]) hx hb hml hown hts hKK hP (c_X0_codeAt l D cI cB cS (k := k) (by omega)) (cwV2 1 hts kw_118 kw_14 kw_115 kw_116 kw_117 rfl rfl (by decide +kernel) ⟨Nat.le_of_ble_eq_true rfl, Nat.le_of_ble_eq_true rfl⟩) 1 rfl rfl rfl rfl hl.1 rfl (Nat.le_of_ble_eq_true rfl) ⟨Nat.zero_le _, Nat.zero_le _⟩ dX0_kindAt_4 ?_
  refine topE (z := ((F 7) k)) rfl ?_
  refine lv_i2c (v := ((((F 7) k).toUInt32 % 65536).toInt32)) hx hb dX0_kindAt_7 rfl ?_
  refine rsKi (As := [.int ((((F 7) k).toUInt32 % 65536).toInt32)]) (rest := []) hx hb hml hown hts hKK hP hSF (c_J0_indexOf_0f7a4 l D cI cB cS ((((F 7) k).toUInt32 % 65536).toInt32)) (cwV2 1 hts kw_127 kw_126 kw_123 kw_124 kw_125 rfl rfl (by decide +kernel) ⟨Nat.le_of_ble_eq_true rfl, Nat.le_of_ble_eq_true rfl⟩) rfl hl.1 rfl (Nat.le_of_ble_eq_true rfl) ⟨Nat.zero_le _, Nat.zero_le _⟩ dX0_kindAt_8 ?_
  exact retRi hx hb hr hlk dX0_kindAt_11 rfl
set_option maxHeartbeats 1000000 in
set_option maxRecDepth 100000 in
theorem c_X0_canStandAt (l : Launch) (D : va_G) (cI cB cS : ClassId) {B : Nat → Nat} {I : Nat → Int32} {F : Nat → Nat → Int32} {ks vs : Nat} {k : Nat} (hk : k < 21) : Met l yX0_canStandAt (Wm yX0_canStandAt cX0_canStandAt 3 (some .boolean)) ({ frames := 5, cells := 0, slots := 0, locals := 112 }) (va_Pc [.ref (B 1), .int (nI k)] (PS D (TYS cI cB cS) (wsB B cI cS I F) ks vs)) (QcV (some (.int (b2 (cStand (F 7) k))))) 0 0 (fun _ => False) := by
  refine metS (by decide) [.ref (B 1), .int (nI k)] (Nat.le_of_ble_eq_true rfl) ?_
  intro p e s m args below meth c hx hb hml hr hlk hown hts hKK hP hSF ls hl
  obtain ⟨hK, hN⟩ := id hKK
  have hl : lv_has ls 3 [(0, .ref (B 1)), (1, .int (nI k))] := hl
  refine lv_iload_n hx hb dX0_canStandAt_0 rfl (lv_at hl 1 rfl) ?_
  refine lv_bipush (v := (19 : Int32)) hx hb dX0_canStandAt_1 (by decide) ?_
  refine lv_icmp_lt (tgt := 8) hx hb dX0_canStandAt_3 (by decide) (fun c_1 => ?_) (fun c_1 => ?_)
  · have nc_1 : k < 19 := (nI_ltI (a := k) (b := 19) (by omega) (by omega)).mp c_1
    refine lv_aload_n hx hb dX0_canStandAt_8 rfl (lv_at hl 0 rfl) ?_
    refine lv_iload_n hx hb dX0_canStandAt_9 rfl (lv_at hl 1 rfl) ?_
    refine rcVi (As := [.int (nI k)]) (rest := []) hx hb hml hown hts hKK hP (c_X0_digitAt l D cI cB cS (k := k) (by omega)) (cwV2 1 hts kw_114 kw_14 kw_111 kw_112 kw_113 rfl rfl (by decide +kernel) ⟨Nat.le_of_ble_eq_true rfl, Nat.le_of_ble_eq_true rfl⟩) 1 rfl rfl rfl rfl hl.1 rfl (Nat.le_of_ble_eq_true rfl) ⟨Nat.zero_le _, Nat.zero_le _⟩ dX0_canStandAt_10 ?_
    refine topE (z := ((F 7) k - 48)) rfl ?_
    refine lv_istore_n (lv' := [(2, .int ((F 7) k - 48)), (0, .ref (B 1)), (1, .int (nI k))]) hx hb dX0_canStandAt_13 rfl hl (by decide) rfl (fun ls hl => ?_)
    refine lv_iload_n hx hb dX0_canStandAt_14 rfl (lv_at hl 2 rfl) ?_
    refine lv_iconst (v := (5 : Int32)) hx hb dX0_canStandAt_15 (by decide) ?_
    refine lv_irem hx hb dX0_canStandAt_16 (by decide) ?_
    refine topE (z := (nI (k % 5))) (pk_rem (a := k) (d := 5) (by omega) (by omega) (by omega)) ?_
    by_cases e_2 : (nI (k % 5)) = (0 : Int32)
    · refine topE e_2 ?_
      have ne_2 : (k % 5) = 0 := (nI_eq (a := (k % 5)) (b := 0) (by omega) (by omega)).mp e_2
      refine lv_tableIn (off := 31) (tgt := 48) hx hb dX0_canStandAt_17 (by decide) (by decide) rfl (by decide) ?_
      refine lv_aload_n hx hb dX0_canStandAt_48 rfl (lv_at hl 1 rfl) ?_
      refine lv_iload_n hx hb dX0_canStandAt_49 rfl (lv_at hl 2 rfl) ?_
      refine rsVi (As := [.int (nI k)]) (rest := []) hx hb hml hown hts hKK hP hSF (c_X0_kindAt l D cI cB cS (k := k) (by omega)) (cwV2 1 hts kw_122 kw_14 kw_119 kw_120 kw_121 rfl rfl (by decide +kernel) ⟨Nat.le_of_ble_eq_true rfl, Nat.le_of_ble_eq_true rfl⟩) 1 rfl rfl rfl rfl hl.1 rfl (Nat.le_of_ble_eq_true rfl) ⟨Nat.zero_le _, Nat.zero_le _⟩ dX0_canStandAt_50 ?_
      refine topE (z := (cKind ((F 7) k))) rfl ?_
      refine lv_if_lt (tgt := 60) hx hb dX0_canStandAt_53 (by decide) (fun c_3 => ?_) (fun c_3 => ?_)
      · refine lv_iconst (v := (0 : Int32)) hx hb dX0_canStandAt_60 (by decide) ?_
        exact retRz hx hb hr hlk dX0_canStandAt_61 (by grind [b2])
      · refine lv_iconst (v := (1 : Int32)) hx hb dX0_canStandAt_56 (by decide) ?_
        refine lv_goto (tgt := 61) hx hb dX0_canStandAt_57 (by decide) ?_
        exact retRz hx hb hr hlk dX0_canStandAt_61 (by grind [b2])
    have ne_2 : ¬ (k % 5) = 0 := fun h => e_2 ((nI_eq (a := (k % 5)) (b := 0) (by omega) (by omega)).mpr h)
    by_cases e_4 : (nI (k % 5)) = (1 : Int32)
    · refine topE e_4 ?_
      have ne_4 : (k % 5) = 1 := (nI_eq (a := (k % 5)) (b := 1) (by omega) (by omega)).mp e_4
      refine lv_tableIn (off := 45) (tgt := 62) hx hb dX0_canStandAt_17 (by decide) (by decide) rfl (by decide) ?_
      refine lv_iload_n hx hb dX0_canStandAt_62 rfl (lv_at hl 0 rfl) ?_
      refine lv_if_lt (tgt := 76) hx hb dX0_canStandAt_63 (by decide) (fun c_5 => ?_) (fun c_5 => ?_)
      · refine lv_iconst (v := (0 : Int32)) hx hb dX0_canStandAt_76 (by decide) ?_
        exact retRz hx hb hr hlk dX0_canStandAt_77 (by grind [b2])
      · refine lv_iload_n hx hb dX0_canStandAt_66 rfl (lv_at hl 0 rfl) ?_
        refine lv_bipush (v := (10 : Int32)) hx hb dX0_canStandAt_67 (by decide) ?_
        refine lv_icmp_ge (tgt := 76) hx hb dX0_canStandAt_69 (by decide) (fun c_6 => ?_) (fun c_6 => ?_)
        · refine lv_iconst (v := (0 : Int32)) hx hb dX0_canStandAt_76 (by decide) ?_
          exact retRz hx hb hr hlk dX0_canStandAt_77 (by grind [b2])
        · refine lv_iconst (v := (1 : Int32)) hx hb dX0_canStandAt_72 (by decide) ?_
          refine lv_goto (tgt := 77) hx hb dX0_canStandAt_73 (by decide) ?_
          exact retRz hx hb hr hlk dX0_canStandAt_77 (by grind [b2])
    have ne_4 : ¬ (k % 5) = 1 := fun h => e_4 ((nI_eq (a := (k % 5)) (b := 1) (by omega) (by omega)).mpr h)
    by_cases e_7 : (nI (k % 5)) = (2 : Int32)
    · refine topE e_7 ?_
      have ne_7 : (k % 5) = 2 := (nI_eq (a := (k % 5)) (b := 2) (by omega) (by omega)).mp e_7
      refine lv_tableIn (off := 61) (tgt := 78) hx hb dX0_canStandAt_17 (by decide) (by decide) rfl (by decide) ?_
      refine lv_iload_n hx hb dX0_canStandAt_78 rfl (lv_at hl 0 rfl) ?_
      refine lv_iconst (v := (1 : Int32)) hx hb dX0_canStandAt_79 (by decide) ?_
      refine lv_icmp_lt (tgt := 92) hx hb dX0_canStandAt_80 (by decide) (fun c_8 => ?_) (fun c_8 => ?_)
      · refine lv_iconst (v := (0 : Int32)) hx hb dX0_canStandAt_92 (by decide) ?_
        exact retRz hx hb hr hlk dX0_canStandAt_93 (by grind [b2])
      · refine lv_iload_n hx hb dX0_canStandAt_83 rfl (lv_at hl 0 rfl) ?_
        refine lv_iconst (v := (5 : Int32)) hx hb dX0_canStandAt_84 (by decide) ?_
        refine lv_icmp_gt (tgt := 92) hx hb dX0_canStandAt_85 (by decide) (fun c_9 => ?_) (fun c_9 => ?_)
        · refine lv_iconst (v := (0 : Int32)) hx hb dX0_canStandAt_92 (by decide) ?_
          exact retRz hx hb hr hlk dX0_canStandAt_93 (by grind [b2])
        · refine lv_iconst (v := (1 : Int32)) hx hb dX0_canStandAt_88 (by decide) ?_
          refine lv_goto (tgt := 93) hx hb dX0_canStandAt_89 (by decide) ?_
          exact retRz hx hb hr hlk dX0_canStandAt_93 (by grind [b2])
    have ne_7 : ¬ (k % 5) = 2 := fun h => e_7 ((nI_eq (a := (k % 5)) (b := 2) (by omega) (by omega)).mpr h)
    by_cases e_10 : (nI (k % 5)) = (3 : Int32)
    · refine topE e_10 ?_
      have ne_10 : (k % 5) = 3 := (nI_eq (a := (k % 5)) (b := 3) (by omega) (by omega)).mp e_10
      refine lv_tableIn (off := 77) (tgt := 94) hx hb dX0_canStandAt_17 (by decide) (by decide) rfl (by decide) ?_
      refine lv_iload_n hx hb dX0_canStandAt_94 rfl (lv_at hl 0 rfl) ?_
      refine lv_iconst (v := (1 : Int32)) hx hb dX0_canStandAt_95 (by decide) ?_
      refine lv_icmp_lt (tgt := 109) hx hb dX0_canStandAt_96 (by decide) (fun c_11 => ?_) (fun c_11 => ?_)
      · refine lv_iconst (v := (0 : Int32)) hx hb dX0_canStandAt_109 (by decide) ?_
        exact retRz hx hb hr hlk dX0_canStandAt_110 (by grind [b2])
      · refine lv_iload_n hx hb dX0_canStandAt_99 rfl (lv_at hl 0 rfl) ?_
        refine lv_bipush (v := (9 : Int32)) hx hb dX0_canStandAt_100 (by decide) ?_
        refine lv_icmp_gt (tgt := 109) hx hb dX0_canStandAt_102 (by decide) (fun c_12 => ?_) (fun c_12 => ?_)
        · refine lv_iconst (v := (0 : Int32)) hx hb dX0_canStandAt_109 (by decide) ?_
          exact retRz hx hb hr hlk dX0_canStandAt_110 (by grind [b2])
        · refine lv_iconst (v := (1 : Int32)) hx hb dX0_canStandAt_105 (by decide) ?_
          refine lv_goto (tgt := 110) hx hb dX0_canStandAt_106 (by decide) ?_
          exact retRz hx hb hr hlk dX0_canStandAt_110 (by grind [b2])
    have ne_10 : ¬ (k % 5) = 3 := fun h => e_10 ((nI_eq (a := (k % 5)) (b := 3) (by omega) (by omega)).mpr h)
    have t_13 := lv_neT e_2 (a := 0) rfl
    have t_14 := lv_neT e_4 (a := 1) rfl
    have t_15 := lv_neT e_7 (a := 2) rfl
    have t_16 := lv_neT e_10 (a := 3) rfl
    refine lv_tableOut (tgt := 111) hx hb dX0_canStandAt_17 (by omega) (by decide) ?_
    refine lv_aload_n hx hb dX0_canStandAt_111 rfl (lv_at hl 1 rfl) ?_
    refine lv_iload_n hx hb dX0_canStandAt_112 rfl (lv_at hl 2 rfl) ?_
    refine rcVi (As := [.int (nI k)]) (rest := []) hx hb hml hown hts hKK hP (c_X0_codeAt l D cI cB cS (k := k) (by omega)) (cwV2 1 hts kw_118 kw_14 kw_115 kw_116 kw_117 rfl rfl (by decide +kernel) ⟨Nat.le_of_ble_eq_true rfl, Nat.le_of_ble_eq_true rfl⟩) 1 rfl rfl rfl rfl hl.1 rfl (Nat.le_of_ble_eq_true rfl) ⟨Nat.zero_le _, Nat.zero_le _⟩ dX0_canStandAt_113 ?_
    refine topE (z := ((F 7) k)) rfl ?_
    refine lv_bipush (v := (44 : Int32)) hx hb dX0_canStandAt_116 (by decide) ?_
    refine lv_icmp_ne (tgt := 125) hx hb dX0_canStandAt_118 (by decide) (fun c_17 => ?_) (fun c_17 => ?_)
    · refine lv_iconst (v := (0 : Int32)) hx hb dX0_canStandAt_125 (by decide) ?_
      exact retRz hx hb hr hlk dX0_canStandAt_126 (by grind [b2])
    · refine lv_iconst (v := (1 : Int32)) hx hb dX0_canStandAt_121 (by decide) ?_
      refine lv_goto (tgt := 126) hx hb dX0_canStandAt_122 (by decide) ?_
      exact retRz hx hb hr hlk dX0_canStandAt_126 (by grind [b2])
  · have nc_1 : ¬ k < 19 := fun h => c_1 ((nI_ltI (a := k) (b := 19) (by omega) (by omega)).mpr h)
    refine lv_iconst (v := (0 : Int32)) hx hb dX0_canStandAt_6 (by decide) ?_
    exact retRz hx hb hr hlk dX0_canStandAt_7 (by grind [b2])
set_option maxHeartbeats 1000000 in
set_option maxRecDepth 100000 in
theorem c_X0_firstFault (l : Launch) (D : va_G) (cI cB cS : ClassId) {B : Nat → Nat} {I : Nat → Int32} {F : Nat → Nat → Int32} {ks vs : Nat} {sz : Nat} (hsz : sz ≤ 21) (h2 : I 2 = nI sz) : Met l yX0_firstFault (Wm yX0_firstFault cX0_firstFault 2 (some .int)) ({ frames := 6, cells := 0, slots := 0, locals := 134 }) (va_Pc [.ref (B 1)] (PS D (TYS cI cB cS) (wsB B cI cS I F) ks vs)) (QcV (some (.int (nI (fltN (cStand (F 7)) sz 0))))) 0 0 (fun _ => False) := by
  refine metS (by decide) [.ref (B 1)] (Nat.le_of_ble_eq_true rfl) ?_
  intro p e s m args below meth c hx hb hml hr hlk hown hts hKK hP hSF ls hl
  obtain ⟨hK, hN⟩ := id hKK
  have hl : lv_has ls 2 [(0, .ref (B 1))] := hl
  have hfl := fltN_le (cStand (F 7)) sz 0
  refine lv_iconst (v := (0 : Int32)) hx hb dX0_firstFault_0 (by decide) ?_
  refine lv_istore_n (lv' := [(1, .int (0 : Int32)), (0, .ref (B 1))]) hx hb dX0_firstFault_1 rfl hl (by decide) rfl (fun ls hl => ?_)
  have loop_2 : ∀ (z : Nat) (k : Nat) (x1 : Int32), x1 = nI k → (k ≤ sz) → (fltN (cStand (F 7)) (sz - k) k = fltN (cStand (F 7)) sz 0) → sz - k < z → ∀ (ls : Array Slot), lv_has ls 2 [(0, .ref (B 1)), (1, .int x1)] → W p l e ({ frames := 6, cells := 0, slots := 0, locals := 134 } : Room) s m args below meth c s.heap [] 0 0 (MQ below (QcV (some (.int (nI (fltN (cStand (F 7)) sz 0))))) args s 0 0 (fun _ => False)) (F0 m 2 ls []) := by
    intro z
    induction z with
    | zero =>
      intro k x1 ex1 hk hF hz
      exact absurd hz (Nat.not_lt_zero _)
    | succ z ih_2 =>
      intro k x1 ex1 hk hF hz ls hl
      subst ex1
      refine lv_iload_n hx hb dX0_firstFault_2 rfl (lv_at hl 1 rfl) ?_
      refine lv_aload_n hx hb dX0_firstFault_3 rfl (lv_at hl 0 rfl) ?_
      refine va_get (D := D) (ci := 0) (v := .int (I 2)) (C := RX0) (T := TX0) (N := 2) hx hb hts inlX0 hown hK hP 1 rfl rfl 1 (by decide) (hts _ kw_34) (fun _ h9 => h9) rfl dX0_firstFault_4 ?_
      refine topE (z := (nI sz)) h2 ?_
      refine lv_icmp_ge (tgt := 26) hx hb dX0_firstFault_7 (by decide) (fun c_1 => ?_) (fun c_1 => ?_)
      · have nc_1 : sz ≤ k := (nI_leI (a := sz) (b := k) (by omega) (by omega)).mp c_1
        refine lv_aload_n hx hb dX0_firstFault_26 rfl (lv_at hl 0 rfl) ?_
        refine va_get (D := D) (ci := 0) (v := .int (I 2)) (C := RX0) (T := TX0) (N := 2) hx hb hts inlX0 hown hK hP 1 rfl rfl 1 (by decide) (hts _ kw_34) (fun _ h9 => h9) rfl dX0_firstFault_27 ?_
        refine topE (z := (nI sz)) h2 ?_
        exact retRi hx hb hr hlk dX0_firstFault_30 (by have hkn : k = sz := (by omega); rw [hkn, Nat.sub_self] at hF; exact congrArg nI hF)
      · have nc_1 : ¬ sz ≤ k := fun h => c_1 ((nI_leI (a := sz) (b := k) (by omega) (by omega)).mpr h)
        refine lv_aload_n hx hb dX0_firstFault_10 rfl (lv_at hl 0 rfl) ?_
        refine lv_iload_n hx hb dX0_firstFault_11 rfl (lv_at hl 1 rfl) ?_
        refine rsVi (As := [.int (nI k)]) (rest := []) hx hb hml hown hts hKK hP hSF (c_X0_canStandAt l D cI cB cS (k := k) (by omega)) (cwV2 1 hts kw_110 kw_14 kw_107 kw_108 kw_109 rfl rfl (by decide +kernel) ⟨Nat.le_of_ble_eq_true rfl, Nat.le_of_ble_eq_true rfl⟩) 1 rfl rfl rfl rfl hl.1 rfl (Nat.le_of_ble_eq_true rfl) ⟨Nat.zero_le _, Nat.zero_le _⟩ dX0_firstFault_12 ?_
        refine topE (z := (b2 (cStand (F 7) k))) rfl ?_
        refine lv_if_ne (tgt := 20) hx hb dX0_firstFault_15 (by decide) (fun c_2 => ?_) (fun c_2 => ?_)
        · have c_2 := b2_nz c_2
          refine lv_iinc (v := (nI (k + 1))) (lv' := [(1, .int (nI (k + 1))), (0, .ref (B 1))]) hx hb dX0_firstFault_20 hl (k := 1) rfl (nI_add k 1) (by decide) rfl (fun ls hl => ?_)
          refine lv_goto (tgt := 2) hx hb dX0_firstFault_23 (by decide) ?_
          exact ih_2 (k + 1) (nI (k + 1)) rfl (by omega) (by exact (fltN_step (by omega) hF).1 c_2) (by omega) ls (lv_sub hl [1, 0] rfl)
        · have c_2 := b2_z c_2
          refine lv_iload_n hx hb dX0_firstFault_18 rfl (lv_at hl 1 rfl) ?_
          exact retRi hx hb hr hlk dX0_firstFault_19 (by exact congrArg nI ((fltN_step (by omega) hF).2 c_2))
  exact loop_2 ((sz - 0) + 1) 0 (0 : Int32) rfl (by omega) (by rfl) (by omega) ls (lv_sub hl [1, 0] rfl)
set_option maxHeartbeats 1000000 in
set_option maxRecDepth 100000 in
theorem c_X0_isLeaf (l : Launch) (D : va_G) (cI cB cS : ClassId) {B : Nat → Nat} {I : Nat → Int32} {F : Nat → Nat → Int32} {ks vs : Nat} {sz : Nat} (hsz : sz ≤ 21) (h2 : I 2 = nI sz) : Met l yX0_isLeaf (Wm yX0_isLeaf cX0_isLeaf 1 (some .boolean)) ({ frames := 7, cells := 0, slots := 0, locals := 155 }) (va_Pc [.ref (B 1)] (PS D (TYS cI cB cS) (wsB B cI cS I F) ks vs)) (QcV (some (.int (b2 (cIsL (F 7) sz))))) 0 0 (fun _ => False) := by
  refine metS (by decide) [.ref (B 1)] (Nat.le_of_ble_eq_true rfl) ?_
  intro p e s m args below meth c hx hb hml hr hlk hown hts hKK hP hSF ls hl
  obtain ⟨hK, hN⟩ := id hKK
  have hl : lv_has ls 1 [(0, .ref (B 1))] := hl
  have hfl := fltN_le (cStand (F 7)) sz 0
  refine lv_aload_n hx hb dX0_isLeaf_0 rfl (lv_at hl 0 rfl) ?_
  refine va_get (D := D) (ci := 0) (v := .int (I 2)) (C := RX0) (T := TX0) (N := 2) hx hb hts inlX0 hown hK hP 1 rfl rfl 1 (by decide) (hts _ kw_34) (fun _ h9 => h9) rfl dX0_isLeaf_1 ?_
  refine topE (z := (nI sz)) h2 ?_
  refine lv_iconst (v := (5 : Int32)) hx hb dX0_isLeaf_4 (by decide) ?_
  refine lv_irem hx hb dX0_isLeaf_5 (by decide) ?_
  refine topE (z := (nI (sz % 5))) (pk_rem (a := sz) (d := 5) (by omega) (by omega) (by omega)) ?_
  refine lv_iconst (v := (4 : Int32)) hx hb dX0_isLeaf_6 (by decide) ?_
  refine lv_icmp_ne (tgt := 25) hx hb dX0_isLeaf_7 (by decide) (fun c_1 => ?_) (fun c_1 => ?_)
  · have nc_1 : ¬ (sz % 5) = 4 := fun h => c_1 ((nI_eq (a := (sz % 5)) (b := 4) (by omega) (by omega)).mpr h)
    refine lv_iconst (v := (0 : Int32)) hx hb dX0_isLeaf_25 (by decide) ?_
    exact retRz hx hb hr hlk dX0_isLeaf_26 (by exact b2_f (fun h => absurd h.1 (by omega)))
  · have nc_1 : (sz % 5) = 4 := (nI_eq (a := (sz % 5)) (b := 4) (by omega) (by omega)).mp c_1
    refine lv_aload_n hx hb dX0_isLeaf_10 rfl (lv_at hl 0 rfl) ?_
    refine rsVi (As := []) (rest := []) hx hb hml hown hts hKK hP hSF (c_X0_firstFault l D cI cB cS hsz h2) (cwV2 0 hts kw_106 kw_14 kw_235 kw_104 kw_105 rfl rfl (by decide +kernel) ⟨Nat.le_of_ble_eq_true rfl, Nat.le_of_ble_eq_true rfl⟩) 1 rfl rfl rfl rfl hl.1 rfl (Nat.le_of_ble_eq_true rfl) ⟨Nat.zero_le _, Nat.zero_le _⟩ dX0_isLeaf_11 ?_
    refine topE (z := (nI (fltN (cStand (F 7)) sz 0))) rfl ?_
    refine lv_aload_n hx hb dX0_isLeaf_14 rfl (lv_at hl 0 rfl) ?_
    refine va_get (D := D) (ci := 0) (v := .int (I 2)) (C := RX0) (T := TX0) (N := 2) hx hb hts inlX0 hown hK hP 1 rfl rfl 1 (by decide) (hts _ kw_34) (fun _ h9 => h9) rfl dX0_isLeaf_15 ?_
    refine topE (z := (nI sz)) h2 ?_
    refine lv_icmp_ne (tgt := 25) hx hb dX0_isLeaf_18 (by decide) (fun c_2 => ?_) (fun c_2 => ?_)
    · have nc_2 : ¬ (fltN (cStand (F 7)) sz 0) = sz := fun h => c_2 ((nI_eq (a := (fltN (cStand (F 7)) sz 0)) (b := sz) (by omega) (by omega)).mpr h)
      refine lv_iconst (v := (0 : Int32)) hx hb dX0_isLeaf_25 (by decide) ?_
      exact retRz hx hb hr hlk dX0_isLeaf_26 (by exact b2_f (fun h => absurd h.2 (by omega)))
    · have nc_2 : (fltN (cStand (F 7)) sz 0) = sz := (nI_eq (a := (fltN (cStand (F 7)) sz 0)) (b := sz) (by omega) (by omega)).mp c_2
      refine lv_iconst (v := (1 : Int32)) hx hb dX0_isLeaf_21 (by decide) ?_
      refine lv_goto (tgt := 26) hx hb dX0_isLeaf_22 (by decide) ?_
      exact retRz hx hb hr hlk dX0_isLeaf_26 (by exact b2_t ⟨by omega, by omega⟩)
set_option maxHeartbeats 1000000 in
set_option maxRecDepth 100000 in
theorem c_X3_fault (l : Launch) (D : va_G) (cI cB cS : ClassId) {B : Nat → Nat} {I : Nat → Int32} {F : Nat → Nat → Int32} {ks vs : Nat} {sz : Nat} (hsz : sz ≤ 21) (h2 : I 2 = nI sz) : Met l yX3_fault (Wm yX3_fault cX3_fault 1 (some .int)) ({ frames := 7, cells := 0, slots := 0, locals := 155 }) (va_Pc [.ref (B 0)] (PS D (TYS cI cB cS) (wsB B cI cS I F) ks vs)) (QcV (some (.int (nI (fltN (cStand (F 7)) sz 0))))) 0 0 (fun _ => False) := by
  refine metS (by decide) [.ref (B 0)] (Nat.le_of_ble_eq_true rfl) ?_
  intro p e s m args below meth c hx hb hml hr hlk hown hts hKK hP hSF ls hl
  obtain ⟨hK, hN⟩ := id hKK
  have hl : lv_has ls 1 [(0, .ref (B 0))] := hl
  refine lv_aload_n hx hb dX3_fault_0 rfl (lv_at hl 0 rfl) ?_
  refine va_get (D := D) (ci := 3) (v := .ref (B 1)) (C := RX3) (T := TX3) (N := 8) hx hb hts inlX3 hown hK hP 0 rfl rfl 0 (by decide) (hts _ kw_15) (fun _ h9 => h9) rfl dX3_fault_1 ?_
  refine rsVi (As := []) (rest := []) hx hb hml hown hts hKK hP hSF (c_X0_firstFault l D cI cB cS hsz h2) (cwV2 0 hts kw_106 kw_14 kw_103 kw_104 kw_105 rfl rfl (by decide +kernel) ⟨Nat.le_of_ble_eq_true rfl, Nat.le_of_ble_eq_true rfl⟩) 1 rfl rfl rfl rfl hl.1 rfl (Nat.le_of_ble_eq_true rfl) ⟨Nat.zero_le _, Nat.zero_le _⟩ dX3_fault_4 ?_
  refine topE (z := (nI (fltN (cStand (F 7)) sz 0))) rfl ?_
  exact retRi hx hb hr hlk dX3_fault_7 rfl
set_option maxHeartbeats 1000000 in
set_option maxRecDepth 100000 in
theorem c_X0_append_a (l : Launch) (D : va_G) (cI cB cS : ClassId) {B : Nat → Nat} {I : Nat → Int32} {F : Nat → Nat → Int32} {sz : Nat} (hsz : sz ≤ 21) (h2 : I 2 = nI sz) (hv : sz < 21) (p0 : Int32) : Met l yX0_append (Wm yX0_append cX0_append 2 (some .boolean)) ({ frames := 0, cells := 0, slots := 0, locals := 0 }) (va_Pc [.ref (B 1), .int p0] (PW D (TYS cI cB cS) (wsB B cI cS I F))) (QcW D (some (.int (b2 (sz < 21)))) (wsB B cI cS I F) (wsB B cI cS (upd I 2 (nI (sz + 1))) (va_up F 7 (upd (F 7) sz p0)))) 0 0 (FPw (wsB B cI cS I F)) := by
  refine metW (by decide) [.ref (B 1), .int p0] (Nat.le_of_ble_eq_true rfl) ?_
  intro p e s m args below meth c hx hb hml hr hlk hown hts hKK hP hD hS ls hl
  obtain ⟨hK, hN⟩ := id hKK
  have hl : lv_has ls 2 [(0, .ref (B 1)), (1, .int p0)] := hl
  refine lv_aload_n hx hb dX0_append_0 rfl (lv_at hl 0 rfl) ?_
  refine va_get (D := D) (ci := 0) (v := .int (I 2)) (C := RX0) (T := TX0) (N := 2) hx hb hts inlX0 hown hK hP 1 rfl rfl 1 (by decide) (hts _ kw_34) (fun _ h9 => h9) rfl dX0_append_1 ?_
  refine topE (z := (nI sz)) h2 ?_
  refine lv_if_lt (tgt := 19) hx hb dX0_append_4 (by decide) (fun c_1 => ?_) (fun c_1 => ?_)
  · have nc_1 : sz < 0 := (nI_ltI (a := sz) (b := 0) (by omega) (by omega)).mp c_1
    exfalso; omega
  · have nc_1 : ¬ sz < 0 := fun h => c_1 ((nI_ltI (a := sz) (b := 0) (by omega) (by omega)).mpr h)
    refine lv_aload_n hx hb dX0_append_7 rfl (lv_at hl 0 rfl) ?_
    refine va_get (D := D) (ci := 0) (v := .int (I 2)) (C := RX0) (T := TX0) (N := 2) hx hb hts inlX0 hown hK hP 1 rfl rfl 1 (by decide) (hts _ kw_34) (fun _ h9 => h9) rfl dX0_append_8 ?_
    refine topE (z := (nI sz)) h2 ?_
    refine lv_aload_n hx hb dX0_append_11 rfl (lv_at hl 0 rfl) ?_
    refine va_get (D := D) (ci := 0) (v := .ref (B 7)) (C := RX0) (T := TX0) (N := 2) hx hb hts inlX0 hown hK hP 1 rfl rfl 0 (by decide) (hts _ kw_33) (fun _ h9 => h9) rfl dX0_append_12 ?_
    refine va_alen (D := D) hx hb hK hP 7 0 rfl rfl (v := (21 : Int32)) rfl dX0_append_15 ?_
    refine lv_icmp_lt (tgt := 21) hx hb dX0_append_16 (by decide) (fun c_2 => ?_) (fun c_2 => ?_)
    · have nc_2 : sz < 21 := (nI_ltI (a := sz) (b := 21) (by omega) (by omega)).mp c_2
      refine lv_aload_n hx hb dX0_append_21 rfl (lv_at hl 0 rfl) ?_
      refine va_get (D := D) (ci := 0) (v := .ref (B 7)) (C := RX0) (T := TX0) (N := 2) hx hb hts inlX0 hown hK hP 1 rfl rfl 0 (by decide) (hts _ kw_33) (fun _ h9 => h9) rfl dX0_append_22 ?_
      refine lv_aload_n hx hb dX0_append_25 rfl (lv_at hl 0 rfl) ?_
      refine va_get (D := D) (ci := 0) (v := .int (I 2)) (C := RX0) (T := TX0) (N := 2) hx hb hts inlX0 hown hK hP 1 rfl rfl 1 (by decide) (hts _ kw_34) (fun _ h9 => h9) rfl dX0_append_26 ?_
      refine topE (z := (nI sz)) h2 ?_
      refine lv_iload_n hx hb dX0_append_29 rfl (lv_at hl 1 rfl) ?_
      refine va_iast (D := D) hx hb hK hP hD hS 7 0 rfl rfl (vp_in_nI (by omega) (by omega)) dX0_append_30 (fun H locs hP hD hS => ?_)
      rw [nI_clamp (n := sz) (by omega)] at hP hD
      have hP : va_P D vwCl (wsB B cI cS I (va_up F 7 (upd (F 7) sz p0))) H := hP
      have hD : va_D (FPw (wsB B cI cS I F)) (wsB B cI cS I (va_up F 7 (upd (F 7) sz p0))) := hD
      refine lv_aload_n hx hb dX0_append_31 rfl (lv_at hl 0 rfl) ?_
      refine lv_dup hx hb dX0_append_32 rfl ?_
      refine va_get (D := D) (ci := 0) (v := .int (I 2)) (C := RX0) (T := TX0) (N := 2) hx hb hts inlX0 hown hK hP 1 rfl rfl 1 (by decide) (hts _ kw_34) (fun _ h9 => h9) rfl dX0_append_33 ?_
      refine topE (z := (nI sz)) h2 ?_
      refine lv_iconst (v := (1 : Int32)) hx hb dX0_append_36 (by decide) ?_
      refine lv_iadd hx hb dX0_append_37 ?_
      refine topE (z := (nI (sz + 1))) (nI_add sz 1) ?_
      refine va_put (D := D) (ci := 0) (v := .int (nI (sz + 1))) (ty := tyX0 1) (C := RX0) (T := TX0) (N := 2) hx hb hts inlX0 tyX0 tyX0_ok nmX0 hown hK hP hD hS 1 rfl rfl 1 (by decide) (hts _ kw_34) (fun _ h9 => h9) rfl (tyX0_ok 1 (by decide)) rfl rfl (Nat.le_of_ble_eq_true rfl) dX0_append_38 (fun H locs hP hD hS => ?_)
      have hP : va_P D vwCl (wsB B cI cS (upd I 2 (nI (sz + 1))) (va_up F 7 (upd (F 7) sz p0))) H := hP
      have hD : va_D (FPw (wsB B cI cS I F)) (wsB B cI cS (upd I 2 (nI (sz + 1))) (va_up F 7 (upd (F 7) sz p0))) := hD
      refine lv_iconst (v := (1 : Int32)) hx hb dX0_append_41 (by decide) ?_
      exact retWz hx hb hr hlk hP hS dX0_append_42 (by exact b2_t hv) rfl
    · have nc_2 : ¬ sz < 21 := fun h => c_2 ((nI_ltI (a := sz) (b := 21) (by omega) (by omega)).mpr h)
      exfalso; omega
set_option maxHeartbeats 1000000 in
set_option maxRecDepth 100000 in
theorem c_X0_append_b (l : Launch) (D : va_G) (cI cB cS : ClassId) {B : Nat → Nat} {I : Nat → Int32} {F : Nat → Nat → Int32} {sz : Nat} (hsz : sz ≤ 21) (h2 : I 2 = nI sz) (hv : ¬ sz < 21) (p0 : Int32) : Met l yX0_append (Wm yX0_append cX0_append 2 (some .boolean)) ({ frames := 0, cells := 0, slots := 0, locals := 0 }) (va_Pc [.ref (B 1), .int p0] (PW D (TYS cI cB cS) (wsB B cI cS I F))) (QcW D (some (.int (b2 (sz < 21)))) (wsB B cI cS I F) (wsB B cI cS I F)) 0 0 (FPw (wsB B cI cS I F)) := by
  refine metW (by decide) [.ref (B 1), .int p0] (Nat.le_of_ble_eq_true rfl) ?_
  intro p e s m args below meth c hx hb hml hr hlk hown hts hKK hP hD hS ls hl
  obtain ⟨hK, hN⟩ := id hKK
  have hl : lv_has ls 2 [(0, .ref (B 1)), (1, .int p0)] := hl
  refine lv_aload_n hx hb dX0_append_0 rfl (lv_at hl 0 rfl) ?_
  refine va_get (D := D) (ci := 0) (v := .int (I 2)) (C := RX0) (T := TX0) (N := 2) hx hb hts inlX0 hown hK hP 1 rfl rfl 1 (by decide) (hts _ kw_34) (fun _ h9 => h9) rfl dX0_append_1 ?_
  refine topE (z := (nI sz)) h2 ?_
  refine lv_if_lt (tgt := 19) hx hb dX0_append_4 (by decide) (fun c_1 => ?_) (fun c_1 => ?_)
  · have nc_1 : sz < 0 := (nI_ltI (a := sz) (b := 0) (by omega) (by omega)).mp c_1
    exfalso; omega
  · have nc_1 : ¬ sz < 0 := fun h => c_1 ((nI_ltI (a := sz) (b := 0) (by omega) (by omega)).mpr h)
    refine lv_aload_n hx hb dX0_append_7 rfl (lv_at hl 0 rfl) ?_
    refine va_get (D := D) (ci := 0) (v := .int (I 2)) (C := RX0) (T := TX0) (N := 2) hx hb hts inlX0 hown hK hP 1 rfl rfl 1 (by decide) (hts _ kw_34) (fun _ h9 => h9) rfl dX0_append_8 ?_
    refine topE (z := (nI sz)) h2 ?_
    refine lv_aload_n hx hb dX0_append_11 rfl (lv_at hl 0 rfl) ?_
    refine va_get (D := D) (ci := 0) (v := .ref (B 7)) (C := RX0) (T := TX0) (N := 2) hx hb hts inlX0 hown hK hP 1 rfl rfl 0 (by decide) (hts _ kw_33) (fun _ h9 => h9) rfl dX0_append_12 ?_
    refine va_alen (D := D) hx hb hK hP 7 0 rfl rfl (v := (21 : Int32)) rfl dX0_append_15 ?_
    refine lv_icmp_lt (tgt := 21) hx hb dX0_append_16 (by decide) (fun c_2 => ?_) (fun c_2 => ?_)
    · have nc_2 : sz < 21 := (nI_ltI (a := sz) (b := 21) (by omega) (by omega)).mp c_2
      exfalso; omega
    · have nc_2 : ¬ sz < 21 := fun h => c_2 ((nI_ltI (a := sz) (b := 21) (by omega) (by omega)).mpr h)
      refine lv_iconst (v := (0 : Int32)) hx hb dX0_append_19 (by decide) ?_
      exact retWz hx hb hr hlk hP hS dX0_append_20 (by exact b2_f hv) rfl
set_option maxHeartbeats 1000000 in
set_option maxRecDepth 100000 in
theorem c_X3_letter (l : Launch) (D : va_G) (cI cB cS : ClassId) {B : Nat → Nat} {I : Nat → Int32} {F : Nat → Nat → Int32} {sz : Nat} (hsz : sz ≤ 21) (h2 : I 2 = nI sz) (p0 : Int32) : Met l yX3_letter (Wm yX3_letter cX3_letter 2 (some .int)) ({ frames := 1, cells := 0, slots := 0, locals := 21 }) (va_Pc [.ref (B 0), .int p0] (PW D (TYS cI cB cS) (wsB B cI cS I F))) (QcW D (some (.int (if okL p0 then (if sz < 21 then nI (sz + 1) else -104) else -102))) (wsB B cI cS I F) (if okL p0 ∧ sz < 21 then wsB B cI cS (upd I 2 (nI (sz + 1))) (va_up F 7 (upd (F 7) sz p0)) else wsB B cI cS I F)) 0 0 (FPw (wsB B cI cS I F)) := by
  refine metW (by decide) [.ref (B 0), .int p0] (Nat.le_of_ble_eq_true rfl) ?_
  intro p e s m args below meth c hx hb hml hr hlk hown hts hKK hP hD hS ls hl
  obtain ⟨hK, hN⟩ := id hKK
  have hl : lv_has ls 2 [(0, .ref (B 0)), (1, .int p0)] := hl
  refine lv_iload_n hx hb dX3_letter_0 rfl (lv_at hl 1 rfl) ?_
  refine lv_bipush (v := (32 : Int32)) hx hb dX3_letter_1 (by decide) ?_
  refine lv_icmp_lt (tgt := 12) hx hb dX3_letter_3 (by decide) (fun c_1 => ?_) (fun c_1 => ?_)
  · refine lv_bipush (v := (-102 : Int32)) hx hb dX3_letter_12 (by decide) ?_
    exact retWi hx hb hr hlk hP hS dX3_letter_14 (by grind) (by first | exact (if_pos (by grind)).symm | exact (if_neg (by grind)).symm)
  · refine lv_iload_n hx hb dX3_letter_6 rfl (lv_at hl 1 rfl) ?_
    refine lv_bipush (v := (126 : Int32)) hx hb dX3_letter_7 (by decide) ?_
    refine lv_icmp_le (tgt := 15) hx hb dX3_letter_9 (by decide) (fun c_2 => ?_) (fun c_2 => ?_)
    · rcases Decidable.em (sz < 21) with hf | hf
      · refine lv_aload_n hx hb dX3_letter_15 rfl (lv_at hl 0 rfl) ?_
        refine va_get (D := D) (ci := 3) (v := .ref (B 1)) (C := RX3) (T := TX3) (N := 8) hx hb hts inlX3 hown hK hP 0 rfl rfl 0 (by decide) (hts _ kw_15) (fun _ h9 => h9) rfl dX3_letter_16 ?_
        refine lv_iload_n hx hb dX3_letter_19 rfl (lv_at hl 1 rfl) ?_
        refine wcVi (As := [.int p0]) (rest := []) hx hb hml hown hts hKK hP hD hS (c_X0_append_a l D cI cB cS hsz h2 hf p0) (cwV2 1 hts kw_82 kw_14 kw_79 kw_80 kw_81 rfl rfl (by decide +kernel) ⟨Nat.le_of_ble_eq_true rfl, Nat.le_of_ble_eq_true rfl⟩) 1 rfl rfl rfl rfl hl.1 rfl (Nat.le_of_ble_eq_true rfl) ⟨Nat.zero_le _, Nat.zero_le _⟩ dX3_letter_20 (fun H locs hP hS => ?_)
        have hP : va_P D vwCl (wsB B cI cS (upd I 2 (nI (sz + 1))) (va_up F 7 (upd (F 7) sz p0))) H := hP
        have hD : va_D (FPw (wsB B cI cS I F)) (wsB B cI cS (upd I 2 (nI (sz + 1))) (va_up F 7 (upd (F 7) sz p0))) := va_D_addr (ws := (wsB B cI cS I F)) (wsB_fst.trans wsB_fst.symm) hD
        refine lv_if_eq (tgt := 36) hx hb dX3_letter_23 (by decide) (fun c_3 => ?_) (fun c_3 => ?_)
        · have c_3 := b2_z c_3
          exact absurd hf c_3
        · have c_3 := b2_nz c_3
          refine lv_aload_n hx hb dX3_letter_26 rfl (lv_at hl 0 rfl) ?_
          refine va_get (D := D) (ci := 3) (v := .ref (B 1)) (C := RX3) (T := TX3) (N := 8) hx hb hts inlX3 hown hK hP 0 rfl rfl 0 (by decide) (hts _ kw_15) (fun _ h9 => h9) rfl dX3_letter_27 ?_
          refine va_getN (D := D) (ci := 0) (v := .int (nI (sz + 1))) (C := RX0) (T := TX0) (N := 2) hx hb hts inlX0 hown hK hP 1 rfl rfl 1 (by decide) (nfF_0 hN) (fun _ h9 => h9) rfl dX3_letter_30 ?_
          refine lv_goto (tgt := 38) hx hb dX3_letter_33 (by decide) ?_
          exact retWi hx hb hr hlk hP hS dX3_letter_38 (by grind) (by first | exact (if_pos (by grind)).symm | exact (if_neg (by grind)).symm)
      · refine lv_aload_n hx hb dX3_letter_15 rfl (lv_at hl 0 rfl) ?_
        refine va_get (D := D) (ci := 3) (v := .ref (B 1)) (C := RX3) (T := TX3) (N := 8) hx hb hts inlX3 hown hK hP 0 rfl rfl 0 (by decide) (hts _ kw_15) (fun _ h9 => h9) rfl dX3_letter_16 ?_
        refine lv_iload_n hx hb dX3_letter_19 rfl (lv_at hl 1 rfl) ?_
        refine wcVi (As := [.int p0]) (rest := []) hx hb hml hown hts hKK hP hD hS (c_X0_append_b l D cI cB cS hsz h2 hf p0) (cwV2 1 hts kw_82 kw_14 kw_79 kw_80 kw_81 rfl rfl (by decide +kernel) ⟨Nat.le_of_ble_eq_true rfl, Nat.le_of_ble_eq_true rfl⟩) 1 rfl rfl rfl rfl hl.1 rfl (Nat.le_of_ble_eq_true rfl) ⟨Nat.zero_le _, Nat.zero_le _⟩ dX3_letter_20 (fun H locs hP hS => ?_)
        have hP : va_P D vwCl (wsB B cI cS I F) H := hP
        have hD : va_D (FPw (wsB B cI cS I F)) (wsB B cI cS I F) := va_D_addr (ws := (wsB B cI cS I F)) (wsB_fst.trans wsB_fst.symm) hD
        refine lv_if_eq (tgt := 36) hx hb dX3_letter_23 (by decide) (fun c_4 => ?_) (fun c_4 => ?_)
        · have c_4 := b2_z c_4
          refine lv_bipush (v := (-104 : Int32)) hx hb dX3_letter_36 (by decide) ?_
          exact retWi hx hb hr hlk hP hS dX3_letter_38 (by grind) (by first | exact (if_pos (by grind)).symm | exact (if_neg (by grind)).symm)
        · have c_4 := b2_nz c_4
          exact absurd c_4 hf
    · refine lv_bipush (v := (-102 : Int32)) hx hb dX3_letter_12 (by decide) ?_
      exact retWi hx hb hr hlk hP hS dX3_letter_14 (by grind) (by first | exact (if_pos (by grind)).symm | exact (if_neg (by grind)).symm)
set_option maxHeartbeats 1000000 in
set_option maxRecDepth 100000 in
theorem c_X3_leaf (l : Launch) (D : va_G) (cI cB cS : ClassId) {B : Nat → Nat} {I : Nat → Int32} {F : Nat → Nat → Int32} {ks vs : Nat} {sz : Nat} (hsz : sz ≤ 21) (h2 : I 2 = nI sz) : Met l yX3_leaf (Wm yX3_leaf cX3_leaf 3 (some .int)) ({ frames := 8, cells := 0, slots := 0, locals := 175 }) (va_Pc [.ref (B 0)] (PWS D (TYS cI cB cS) (wsB B cI cS I F) ks vs)) (QcW D (some (.int (if cIsL (F 7) sz then nI ((sz + 1) / 5) else -103))) (wsB B cI cS I F) (if cIsL (F 7) sz then wsB B cI cS (upd (upd (upd (upd (upd (upd (upd I 3 (nI ((sz + 1) / 5))) 4 0) 5 0) 6 0) 0 0) 1 (I 1 + 1)) 2 0) (va_up (va_up (va_up (va_up (va_up F 16 (rowN (fun s => cKind (F 7 (5 * s))) (F 16) ((sz + 1) / 5))) 17 (rowN (fun s => F 7 (5 * s + 1) - 48) (F 17) ((sz + 1) / 5))) 18 (rowN (fun s => if (10 : Int32) - (F 7 (5 * s + 1) - 48) < F 7 (5 * s + 2) - 48 then (10 : Int32) - (F 7 (5 * s + 1) - 48) else F 7 (5 * s + 2) - 48) (F 18) ((sz + 1) / 5))) 19 (rowN (fun s => F 7 (5 * s + 3) - 48) (F 19) ((sz + 1) / 5))) 8 (rowN (fun _ => 0) (F 8) 10)) else wsB B cI cS I F)) 0 0 (FPw (wsB B cI cS I F)) := by
  refine metWS (by decide) [.ref (B 0)] (Nat.le_of_ble_eq_true rfl) ?_
  intro p e s m args below meth c hx hb hml hr hlk hown hts hKK hP hD hS hSF ls hl
  obtain ⟨hK, hN⟩ := id hKK
  have hl : lv_has ls 3 [(0, .ref (B 0))] := hl
  refine lv_aload_n hx hb dX3_leaf_0 rfl (lv_at hl 0 rfl) ?_
  refine va_get (D := D) (ci := 3) (v := .ref (B 1)) (C := RX3) (T := TX3) (N := 8) hx hb hts inlX3 hown hK hP 0 rfl rfl 0 (by decide) (hts _ kw_15) (fun _ h9 => h9) rfl dX3_leaf_1 ?_
  refine rsVi (As := []) (rest := []) hx hb hml hown hts hKK hP (hSF.at hS) (c_X0_isLeaf l D cI cB cS hsz h2) (cwV2 0 hts kw_234 kw_14 kw_231 kw_232 kw_233 rfl rfl (by decide +kernel) ⟨Nat.le_of_ble_eq_true rfl, Nat.le_of_ble_eq_true rfl⟩) 1 rfl rfl rfl rfl hl.1 rfl (Nat.le_of_ble_eq_true rfl) ⟨Nat.zero_le _, Nat.zero_le _⟩ dX3_leaf_4 ?_
  refine topE (z := (b2 (cIsL (F 7) sz))) rfl ?_
  refine lv_if_ne (tgt := 13) hx hb dX3_leaf_7 (by decide) (fun c_1 => ?_) (fun c_1 => ?_)
  · have c_1 := b2_nz c_1
    refine lv_iconst (v := (0 : Int32)) hx hb dX3_leaf_13 (by decide) ?_
    refine lv_istore_n (lv' := [(1, .int (0 : Int32)), (0, .ref (B 0))]) hx hb dX3_leaf_14 rfl hl (by decide) rfl (fun ls hl => ?_)
    refine lv_iconst (v := (0 : Int32)) hx hb dX3_leaf_15 (by decide) ?_
    refine lv_istore_n (lv' := [(2, .int (0 : Int32)), (1, .int (0 : Int32)), (0, .ref (B 0))]) hx hb dX3_leaf_16 rfl hl (by decide) rfl (fun ls hl => ?_)
    have hm5 := (c_1).1
    have loop_17 : ∀ (z : Nat) (k : Nat) (x1 : Int32) (x2 : Int32), x1 = nI k → x2 = nI (5 * k) → (5 * k ≤ sz + 1) → sz + 1 - 5 * k < z → ∀ (H : Heap) (locs : List Loc), va_P D vwCl (wsB B cI cS I (va_up (va_up (va_up (va_up F 16 (rowN (fun s => cKind (F 7 (5 * s))) (F 16) k)) 17 (rowN (fun s => F 7 (5 * s + 1) - 48) (F 17) k)) 18 (rowN (fun s => if (10 : Int32) - (F 7 (5 * s + 1) - 48) < F 7 (5 * s + 2) - 48 then (10 : Int32) - (F 7 (5 * s + 1) - 48) else F 7 (5 * s + 2) - 48) (F 18) k)) 19 (rowN (fun s => F 7 (5 * s + 3) - 48) (F 19) k))) H → va_S (FPw (wsB B cI cS I F)) s.heap H locs → ∀ (ls : Array Slot), lv_has ls 3 [(0, .ref (B 0)), (1, .int x1), (2, .int x2)] → W p l e ({ frames := 8, cells := 0, slots := 0, locals := 175 } : Room) s m args below meth c H locs 0 0 (MQ below (QcW D (some (.int (if cIsL (F 7) sz then nI ((sz + 1) / 5) else -103))) (wsB B cI cS I F) (if cIsL (F 7) sz then wsB B cI cS (upd (upd (upd (upd (upd (upd (upd I 3 (nI ((sz + 1) / 5))) 4 0) 5 0) 6 0) 0 0) 1 (I 1 + 1)) 2 0) (va_up (va_up (va_up (va_up (va_up F 16 (rowN (fun s => cKind (F 7 (5 * s))) (F 16) ((sz + 1) / 5))) 17 (rowN (fun s => F 7 (5 * s + 1) - 48) (F 17) ((sz + 1) / 5))) 18 (rowN (fun s => if (10 : Int32) - (F 7 (5 * s + 1) - 48) < F 7 (5 * s + 2) - 48 then (10 : Int32) - (F 7 (5 * s + 1) - 48) else F 7 (5 * s + 2) - 48) (F 18) ((sz + 1) / 5))) 19 (rowN (fun s => F 7 (5 * s + 3) - 48) (F 19) ((sz + 1) / 5))) 8 (rowN (fun _ => 0) (F 8) 10)) else wsB B cI cS I F)) args s 0 0 (FPw (wsB B cI cS I F))) (F0 m 17 ls []) := by
      intro z
      induction z with
      | zero =>
        intro k x1 x2 ex1 ex2 hk hz
        exact absurd hz (Nat.not_lt_zero _)
      | succ z ih_17 =>
        intro k x1 x2 ex1 ex2 hk hz H locs hP hS ls hl
        subst ex1
        subst ex2
        have hD := va_D_addr (ws := (wsB B cI cS I F)) (ws' := (wsB B cI cS I (va_up (va_up (va_up (va_up F 16 (rowN (fun s => cKind (F 7 (5 * s))) (F 16) k)) 17 (rowN (fun s => F 7 (5 * s + 1) - 48) (F 17) k)) 18 (rowN (fun s => if (10 : Int32) - (F 7 (5 * s + 1) - 48) < F 7 (5 * s + 2) - 48 then (10 : Int32) - (F 7 (5 * s + 1) - 48) else F 7 (5 * s + 2) - 48) (F 18) k)) 19 (rowN (fun s => F 7 (5 * s + 3) - 48) (F 19) k)))) (wsB_fst.trans wsB_fst.symm) hD
        refine lv_iload_n hx hb dX3_leaf_17 rfl (lv_at hl 2 rfl) ?_
        refine lv_aload_n hx hb dX3_leaf_18 rfl (lv_at hl 0 rfl) ?_
        refine va_get (D := D) (ci := 3) (v := .ref (B 1)) (C := RX3) (T := TX3) (N := 8) hx hb hts inlX3 hown hK hP 0 rfl rfl 0 (by decide) (hts _ kw_15) (fun _ h9 => h9) rfl dX3_leaf_19 ?_
        refine va_getN (D := D) (ci := 0) (v := .int (I 2)) (C := RX0) (T := TX0) (N := 2) hx hb hts inlX0 hown hK hP 1 rfl rfl 1 (by decide) (nfF_0 hN) (fun _ h9 => h9) rfl dX3_leaf_22 ?_
        refine topE (z := (nI sz)) h2 ?_
        refine lv_icmp_ge (tgt := 93) hx hb dX3_leaf_25 (by decide) (fun c_2 => ?_) (fun c_2 => ?_)
        · have nc_2 : sz ≤ (5 * k) := (nI_leI (a := sz) (b := (5 * k)) (by omega) (by omega)).mp c_2
          have hkn : k = (sz + 1) / 5 := by omega
          subst hkn
          refine lv_aload_n hx hb dX3_leaf_93 rfl (lv_at hl 0 rfl) ?_
          refine va_get (D := D) (ci := 3) (v := .ref (B 3)) (C := RX3) (T := TX3) (N := 8) hx hb hts inlX3 hown hK hP 0 rfl rfl 2 (by decide) (hts _ kw_21) (fun _ h9 => h9) rfl dX3_leaf_94 ?_
          refine lv_iload_n hx hb dX3_leaf_97 rfl (lv_at hl 1 rfl) ?_
          refine wcVv (As := [.int (nI ((sz + 1) / 5))]) (rest := []) hx hb hml hown hts hKK hP hD hS (c_X1_begin l D cI cB cS (nI ((sz + 1) / 5))) (cwV2 1 hts kw_246 kw_20 kw_243 kw_244 kw_245 rfl rfl (by decide +kernel) ⟨Nat.le_of_ble_eq_true rfl, Nat.le_of_ble_eq_true rfl⟩) 3 rfl rfl rfl rfl hl.1 rfl (Nat.le_of_ble_eq_true rfl) ⟨Nat.zero_le _, Nat.zero_le _⟩ dX3_leaf_98 (fun H locs hP hS => ?_)
          have hP : va_P D vwCl (wsB B cI cS (upd (upd (upd (upd I 3 (nI ((sz + 1) / 5))) 4 (0 : Int32)) 5 (0 : Int32)) 6 (0 : Int32)) (va_up (va_up (va_up (va_up (va_up F 16 (rowN (fun s => cKind (F 7 (5 * s))) (F 16) ((sz + 1) / 5))) 17 (rowN (fun s => F 7 (5 * s + 1) - 48) (F 17) ((sz + 1) / 5))) 18 (rowN (fun s => if (10 : Int32) - (F 7 (5 * s + 1) - 48) < F 7 (5 * s + 2) - 48 then (10 : Int32) - (F 7 (5 * s + 1) - 48) else F 7 (5 * s + 2) - 48) (F 18) ((sz + 1) / 5))) 19 (rowN (fun s => F 7 (5 * s + 3) - 48) (F 19) ((sz + 1) / 5))) 8 (rowN (fun _ => 0) (F 8) 10))) H := hP
          have hD : va_D (FPw (wsB B cI cS I F)) (wsB B cI cS (upd (upd (upd (upd I 3 (nI ((sz + 1) / 5))) 4 (0 : Int32)) 5 (0 : Int32)) 6 (0 : Int32)) (va_up (va_up (va_up (va_up (va_up F 16 (rowN (fun s => cKind (F 7 (5 * s))) (F 16) ((sz + 1) / 5))) 17 (rowN (fun s => F 7 (5 * s + 1) - 48) (F 17) ((sz + 1) / 5))) 18 (rowN (fun s => if (10 : Int32) - (F 7 (5 * s + 1) - 48) < F 7 (5 * s + 2) - 48 then (10 : Int32) - (F 7 (5 * s + 1) - 48) else F 7 (5 * s + 2) - 48) (F 18) ((sz + 1) / 5))) 19 (rowN (fun s => F 7 (5 * s + 3) - 48) (F 19) ((sz + 1) / 5))) 8 (rowN (fun _ => 0) (F 8) 10))) := va_D_addr (ws := (wsB B cI cS I (va_up (va_up (va_up (va_up F 16 (rowN (fun s => cKind (F 7 (5 * s))) (F 16) ((sz + 1) / 5))) 17 (rowN (fun s => F 7 (5 * s + 1) - 48) (F 17) ((sz + 1) / 5))) 18 (rowN (fun s => if (10 : Int32) - (F 7 (5 * s + 1) - 48) < F 7 (5 * s + 2) - 48 then (10 : Int32) - (F 7 (5 * s + 1) - 48) else F 7 (5 * s + 2) - 48) (F 18) ((sz + 1) / 5))) 19 (rowN (fun s => F 7 (5 * s + 3) - 48) (F 19) ((sz + 1) / 5))))) (wsB_fst.trans wsB_fst.symm) hD
          refine lv_aload_n hx hb dX3_leaf_101 rfl (lv_at hl 0 rfl) ?_
          refine lv_iconst (v := (0 : Int32)) hx hb dX3_leaf_102 (by decide) ?_
          refine va_put (D := D) (ci := 3) (v := .int (0 : Int32)) (ty := tyX3 4) (C := RX3) (T := TX3) (N := 8) hx hb hts inlX3 tyX3 tyX3_ok nmX3 hown hK hP hD hS 0 rfl rfl 4 (by decide) (hts _ kw_23) (fun _ h9 => h9) rfl (tyX3_ok 4 (by decide)) rfl rfl (Nat.le_of_ble_eq_true rfl) dX3_leaf_103 (fun H locs hP hD hS => ?_)
          have hP : va_P D vwCl (wsB B cI cS (upd (upd (upd (upd (upd I 3 (nI ((sz + 1) / 5))) 4 (0 : Int32)) 5 (0 : Int32)) 6 (0 : Int32)) 0 (0 : Int32)) (va_up (va_up (va_up (va_up (va_up F 16 (rowN (fun s => cKind (F 7 (5 * s))) (F 16) ((sz + 1) / 5))) 17 (rowN (fun s => F 7 (5 * s + 1) - 48) (F 17) ((sz + 1) / 5))) 18 (rowN (fun s => if (10 : Int32) - (F 7 (5 * s + 1) - 48) < F 7 (5 * s + 2) - 48 then (10 : Int32) - (F 7 (5 * s + 1) - 48) else F 7 (5 * s + 2) - 48) (F 18) ((sz + 1) / 5))) 19 (rowN (fun s => F 7 (5 * s + 3) - 48) (F 19) ((sz + 1) / 5))) 8 (rowN (fun _ => 0) (F 8) 10))) H := hP
          have hD : va_D (FPw (wsB B cI cS I F)) (wsB B cI cS (upd (upd (upd (upd (upd I 3 (nI ((sz + 1) / 5))) 4 (0 : Int32)) 5 (0 : Int32)) 6 (0 : Int32)) 0 (0 : Int32)) (va_up (va_up (va_up (va_up (va_up F 16 (rowN (fun s => cKind (F 7 (5 * s))) (F 16) ((sz + 1) / 5))) 17 (rowN (fun s => F 7 (5 * s + 1) - 48) (F 17) ((sz + 1) / 5))) 18 (rowN (fun s => if (10 : Int32) - (F 7 (5 * s + 1) - 48) < F 7 (5 * s + 2) - 48 then (10 : Int32) - (F 7 (5 * s + 1) - 48) else F 7 (5 * s + 2) - 48) (F 18) ((sz + 1) / 5))) 19 (rowN (fun s => F 7 (5 * s + 3) - 48) (F 19) ((sz + 1) / 5))) 8 (rowN (fun _ => 0) (F 8) 10))) := hD
          refine lv_aload_n hx hb dX3_leaf_106 rfl (lv_at hl 0 rfl) ?_
          refine lv_dup hx hb dX3_leaf_107 rfl ?_
          refine va_get (D := D) (ci := 3) (v := .int (I 1)) (C := RX3) (T := TX3) (N := 8) hx hb hts inlX3 hown hK hP 0 rfl rfl 5 (by decide) (hts _ kw_24) (fun _ h9 => h9) rfl dX3_leaf_108 ?_
          refine lv_iconst (v := (1 : Int32)) hx hb dX3_leaf_111 (by decide) ?_
          refine lv_iadd hx hb dX3_leaf_112 ?_
          refine va_put (D := D) (ci := 3) (v := .int ((I 1) + (1 : Int32))) (ty := tyX3 5) (C := RX3) (T := TX3) (N := 8) hx hb hts inlX3 tyX3 tyX3_ok nmX3 hown hK hP hD hS 0 rfl rfl 5 (by decide) (hts _ kw_24) (fun _ h9 => h9) rfl (tyX3_ok 5 (by decide)) rfl rfl (Nat.le_of_ble_eq_true rfl) dX3_leaf_113 (fun H locs hP hD hS => ?_)
          have hP : va_P D vwCl (wsB B cI cS (upd (upd (upd (upd (upd (upd I 3 (nI ((sz + 1) / 5))) 4 (0 : Int32)) 5 (0 : Int32)) 6 (0 : Int32)) 0 (0 : Int32)) 1 ((I 1) + (1 : Int32))) (va_up (va_up (va_up (va_up (va_up F 16 (rowN (fun s => cKind (F 7 (5 * s))) (F 16) ((sz + 1) / 5))) 17 (rowN (fun s => F 7 (5 * s + 1) - 48) (F 17) ((sz + 1) / 5))) 18 (rowN (fun s => if (10 : Int32) - (F 7 (5 * s + 1) - 48) < F 7 (5 * s + 2) - 48 then (10 : Int32) - (F 7 (5 * s + 1) - 48) else F 7 (5 * s + 2) - 48) (F 18) ((sz + 1) / 5))) 19 (rowN (fun s => F 7 (5 * s + 3) - 48) (F 19) ((sz + 1) / 5))) 8 (rowN (fun _ => 0) (F 8) 10))) H := hP
          have hD : va_D (FPw (wsB B cI cS I F)) (wsB B cI cS (upd (upd (upd (upd (upd (upd I 3 (nI ((sz + 1) / 5))) 4 (0 : Int32)) 5 (0 : Int32)) 6 (0 : Int32)) 0 (0 : Int32)) 1 ((I 1) + (1 : Int32))) (va_up (va_up (va_up (va_up (va_up F 16 (rowN (fun s => cKind (F 7 (5 * s))) (F 16) ((sz + 1) / 5))) 17 (rowN (fun s => F 7 (5 * s + 1) - 48) (F 17) ((sz + 1) / 5))) 18 (rowN (fun s => if (10 : Int32) - (F 7 (5 * s + 1) - 48) < F 7 (5 * s + 2) - 48 then (10 : Int32) - (F 7 (5 * s + 1) - 48) else F 7 (5 * s + 2) - 48) (F 18) ((sz + 1) / 5))) 19 (rowN (fun s => F 7 (5 * s + 3) - 48) (F 19) ((sz + 1) / 5))) 8 (rowN (fun _ => 0) (F 8) 10))) := hD
          refine lv_aload_n hx hb dX3_leaf_116 rfl (lv_at hl 0 rfl) ?_
          refine va_get (D := D) (ci := 3) (v := .ref (B 1)) (C := RX3) (T := TX3) (N := 8) hx hb hts inlX3 hown hK hP 0 rfl rfl 0 (by decide) (hts _ kw_15) (fun _ h9 => h9) rfl dX3_leaf_117 ?_
          refine lv_iconst (v := (0 : Int32)) hx hb dX3_leaf_120 (by decide) ?_
          refine va_putN (D := D) (ci := 0) (v := .int (0 : Int32)) (ty := tyX0 1) (C := RX0) (T := TX0) (N := 2) hx hb hts inlX0 tyX0 tyX0_ok nmX0 hown hK hP hD hS 1 rfl rfl 1 (by decide) (nfF_0 hN) (fun _ h9 => h9) rfl (tyX0_ok 1 (by decide)) rfl rfl (Nat.le_of_ble_eq_true rfl) dX3_leaf_121 (fun H locs hP hD hS => ?_)
          have hP : va_P D vwCl (wsB B cI cS (upd (upd (upd (upd (upd (upd (upd I 3 (nI ((sz + 1) / 5))) 4 (0 : Int32)) 5 (0 : Int32)) 6 (0 : Int32)) 0 (0 : Int32)) 1 ((I 1) + (1 : Int32))) 2 (0 : Int32)) (va_up (va_up (va_up (va_up (va_up F 16 (rowN (fun s => cKind (F 7 (5 * s))) (F 16) ((sz + 1) / 5))) 17 (rowN (fun s => F 7 (5 * s + 1) - 48) (F 17) ((sz + 1) / 5))) 18 (rowN (fun s => if (10 : Int32) - (F 7 (5 * s + 1) - 48) < F 7 (5 * s + 2) - 48 then (10 : Int32) - (F 7 (5 * s + 1) - 48) else F 7 (5 * s + 2) - 48) (F 18) ((sz + 1) / 5))) 19 (rowN (fun s => F 7 (5 * s + 3) - 48) (F 19) ((sz + 1) / 5))) 8 (rowN (fun _ => 0) (F 8) 10))) H := hP
          have hD : va_D (FPw (wsB B cI cS I F)) (wsB B cI cS (upd (upd (upd (upd (upd (upd (upd I 3 (nI ((sz + 1) / 5))) 4 (0 : Int32)) 5 (0 : Int32)) 6 (0 : Int32)) 0 (0 : Int32)) 1 ((I 1) + (1 : Int32))) 2 (0 : Int32)) (va_up (va_up (va_up (va_up (va_up F 16 (rowN (fun s => cKind (F 7 (5 * s))) (F 16) ((sz + 1) / 5))) 17 (rowN (fun s => F 7 (5 * s + 1) - 48) (F 17) ((sz + 1) / 5))) 18 (rowN (fun s => if (10 : Int32) - (F 7 (5 * s + 1) - 48) < F 7 (5 * s + 2) - 48 then (10 : Int32) - (F 7 (5 * s + 1) - 48) else F 7 (5 * s + 2) - 48) (F 18) ((sz + 1) / 5))) 19 (rowN (fun s => F 7 (5 * s + 3) - 48) (F 19) ((sz + 1) / 5))) 8 (rowN (fun _ => 0) (F 8) 10))) := hD
          refine lv_iload_n hx hb dX3_leaf_124 rfl (lv_at hl 1 rfl) ?_
          exact retWi hx hb hr hlk hP hS dX3_leaf_125 (by exact (if_pos c_1).symm) (by exact (if_pos c_1).symm)
        · have nc_2 : ¬ sz ≤ (5 * k) := fun h => c_2 ((nI_leI (a := sz) (b := (5 * k)) (by omega) (by omega)).mpr h)
          refine lv_iload_n hx hb dX3_leaf_28 rfl (lv_at hl 1 rfl) ?_
          refine lv_aload_n hx hb dX3_leaf_29 rfl (lv_at hl 0 rfl) ?_
          refine va_get (D := D) (ci := 3) (v := .ref (B 2)) (C := RX3) (T := TX3) (N := 8) hx hb hts inlX3 hown hK hP 0 rfl rfl 1 (by decide) (hts _ kw_17) (fun _ h9 => h9) rfl dX3_leaf_30 ?_
          refine va_alen (D := D) hx hb hK hP 2 2 rfl rfl (v := (6 : Int32)) rfl dX3_leaf_33 ?_
          refine lv_icmp_ge (tgt := 93) hx hb dX3_leaf_34 (by decide) (fun c_3 => ?_) (fun c_3 => ?_)
          · have nc_3 : 6 ≤ k := (nI_leI (a := 6) (b := k) (by omega) (by omega)).mp c_3
            exfalso; omega
          · have nc_3 : ¬ 6 ≤ k := fun h => c_3 ((nI_leI (a := 6) (b := k) (by omega) (by omega)).mpr h)
            refine lv_aload_n hx hb dX3_leaf_37 rfl (lv_at hl 0 rfl) ?_
            refine va_get (D := D) (ci := 3) (v := .ref (B 2)) (C := RX3) (T := TX3) (N := 8) hx hb hts inlX3 hown hK hP 0 rfl rfl 1 (by decide) (hts _ kw_17) (fun _ h9 => h9) rfl dX3_leaf_38 ?_
            refine lv_iload_n hx hb dX3_leaf_41 rfl (lv_at hl 1 rfl) ?_
            refine va_aldq (D := D) hx hb hK hP 2 2 rfl rfl (vp_in_nI (by omega) (by omega)) dX3_leaf_42 ?_
            refine topV (z := .ref (B (16 + k))) (congrArg (fun j => Value.ref (B (16 + j))) (nI_clamp (n := k) (by omega))) ?_
            refine lv_aload_n hx hb dX3_leaf_43 rfl (lv_at hl 0 rfl) ?_
            refine va_get (D := D) (ci := 3) (v := .ref (B 1)) (C := RX3) (T := TX3) (N := 8) hx hb hts inlX3 hown hK hP 0 rfl rfl 0 (by decide) (hts _ kw_15) (fun _ h9 => h9) rfl dX3_leaf_44 ?_
            refine lv_iload_n hx hb dX3_leaf_47 rfl (lv_at hl 2 rfl) ?_
            refine rsVi (As := [.int (nI (5 * k))]) (rest := [.ref (B (16 + k))]) hx hb hml hown hts hKK hP (hSF.at hS) (c_X0_kindAt l D cI cB cS (k := (5 * k)) (by omega)) (cwV2 1 hts kw_122 kw_14 kw_236 kw_120 kw_121 rfl rfl (by decide +kernel) ⟨Nat.le_of_ble_eq_true rfl, Nat.le_of_ble_eq_true rfl⟩) 1 rfl rfl rfl rfl hl.1 rfl (Nat.le_of_ble_eq_true rfl) ⟨Nat.zero_le _, Nat.zero_le _⟩ dX3_leaf_48 ?_
            refine topE (z := (cKind ((F 7) (5 * k)))) rfl ?_
            refine lv_aload_n hx hb dX3_leaf_51 rfl (lv_at hl 0 rfl) ?_
            refine va_get (D := D) (ci := 3) (v := .ref (B 1)) (C := RX3) (T := TX3) (N := 8) hx hb hts inlX3 hown hK hP 0 rfl rfl 0 (by decide) (hts _ kw_15) (fun _ h9 => h9) rfl dX3_leaf_52 ?_
            refine lv_iload_n hx hb dX3_leaf_55 rfl (lv_at hl 2 rfl) ?_
            refine lv_iconst (v := (1 : Int32)) hx hb dX3_leaf_56 (by decide) ?_
            refine lv_iadd hx hb dX3_leaf_57 ?_
            refine topE (z := (nI ((5 * k) + 1))) (nI_add (5 * k) 1) ?_
            refine rcVi (As := [.int (nI ((5 * k) + 1))]) (rest := [.int (cKind ((F 7) (5 * k))), .ref (B (16 + k))]) hx hb hml hown hts hKK hP (c_X0_digitAt l D cI cB cS (k := ((5 * k) + 1)) (by omega)) (cwV2 1 hts kw_114 kw_14 kw_237 kw_112 kw_113 rfl rfl (by decide +kernel) ⟨Nat.le_of_ble_eq_true rfl, Nat.le_of_ble_eq_true rfl⟩) 1 rfl rfl rfl rfl hl.1 rfl (Nat.le_of_ble_eq_true rfl) ⟨Nat.zero_le _, Nat.zero_le _⟩ dX3_leaf_58 ?_
            refine topE (z := ((F 7) ((5 * k) + 1) - 48)) rfl ?_
            refine lv_aload_n hx hb dX3_leaf_61 rfl (lv_at hl 0 rfl) ?_
            refine va_get (D := D) (ci := 3) (v := .ref (B 1)) (C := RX3) (T := TX3) (N := 8) hx hb hts inlX3 hown hK hP 0 rfl rfl 0 (by decide) (hts _ kw_15) (fun _ h9 => h9) rfl dX3_leaf_62 ?_
            refine lv_iload_n hx hb dX3_leaf_65 rfl (lv_at hl 2 rfl) ?_
            refine lv_iconst (v := (2 : Int32)) hx hb dX3_leaf_66 (by decide) ?_
            refine lv_iadd hx hb dX3_leaf_67 ?_
            refine topE (z := (nI ((5 * k) + 2))) (nI_add (5 * k) 2) ?_
            refine rcVi (As := [.int (nI ((5 * k) + 2))]) (rest := [.int ((F 7) ((5 * k) + 1) - 48), .int (cKind ((F 7) (5 * k))), .ref (B (16 + k))]) hx hb hml hown hts hKK hP (c_X0_digitAt l D cI cB cS (k := ((5 * k) + 2)) (by omega)) (cwV2 1 hts kw_114 kw_14 kw_237 kw_112 kw_113 rfl rfl (by decide +kernel) ⟨Nat.le_of_ble_eq_true rfl, Nat.le_of_ble_eq_true rfl⟩) 1 rfl rfl rfl rfl hl.1 rfl (Nat.le_of_ble_eq_true rfl) ⟨Nat.zero_le _, Nat.zero_le _⟩ dX3_leaf_68 ?_
            refine topE (z := ((F 7) ((5 * k) + 2) - 48)) rfl ?_
            refine lv_aload_n hx hb dX3_leaf_71 rfl (lv_at hl 0 rfl) ?_
            refine va_get (D := D) (ci := 3) (v := .ref (B 1)) (C := RX3) (T := TX3) (N := 8) hx hb hts inlX3 hown hK hP 0 rfl rfl 0 (by decide) (hts _ kw_15) (fun _ h9 => h9) rfl dX3_leaf_72 ?_
            refine lv_iload_n hx hb dX3_leaf_75 rfl (lv_at hl 2 rfl) ?_
            refine lv_iconst (v := (3 : Int32)) hx hb dX3_leaf_76 (by decide) ?_
            refine lv_iadd hx hb dX3_leaf_77 ?_
            refine topE (z := (nI ((5 * k) + 3))) (nI_add (5 * k) 3) ?_
            refine rcVi (As := [.int (nI ((5 * k) + 3))]) (rest := [.int ((F 7) ((5 * k) + 2) - 48), .int ((F 7) ((5 * k) + 1) - 48), .int (cKind ((F 7) (5 * k))), .ref (B (16 + k))]) hx hb hml hown hts hKK hP (c_X0_digitAt l D cI cB cS (k := ((5 * k) + 3)) (by omega)) (cwV2 1 hts kw_114 kw_14 kw_237 kw_112 kw_113 rfl rfl (by decide +kernel) ⟨Nat.le_of_ble_eq_true rfl, Nat.le_of_ble_eq_true rfl⟩) 1 rfl rfl rfl rfl hl.1 rfl (Nat.le_of_ble_eq_true rfl) ⟨Nat.zero_le _, Nat.zero_le _⟩ dX3_leaf_78 ?_
            refine topE (z := ((F 7) ((5 * k) + 3) - 48)) rfl ?_
            refine wcVv (As := [.int (cKind ((F 7) (5 * k))), .int ((F 7) ((5 * k) + 1) - 48), .int ((F 7) ((5 * k) + 2) - 48), .int ((F 7) ((5 * k) + 3) - 48)]) (rest := []) hx hb hml hown hts hKK hP hD hS (c_X2_become l D cI cB cS (k := k) (by omega) (cKind ((F 7) (5 * k))) ((F 7) ((5 * k) + 1) - 48) ((F 7) ((5 * k) + 2) - 48) ((F 7) ((5 * k) + 3) - 48)) (cwV2 4 hts kw_241 kw_29 kw_238 kw_239 kw_240 rfl rfl (by decide +kernel) ⟨Nat.le_of_ble_eq_true rfl, Nat.le_of_ble_eq_true rfl⟩) (16 + k) (wsB_st (by omega)) rfl rfl rfl hl.1 rfl (Nat.le_of_ble_eq_true rfl) ⟨Nat.zero_le _, Nat.zero_le _⟩ dX3_leaf_81 (fun H locs hP hS => ?_)
            have hP : va_P D vwCl (wsB B cI cS I (va_up (va_up (va_up (va_up F 16 (upd (rowN (fun s => cKind (F 7 (5 * s))) (F 16) k) k (cKind ((F 7) (5 * k))))) 17 (upd (rowN (fun s => F 7 (5 * s + 1) - 48) (F 17) k) k ((F 7) ((5 * k) + 1) - 48))) 18 (upd (rowN (fun s => if (10 : Int32) - (F 7 (5 * s + 1) - 48) < F 7 (5 * s + 2) - 48 then (10 : Int32) - (F 7 (5 * s + 1) - 48) else F 7 (5 * s + 2) - 48) (F 18) k) k (if (10 : Int32) - ((F 7) ((5 * k) + 1) - 48) < ((F 7) ((5 * k) + 2) - 48) then (10 : Int32) - ((F 7) ((5 * k) + 1) - 48) else ((F 7) ((5 * k) + 2) - 48)))) 19 (upd (rowN (fun s => F 7 (5 * s + 3) - 48) (F 19) k) k ((F 7) ((5 * k) + 3) - 48)))) H := hP
            have hD : va_D (FPw (wsB B cI cS I F)) (wsB B cI cS I (va_up (va_up (va_up (va_up F 16 (upd (rowN (fun s => cKind (F 7 (5 * s))) (F 16) k) k (cKind ((F 7) (5 * k))))) 17 (upd (rowN (fun s => F 7 (5 * s + 1) - 48) (F 17) k) k ((F 7) ((5 * k) + 1) - 48))) 18 (upd (rowN (fun s => if (10 : Int32) - (F 7 (5 * s + 1) - 48) < F 7 (5 * s + 2) - 48 then (10 : Int32) - (F 7 (5 * s + 1) - 48) else F 7 (5 * s + 2) - 48) (F 18) k) k (if (10 : Int32) - ((F 7) ((5 * k) + 1) - 48) < ((F 7) ((5 * k) + 2) - 48) then (10 : Int32) - ((F 7) ((5 * k) + 1) - 48) else ((F 7) ((5 * k) + 2) - 48)))) 19 (upd (rowN (fun s => F 7 (5 * s + 3) - 48) (F 19) k) k ((F 7) ((5 * k) + 3) - 48)))) := va_D_addr (ws := (wsB B cI cS I (va_up (va_up (va_up (va_up F 16 (rowN (fun s => cKind (F 7 (5 * s))) (F 16) k)) 17 (rowN (fun s => F 7 (5 * s + 1) - 48) (F 17) k)) 18 (rowN (fun s => if (10 : Int32) - (F 7 (5 * s + 1) - 48) < F 7 (5 * s + 2) - 48 then (10 : Int32) - (F 7 (5 * s + 1) - 48) else F 7 (5 * s + 2) - 48) (F 18) k)) 19 (rowN (fun s => F 7 (5 * s + 3) - 48) (F 19) k)))) (wsB_fst.trans wsB_fst.symm) hD
            refine lv_iinc (v := (nI (k + 1))) (lv' := [(1, .int (nI (k + 1))), (0, .ref (B 0)), (2, .int (nI (5 * k)))]) hx hb dX3_leaf_84 hl (k := 1) rfl (nI_add k 1) (by decide) rfl (fun ls hl => ?_)
            refine lv_iinc (v := (nI ((5 * k) + 5))) (lv' := [(2, .int (nI ((5 * k) + 5))), (1, .int (nI (k + 1))), (0, .ref (B 0))]) hx hb dX3_leaf_87 hl (k := 2) rfl (nI_add (5 * k) 5) (by decide) rfl (fun ls hl => ?_)
            refine lv_goto (tgt := 17) hx hb dX3_leaf_90 (by decide) ?_
            have hP9 : va_P D vwCl (wsB B cI cS I (va_up (va_up (va_up (va_up F 16 (rowN (fun s => cKind (F 7 (5 * s))) (F 16) (k + 1))) 17 (rowN (fun s => F 7 (5 * s + 1) - 48) (F 17) (k + 1))) 18 (rowN (fun s => if (10 : Int32) - (F 7 (5 * s + 1) - 48) < F 7 (5 * s + 2) - 48 then (10 : Int32) - (F 7 (5 * s + 1) - 48) else F 7 (5 * s + 2) - 48) (F 18) (k + 1))) 19 (rowN (fun s => F 7 (5 * s + 3) - 48) (F 19) (k + 1)))) H := by rw [← rowN_upd (i := k), ← rowN_upd (i := k), ← rowN_upd (i := k), ← rowN_upd (i := k)]; exact hP
            exact ih_17 (k + 1) (nI (k + 1)) (nI ((5 * k) + 5)) rfl (by exact congrArg nI (by omega)) (by omega) (by omega) H locs hP9 hS ls (lv_sub hl [2, 1, 0] rfl)
    have hP9 : va_P D vwCl (wsB B cI cS I (va_up (va_up (va_up (va_up F 16 (rowN (fun s => cKind (F 7 (5 * s))) (F 16) 0)) 17 (rowN (fun s => F 7 (5 * s + 1) - 48) (F 17) 0)) 18 (rowN (fun s => if (10 : Int32) - (F 7 (5 * s + 1) - 48) < F 7 (5 * s + 2) - 48 then (10 : Int32) - (F 7 (5 * s + 1) - 48) else F 7 (5 * s + 2) - 48) (F 18) 0)) 19 (rowN (fun s => F 7 (5 * s + 3) - 48) (F 19) 0))) s.heap := by rw [rowN_0, rowN_0, rowN_0, rowN_0]; exact hP
    exact loop_17 ((sz + 1 - 5 * 0) + 1) 0 (0 : Int32) (0 : Int32) rfl rfl (by omega) (by omega) s.heap [] hP9 hS ls (lv_sub hl [2, 1, 0] rfl)
  · have c_1 := b2_z c_1
    refine lv_bipush (v := (-103 : Int32)) hx hb dX3_leaf_10 (by decide) ?_
    exact retWi hx hb hr hlk hP hS dX3_leaf_12 (by exact (if_neg c_1).symm) (by exact (if_neg c_1).symm)
