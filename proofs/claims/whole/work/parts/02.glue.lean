/-! GLUE: every method's words are its own code and the law's whole list; a reader leaves the heap, a writer changes cells of its world at their places -/
abbrev Wm (y : MethodName) (cc : ByteArray) (n : Nat) (r : Option FieldType) : List Cond := Cond.code y cc n r :: wsG
theorem Wm_good {y : MethodName} {cc : ByteArray} {n : Nat} {r : Option FieldType} (h : Cond.code y cc n r ∈ wsG) : GoodIn wsG (Wm y cc n r) := by
  intro w hw
  have hm : w ∈ wsG := by
    rcases List.mem_cons.mp hw with h1 | h1
    · rw [h1]; exact h
    · exact h1
  exact ⟨hm, good_of_word (wsG_good w hm)⟩
def QcV (v : Option Value) : Array Value → State → Outcome → State → Prop := fun _ st o t => o = .returned v ∧ t.heap = st.heap
abbrev FPw (ws : va_W) : Nat → Prop := fun q => ∃ (k : Nat) (e : va_E), ws[k]? = some (q, e)
def QcW (D : va_G) (v : Option Value) (ws ws' : va_W) : Array Value → State → Outcome → State → Prop := fun _ st o t => o = .returned v ∧ va_P D vwCl ws' t.heap ∧ va_F (FPw ws) st t
/-- what stays of the machine -/
abbrev KK (D : va_G) (tys : List (ClassId × FieldType)) (U : State) : Prop := va_K D vwCl tys U ∧ NF U
theorem KK.warm {D : va_G} {tys : List (ClassId × FieldType)} {s U : State} (hW : s.WarmedH U.vm) (h : KK D tys s) : KK D tys U := ⟨va_K.moved hW.alike h.1, h.2.warm hW⟩
theorem KK.call {D : va_G} {tys : List (ClassId × FieldType)} {U : State} {g : JFrame} {mk : MethodId} {a : Array Value} (h : KK D tys U) : KK D tys (U.calling g mk a) := ⟨va_K.moved (u := U) (U := U.calling g mk a) (Vm.Alike.refl U.vm) h.1, NF.same (u := U) (U := U.calling g mk a) rfl h.2⟩
abbrev PR (D : va_G) (tys : List (ClassId × FieldType)) (ws : va_W) (U : State) : Prop := va_P D vwCl ws U.heap ∧ KK D tys U
abbrev PW (D : va_G) (tys : List (ClassId × FieldType)) (ws : va_W) (U : State) : Prop := va_P D vwCl ws U.heap ∧ KK D tys U ∧ va_D (fun _ => True) ws
theorem PR_blind {D : va_G} {tys : List (ClassId × FieldType)} {ws : va_W} {av : List Value} : FrameBlind (va_Pc av (PR D tys ws)) := fun a U g mk q => ⟨q.1, q.2.1, KK.call q.2.2⟩
theorem PW_blind {D : va_G} {tys : List (ClassId × FieldType)} {ws : va_W} {av : List Value} : FrameBlind (va_Pc av (PW D tys ws)) := fun a U g mk q => ⟨q.1, q.2.1, KK.call q.2.2.1, q.2.2.2⟩
/-- a truth as an int -/
def b2 (P : Prop) [Decidable P] : Int32 := if P then 1 else 0
theorem b2_t {P : Prop} [Decidable P] (h : P) : (1 : Int32) = b2 P := by rw [b2, if_pos h]
theorem b2_f {P : Prop} [Decidable P] (h : ¬ P) : (0 : Int32) = b2 P := by rw [b2, if_neg h]
theorem b2_nz {P : Prop} [Decidable P] (h : ¬ b2 P = 0) : P := by
  by_cases hp : P
  · exact hp
  · rw [b2, if_neg hp] at h
    exact absurd rfl h
theorem b2_z {P : Prop} [Decidable P] (h : b2 P = 0) : ¬ P := by
  intro hp
  rw [b2, if_pos hp] at h
  exact absurd h (by decide)
theorem b2_nar {P : Prop} [Decidable P] : narrow .boolean (.int (b2 P)) = .int (b2 P) := by
  unfold b2
  split <;> rfl
theorem va_D_addr {A : Nat → Prop} {ws ws' : va_W} (h : ws'.map Prod.fst = ws.map Prod.fst) (hD : va_D A ws) : va_D A ws' := by
  have key : ∀ (k : Nat) (q : Nat × va_E), ws'[k]? = some q → ∃ q2, ws[k]? = some q2 ∧ q2.1 = q.1 := by
    intro k q hk
    have h1 : (ws'.map Prod.fst)[k]? = some q.1 := by rw [List.getElem?_map, hk]; rfl
    rw [h, List.getElem?_map] at h1
    cases hw : ws[k]? with
    | none => rw [hw] at h1; cases h1
    | some q2 => rw [hw] at h1; exact ⟨q2, rfl, Option.some.inj h1⟩
  refine ⟨fun i j p q hi hj e => ?_, fun k q hk => ?_⟩
  · obtain ⟨p2, a1, a2⟩ := key i p hi
    obtain ⟨q2, b1, b2⟩ := key j q hj
    exact hD.1 i j p2 q2 a1 b1 (by rw [a2, b2, e])
  · obtain ⟨q2, a1, a2⟩ := key k q hk
    rw [← a2]
    exact hD.2 k q2 a1
theorem FPw_in {A : Nat → Prop} {ws : va_W} (hD : va_D A ws) : ∀ q, FPw ws q → A q := fun q h => by
  obtain ⟨k, e, h⟩ := h
  exact hD.2 k (q, e) h
theorem FPw_self {A : Nat → Prop} {ws : va_W} (hD : va_D A ws) : va_D (FPw ws) ws := ⟨hD.1, fun k q hk => ⟨k, q.2, hk⟩⟩
section GLM
variable {l : Launch} {y : MethodName} {cc : ByteArray} {maxL : Nat} {ret : Option FieldType} {rm : Room} {D : va_G} {tys : List (ClassId × FieldType)} {ws ws' : va_W} {v : Option Value}
theorem metR (hy : plainName y.cls = true) (av : List Value) (hlen : (lg_sl av).length ≤ maxL)
    (body : ∀ (p : Program) (e : Env) (s : State) (m : MethodId) (args : Array Value) (below : List Frame) (meth : Method) (c : Code), p.tables.exec = Jvm.exec → c.code = cc → c.maxLocals = maxL → meth.sig.returnType = ret → meth.locks = false → s.vm.findClass y.cls = some m.cls → (∀ w ∈ wsG, w.before args s = true) → KK D tys s → va_P D vwCl ws s.heap → ∀ ls : Array Slot, lv_has ls maxL (lv_args 0 av) →
      W p l e rm s m args below meth c s.heap [] 0 0 (MQ below (QcV v) args s 0 0 (fun _ => False)) (F0 m 0 ls [])) : Met l y (Wm y cc maxL ret) rm (va_Pc av (PR D tys ws)) (QcV v) 0 0 (fun _ => False) := by
  refine Met.ofW (cc := cc) (maxL := maxL) (ret := ret) hy rfl ?_
  intro p e s m args below meth c s₁ B hml hv
  obtain ⟨ha, hP, hK⟩ := hv
  have hts := atoms_spec (ws := Wm y cc maxL ret) B.pre
  have hl := lv_entry av (n := maxL) hlen
  have key := body p e s m args below meth c B.exec B.bytes hml B.returns B.notSynchronized (findClass_of_methodNamed B.named) (fun w h => hts w (List.mem_cons_of_mem _ h)) hK hP _ hl
  have e2 : entryFrame m args maxL = F0 m 0 ((lg_sl av ++ List.replicate (maxL - (lg_sl av).length) Slot.unset).toArray) [] := by rw [ha, lg_entry_eq]
  rw [e2]
  exact key
theorem metW (hy : plainName y.cls = true) (av : List Value) (hlen : (lg_sl av).length ≤ maxL)
    (body : ∀ (p : Program) (e : Env) (s : State) (m : MethodId) (args : Array Value) (below : List Frame) (meth : Method) (c : Code), p.tables.exec = Jvm.exec → c.code = cc → c.maxLocals = maxL → meth.sig.returnType = ret → meth.locks = false → s.vm.findClass y.cls = some m.cls → (∀ w ∈ wsG, w.before args s = true) → KK D tys s → va_P D vwCl ws s.heap → va_D (FPw ws) ws → va_S (FPw ws) s.heap s.heap [] → ∀ ls : Array Slot, lv_has ls maxL (lv_args 0 av) →
      W p l e rm s m args below meth c s.heap [] 0 0 (MQ below (QcW D v ws ws') args s 0 0 (FPw ws)) (F0 m 0 ls [])) : Met l y (Wm y cc maxL ret) rm (va_Pc av (PW D tys ws)) (QcW D v ws ws') 0 0 (FPw ws) := by
  refine Met.ofW (cc := cc) (maxL := maxL) (ret := ret) hy rfl ?_
  intro p e s m args below meth c s₁ B hml hv
  obtain ⟨ha, hP, hK, hD⟩ := hv
  have hts := atoms_spec (ws := Wm y cc maxL ret) B.pre
  have hl := lv_entry av (n := maxL) hlen
  have key := body p e s m args below meth c B.exec B.bytes hml B.returns B.notSynchronized (findClass_of_methodNamed B.named) (fun w h => hts w (List.mem_cons_of_mem _ h)) hK hP (FPw_self hD) va_S.rf _ hl
  have e2 : entryFrame m args maxL = F0 m 0 ((lg_sl av ++ List.replicate (maxL - (lg_sl av).length) Slot.unset).toArray) [] := by rw [ha, lg_entry_eq]
  rw [e2]
  exact key
end GLM
section GLC
variable {p : Program} {l : Launch} {e : Env} {R : Room} {s : State} {m : MethodId} {args : Array Value} {below : List Frame} {meth : Method} {c : Code} {H : Heap} {locs : List Loc} {cells slots : Nat} {Q : State → Prop}
variable {cc bytes : ByteArray} {pc nL maxL index n : Nat} {ls : Array Slot} {rest st : List Value} {own C : String} {y : MethodName} {ret : Option FieldType} {rm : Room} {As : List Value} {b : Addr} {D : va_G} {tys : List (ClassId × FieldType)} {ws ws' : va_W} {wy : List Cond} {v : Option Value} {A : Nat → Prop} {H0 : Heap}
theorem topE {x z : Int32} (h : x = z) (k : W p l e R s m args below meth c H locs cells slots Q (F0 m pc ls (.int z :: rest))) : W p l e R s m args below meth c H locs cells slots Q (F0 m pc ls (.int x :: rest)) := by
  rw [h]; exact k
theorem topL {x z : Int64} (h : x = z) (k : W p l e R s m args below meth c H locs cells slots Q (F0 m pc ls (.long z :: rest))) : W p l e R s m args below meth c H locs cells slots Q (F0 m pc ls (.long x :: rest)) := by
  rw [h]; exact k
theorem topV {x z : Value} (h : x = z) (k : W p l e R s m args below meth c H locs cells slots Q (F0 m pc ls (z :: rest))) : W p l e R s m args below meth c H locs cells slots Q (F0 m pc ls (x :: rest)) := by
  rw [h]; exact k
theorem rdC {g : JFrame} {a : Array Value} (hr : CallRun p l e R s m args below meth c H locs cells slots 0 0 g rest (QcV v a) (fun _ => False)) (kk : W p l e R s m args below meth c H locs cells slots Q { g with pc := g.pc + 3, stack := v.toList ++ rest }) : W p l e R s m args below meth c H locs cells slots Q g := by
  intro T hT X
  obtain ⟨v', st₀, t, T', L, h0, X', hL, e1, ⟨hv, hh⟩, st⟩ := hr T hT X
  have hv2 := Outcome.returned.inj hv
  subst hv2
  obtain ⟨t2, a1, b1⟩ := kk T' (by rw [e1, hh, h0]) (Stand.forget X' (fun q h => (hL q h).elim))
  exact ⟨t2, st t2 a1, b1⟩
theorem wrC {g : JFrame} {a : Array Value} (hr : CallRun p l e R s m args below meth c H locs cells slots 0 0 g rest (QcW D v ws ws' a) (FPw ws)) (hD : va_D A ws) (hS : va_S A H0 H locs) (kk : ∀ (H1 : Heap) (locs1 : List Loc), va_P D vwCl ws' H1 → va_S A H0 H1 locs1 → W p l e R s m args below meth c H1 locs1 cells slots Q { g with pc := g.pc + 3, stack := v.toList ++ rest }) : W p l e R s m args below meth c H locs cells slots Q g := by
  intro T hT X
  obtain ⟨v', st₀, t, T', L, h0, X', hL, e1, ⟨hv, hp, hz, hk⟩, st⟩ := hr T hT X
  have hv2 := Outcome.returned.inj hv
  subst hv2
  rw [h0] at hz hk
  obtain ⟨t2, a1, b1⟩ := kk T'.heap (locs ++ L) (by rw [e1]; exact hp) ⟨Nat.le_trans hS.1 (by rw [e1]; exact hz), fun q h1 h2 => by rw [e1, hk q (Nat.lt_of_lt_of_le h1 hS.1) (fun z => h2 (FPw_in hD q z))]; exact hS.2.1 q h1 h2, fun q hq => by
    rcases List.mem_append.mp hq with h | h
    · exact hS.2.2 q h
    · exact FPw_in hD _ (hL q h)⟩ T' rfl X'
  exact ⟨t2, st t2 a1, b1⟩
theorem runV2 {Pc : State → Prop} {Qc : Array Value → State → Outcome → State → Prop} {free : Addr → Prop} (hx : p.tables.exec = Jvm.exec) (hb : c.code = cc) (hml : c.maxLocals = nL) (hown : s.vm.findClass own = some m.cls) (hts : ∀ w ∈ wsG, w.before args s = true) (hK : KK D tys s) (hM : Met l y wy rm (va_Pc (.ref b :: As) Pc) Qc 0 0 free) (cw : CallW R s args own C index y bytes maxL ret wy rm 0 0 n) (hP : va_P D vwCl ws H) (q0 : Nat) {ci : Nat} {fs : List Value} {q : vw_C} (he : ws[q0]? = some (b, .inr (ci, fs))) (hc : vwCl[ci]? = some q) (hC : q.1 = C) (hn : As.length = n) (hl : ls.size = nL) (hst : st = As.reverse ++ .ref b :: rest) (hW : (rest.map fun v => v.category).sum ≤ 8) (hdg : decode cc pc = .ok (.invokevirtual index, 3)) (hcl : cells + 0 ≤ R.cells ∧ slots + 0 ≤ R.slots) (hbl : FrameBlind (va_Pc (.ref b :: As) Pc)) (hpre : ∀ U : State, U.heap = H → s.WarmedH U.vm → Pc U) :
    CallRun p l e R s m args below meth c H locs cells slots 0 0 (F0 m pc ls st) rest (Qc (Value.ref b :: As).toArray) free := by
  subst hC
  exact W.runV ⟨hx, hb, hml, hown, hts⟩ hM cw ⟨hbl, va_recv hK.1 hP hc he, fun U hU hW => ⟨rfl, hpre U hU hW⟩⟩ rfl hn hl hst (lv_room hW) hdg hcl
theorem runS2 {Pc : State → Prop} {Qc : Array Value → State → Outcome → State → Prop} {free : Addr → Prop} (hx : p.tables.exec = Jvm.exec) (hb : c.code = cc) (hml : c.maxLocals = nL) (hown : s.vm.findClass own = some m.cls) (hts : ∀ w ∈ wsG, w.before args s = true) (hM : Met l y wy rm (va_Pc As Pc) Qc 0 0 free) (cw : CallB R s args own index y bytes maxL ret wy rm 0 0 n ∧ (Cond.static y).before args s = true) (hn : As.length = n) (hl : ls.size = nL) (hst : st = As.reverse ++ rest) (hW : (rest.map fun v => v.category).sum ≤ 8) (hdg : decode cc pc = .ok (.invokestatic index, 3)) (hcl : cells + 0 ≤ R.cells ∧ slots + 0 ≤ R.slots) (hbl : FrameBlind (va_Pc As Pc)) (hpre : ∀ U : State, U.heap = H → s.WarmedH U.vm → Pc U) :
    CallRun p l e R s m args below meth c H locs cells slots 0 0 (F0 m pc ls st) rest (Qc As.toArray) free :=
  W.runS ⟨hx, hb, hml, hown, hts⟩ hM cw ⟨hbl, fun U hU hW => ⟨rfl, hpre U hU hW⟩⟩ rfl hn hl hst (lv_room hW) hdg hcl
theorem cwV2 (n : Nat) (hts : ∀ w ∈ wsG, w.before args s = true) (hcode : Cond.code y bytes maxL ret ∈ wsG) (hini : Cond.initialized C ∈ wsG) (hl : Cond.methodLink own index y ∈ wsG) (hin : Cond.instanceMethod y ∈ wsG) (hse : Cond.selects C y y ∈ wsG) (hrc : rm.cells = 0) (hrs : rm.slots = 0)
    (hd : y.cls = C ∧ y.cls ≠ "java/lang/invoke/MethodHandle" ∧ y.cls ≠ "java/lang/invoke/VarHandle" ∧ (parseMethodDescriptor y.desc).map (fun d => d.parameters.length) = some n) (hR : rm.frames + 1 ≤ R.frames ∧ 8 + (maxL + 11) + rm.locals ≤ R.locals) :
    CallW R s args own C index y bytes maxL ret (Wm y bytes maxL ret) rm 0 0 n := by
  obtain ⟨hC, hd⟩ := hd
  subst hC
  exact ⟨callB_of n hts (Wm_good hcode) rfl hrc hrs (hts _ hini) (hts _ hl) hd hR, hts _ hin, hts _ hse⟩
theorem cwS2 (n : Nat) (hts : ∀ w ∈ wsG, w.before args s = true) (hcode : Cond.code y bytes maxL ret ∈ wsG) (hini : Cond.initialized C ∈ wsG) (hl : Cond.methodLink own index y ∈ wsG) (hst : Cond.static y ∈ wsG) (hrc : rm.cells = 0) (hrs : rm.slots = 0)
    (hd : y.cls = C ∧ y.cls ≠ "java/lang/invoke/MethodHandle" ∧ y.cls ≠ "java/lang/invoke/VarHandle" ∧ (parseMethodDescriptor y.desc).map (fun d => d.parameters.length) = some n) (hR : rm.frames + 1 ≤ R.frames ∧ 8 + (maxL + 11) + rm.locals ≤ R.locals) :
    CallB R s args own index y bytes maxL ret (Wm y bytes maxL ret) rm 0 0 n ∧ (Cond.static y).before args s = true := by
  obtain ⟨hC, hd⟩ := hd
  subst hC
  exact ⟨callB_of n hts (Wm_good hcode) rfl hrc hrs (hts _ hini) (hts _ hl) hd hR, hts _ hst⟩
theorem rcVi {r : Int32} (hx : p.tables.exec = Jvm.exec) (hb : c.code = cc) (hml : c.maxLocals = nL) (hown : s.vm.findClass own = some m.cls) (hts : ∀ w ∈ wsG, w.before args s = true) (hK : KK D tys s) (hP : va_P D vwCl ws H) (hM : Met l y wy rm (va_Pc (.ref b :: As) (PR D tys ws)) (QcV (some (.int r))) 0 0 (fun _ => False)) (cw : CallW R s args own C index y bytes maxL ret wy rm 0 0 n) (q0 : Nat) {ci : Nat} {fs : List Value} {q : vw_C} (he : ws[q0]? = some (b, .inr (ci, fs))) (hc : vwCl[ci]? = some q) (hC : q.1 = C) (hn : As.length = n) (hl : ls.size = nL) (hst : st = As.reverse ++ .ref b :: rest) (hW : (rest.map fun v => v.category).sum ≤ 8) (hcl : cells + 0 ≤ R.cells ∧ slots + 0 ≤ R.slots) (hdg : decode cc pc = .ok (.invokevirtual index, 3))
    (kk : W p l e R s m args below meth c H locs cells slots Q (F0 m (pc + 3) ls (.int r :: rest))) : W p l e R s m args below meth c H locs cells slots Q (F0 m pc ls st) :=
  rdC (runV2 hx hb hml hown hts hK hM cw hP q0 he hc hC hn hl hst hW hdg hcl PR_blind (fun U hU hW => ⟨by rw [hU]; exact hP, hK.warm hW⟩)) kk
theorem rcVl {r : Int64} (hx : p.tables.exec = Jvm.exec) (hb : c.code = cc) (hml : c.maxLocals = nL) (hown : s.vm.findClass own = some m.cls) (hts : ∀ w ∈ wsG, w.before args s = true) (hK : KK D tys s) (hP : va_P D vwCl ws H) (hM : Met l y wy rm (va_Pc (.ref b :: As) (PR D tys ws)) (QcV (some (.long r))) 0 0 (fun _ => False)) (cw : CallW R s args own C index y bytes maxL ret wy rm 0 0 n) (q0 : Nat) {ci : Nat} {fs : List Value} {q : vw_C} (he : ws[q0]? = some (b, .inr (ci, fs))) (hc : vwCl[ci]? = some q) (hC : q.1 = C) (hn : As.length = n) (hl : ls.size = nL) (hst : st = As.reverse ++ .ref b :: rest) (hW : (rest.map fun v => v.category).sum ≤ 8) (hcl : cells + 0 ≤ R.cells ∧ slots + 0 ≤ R.slots) (hdg : decode cc pc = .ok (.invokevirtual index, 3))
    (kk : W p l e R s m args below meth c H locs cells slots Q (F0 m (pc + 3) ls (.long r :: rest))) : W p l e R s m args below meth c H locs cells slots Q (F0 m pc ls st) :=
  rdC (runV2 hx hb hml hown hts hK hM cw hP q0 he hc hC hn hl hst hW hdg hcl PR_blind (fun U hU hW => ⟨by rw [hU]; exact hP, hK.warm hW⟩)) kk
theorem rcSi {r : Int32} (hx : p.tables.exec = Jvm.exec) (hb : c.code = cc) (hml : c.maxLocals = nL) (hown : s.vm.findClass own = some m.cls) (hts : ∀ w ∈ wsG, w.before args s = true) (hK : KK D tys s) (hP : va_P D vwCl ws H) (hM : Met l y wy rm (va_Pc As (PR D tys ws)) (QcV (some (.int r))) 0 0 (fun _ => False)) (cw : CallB R s args own index y bytes maxL ret wy rm 0 0 n ∧ (Cond.static y).before args s = true) (hn : As.length = n) (hl : ls.size = nL) (hst : st = As.reverse ++ rest) (hW : (rest.map fun v => v.category).sum ≤ 8) (hcl : cells + 0 ≤ R.cells ∧ slots + 0 ≤ R.slots) (hdg : decode cc pc = .ok (.invokestatic index, 3))
    (kk : W p l e R s m args below meth c H locs cells slots Q (F0 m (pc + 3) ls (.int r :: rest))) : W p l e R s m args below meth c H locs cells slots Q (F0 m pc ls st) :=
  rdC (runS2 hx hb hml hown hts hM cw hn hl hst hW hdg hcl PR_blind (fun U hU hW => ⟨by rw [hU]; exact hP, hK.warm hW⟩)) kk
theorem rcSl {r : Int64} (hx : p.tables.exec = Jvm.exec) (hb : c.code = cc) (hml : c.maxLocals = nL) (hown : s.vm.findClass own = some m.cls) (hts : ∀ w ∈ wsG, w.before args s = true) (hK : KK D tys s) (hP : va_P D vwCl ws H) (hM : Met l y wy rm (va_Pc As (PR D tys ws)) (QcV (some (.long r))) 0 0 (fun _ => False)) (cw : CallB R s args own index y bytes maxL ret wy rm 0 0 n ∧ (Cond.static y).before args s = true) (hn : As.length = n) (hl : ls.size = nL) (hst : st = As.reverse ++ rest) (hW : (rest.map fun v => v.category).sum ≤ 8) (hcl : cells + 0 ≤ R.cells ∧ slots + 0 ≤ R.slots) (hdg : decode cc pc = .ok (.invokestatic index, 3))
    (kk : W p l e R s m args below meth c H locs cells slots Q (F0 m (pc + 3) ls (.long r :: rest))) : W p l e R s m args below meth c H locs cells slots Q (F0 m pc ls st) :=
  rdC (runS2 hx hb hml hown hts hM cw hn hl hst hW hdg hcl PR_blind (fun U hU hW => ⟨by rw [hU]; exact hP, hK.warm hW⟩)) kk
theorem wcVi {r : Int32} (hx : p.tables.exec = Jvm.exec) (hb : c.code = cc) (hml : c.maxLocals = nL) (hown : s.vm.findClass own = some m.cls) (hts : ∀ w ∈ wsG, w.before args s = true) (hK : KK D tys s) (hP : va_P D vwCl ws H) (hD : va_D A ws) (hS : va_S A H0 H locs) (hM : Met l y wy rm (va_Pc (.ref b :: As) (PW D tys ws)) (QcW D (some (.int r)) ws ws') 0 0 (FPw ws)) (cw : CallW R s args own C index y bytes maxL ret wy rm 0 0 n) (q0 : Nat) {ci : Nat} {fs : List Value} {q : vw_C} (he : ws[q0]? = some (b, .inr (ci, fs))) (hc : vwCl[ci]? = some q) (hC : q.1 = C) (hn : As.length = n) (hl : ls.size = nL) (hst : st = As.reverse ++ .ref b :: rest) (hW : (rest.map fun v => v.category).sum ≤ 8) (hcl : cells + 0 ≤ R.cells ∧ slots + 0 ≤ R.slots) (hdg : decode cc pc = .ok (.invokevirtual index, 3))
    (kk : ∀ (H1 : Heap) (locs1 : List Loc), va_P D vwCl ws' H1 → va_S A H0 H1 locs1 → W p l e R s m args below meth c H1 locs1 cells slots Q (F0 m (pc + 3) ls (.int r :: rest))) : W p l e R s m args below meth c H locs cells slots Q (F0 m pc ls st) :=
  wrC (runV2 hx hb hml hown hts hK hM cw hP q0 he hc hC hn hl hst hW hdg hcl PW_blind (fun U hU hW => ⟨by rw [hU]; exact hP, hK.warm hW, hD.weaken (fun _ _ _ _ => trivial)⟩)) hD hS kk
theorem wcVl {r : Int64} (hx : p.tables.exec = Jvm.exec) (hb : c.code = cc) (hml : c.maxLocals = nL) (hown : s.vm.findClass own = some m.cls) (hts : ∀ w ∈ wsG, w.before args s = true) (hK : KK D tys s) (hP : va_P D vwCl ws H) (hD : va_D A ws) (hS : va_S A H0 H locs) (hM : Met l y wy rm (va_Pc (.ref b :: As) (PW D tys ws)) (QcW D (some (.long r)) ws ws') 0 0 (FPw ws)) (cw : CallW R s args own C index y bytes maxL ret wy rm 0 0 n) (q0 : Nat) {ci : Nat} {fs : List Value} {q : vw_C} (he : ws[q0]? = some (b, .inr (ci, fs))) (hc : vwCl[ci]? = some q) (hC : q.1 = C) (hn : As.length = n) (hl : ls.size = nL) (hst : st = As.reverse ++ .ref b :: rest) (hW : (rest.map fun v => v.category).sum ≤ 8) (hcl : cells + 0 ≤ R.cells ∧ slots + 0 ≤ R.slots) (hdg : decode cc pc = .ok (.invokevirtual index, 3))
    (kk : ∀ (H1 : Heap) (locs1 : List Loc), va_P D vwCl ws' H1 → va_S A H0 H1 locs1 → W p l e R s m args below meth c H1 locs1 cells slots Q (F0 m (pc + 3) ls (.long r :: rest))) : W p l e R s m args below meth c H locs cells slots Q (F0 m pc ls st) :=
  wrC (runV2 hx hb hml hown hts hK hM cw hP q0 he hc hC hn hl hst hW hdg hcl PW_blind (fun U hU hW => ⟨by rw [hU]; exact hP, hK.warm hW, hD.weaken (fun _ _ _ _ => trivial)⟩)) hD hS kk
theorem wcVv (hx : p.tables.exec = Jvm.exec) (hb : c.code = cc) (hml : c.maxLocals = nL) (hown : s.vm.findClass own = some m.cls) (hts : ∀ w ∈ wsG, w.before args s = true) (hK : KK D tys s) (hP : va_P D vwCl ws H) (hD : va_D A ws) (hS : va_S A H0 H locs) (hM : Met l y wy rm (va_Pc (.ref b :: As) (PW D tys ws)) (QcW D none ws ws') 0 0 (FPw ws)) (cw : CallW R s args own C index y bytes maxL ret wy rm 0 0 n) (q0 : Nat) {ci : Nat} {fs : List Value} {q : vw_C} (he : ws[q0]? = some (b, .inr (ci, fs))) (hc : vwCl[ci]? = some q) (hC : q.1 = C) (hn : As.length = n) (hl : ls.size = nL) (hst : st = As.reverse ++ .ref b :: rest) (hW : (rest.map fun v => v.category).sum ≤ 8) (hcl : cells + 0 ≤ R.cells ∧ slots + 0 ≤ R.slots) (hdg : decode cc pc = .ok (.invokevirtual index, 3))
    (kk : ∀ (H1 : Heap) (locs1 : List Loc), va_P D vwCl ws' H1 → va_S A H0 H1 locs1 → W p l e R s m args below meth c H1 locs1 cells slots Q (F0 m (pc + 3) ls rest)) : W p l e R s m args below meth c H locs cells slots Q (F0 m pc ls st) :=
  wrC (runV2 hx hb hml hown hts hK hM cw hP q0 he hc hC hn hl hst hW hdg hcl PW_blind (fun U hU hW => ⟨by rw [hU]; exact hP, hK.warm hW, hD.weaken (fun _ _ _ _ => trivial)⟩)) hD hS kk
theorem wcSv (hx : p.tables.exec = Jvm.exec) (hb : c.code = cc) (hml : c.maxLocals = nL) (hown : s.vm.findClass own = some m.cls) (hts : ∀ w ∈ wsG, w.before args s = true) (hK : KK D tys s) (hP : va_P D vwCl ws H) (hD : va_D A ws) (hS : va_S A H0 H locs) (hM : Met l y wy rm (va_Pc As (PW D tys ws)) (QcW D none ws ws') 0 0 (FPw ws)) (cw : CallB R s args own index y bytes maxL ret wy rm 0 0 n ∧ (Cond.static y).before args s = true) (hn : As.length = n) (hl : ls.size = nL) (hst : st = As.reverse ++ rest) (hW : (rest.map fun v => v.category).sum ≤ 8) (hcl : cells + 0 ≤ R.cells ∧ slots + 0 ≤ R.slots) (hdg : decode cc pc = .ok (.invokestatic index, 3))
    (kk : ∀ (H1 : Heap) (locs1 : List Loc), va_P D vwCl ws' H1 → va_S A H0 H1 locs1 → W p l e R s m args below meth c H1 locs1 cells slots Q (F0 m (pc + 3) ls rest)) : W p l e R s m args below meth c H locs cells slots Q (F0 m pc ls st) :=
  wrC (runS2 hx hb hml hown hts hM cw hn hl hst hW hdg hcl PW_blind (fun U hU hW => ⟨by rw [hU]; exact hP, hK.warm hW, hD.weaken (fun _ _ _ _ => trivial)⟩)) hD hS kk
theorem wrCV {g : JFrame} {a : Array Value} (hr : va_Run p l e R s m args below meth c H locs cells slots 0 0 g rest (QcW D v ws ws' a) (FPw ws)) (hD : va_D A ws) (hS : va_S A H0 H locs) (kk : ∀ (H1 : Heap) (locs1 : List Loc), va_P D vwCl ws' H1 → va_S A H0 H1 locs1 → W p l e R s m args below meth c H1 locs1 cells slots Q { g with pc := g.pc + 3, stack := v.toList ++ rest }) : W p l e R s m args below meth c H locs cells slots Q g := by
  refine wrC (a := a) (fun T hT X => ?_) hD hS kk
  obtain ⟨v1, st₀, t, T', L, h0, X', hL, e1, -, hq, st⟩ := hr T hT X
  exact ⟨v1, st₀, t, T', L, h0, X', hL, e1, hq, st⟩
theorem wcSNv {host : String} (hx : p.tables.exec = Jvm.exec) (hb : c.code = cc) (hml : c.maxLocals = nL) (hown : s.vm.findClass own = some m.cls) (hts : ∀ w ∈ wsG, w.before args s = true) (hK : KK D tys s) (hP : va_P D vwCl ws H) (hD : va_D A ws) (hS : va_S A H0 H locs) (hM : Met l y wy rm (va_Pc As (PW D tys ws)) (QcW D none ws ws') 0 0 (FPw ws)) (cw : va_CN R s args own index y host bytes maxL ret wy rm 0 0 n ∧ (Cond.static y).before args s = true ∧ True) (hn : As.length = n) (hl : ls.size = nL) (hst : st = As.reverse ++ rest) (hW : (rest.map fun v => v.category).sum ≤ 8) (hcl : cells + 0 ≤ R.cells ∧ slots + 0 ≤ R.slots) (hdg : decode cc pc = .ok (.invokestatic index, 3))
    (kk : ∀ (H1 : Heap) (locs1 : List Loc), va_P D vwCl ws' H1 → va_S A H0 H1 locs1 → W p l e R s m args below meth c H1 locs1 cells slots Q (F0 m (pc + 3) ls rest)) : W p l e R s m args below meth c H locs cells slots Q (F0 m pc ls st) :=
  wrCV (g := F0 m pc ls st) (va_runSN ⟨hx, hb, hml, hown, hts⟩ hM cw ⟨PW_blind, fun U hU hW => ⟨rfl, by rw [hU]; exact hP, hK.warm hW, hD.weaken (fun _ _ _ _ => trivial)⟩⟩ rfl hn hl hst (lv_room hW) hdg hcl) hD hS kk
theorem retRi {r z : Int32} (hx : p.tables.exec = Jvm.exec) (hb : c.code = cc) (hr : meth.sig.returnType = some .int) (hlk : meth.locks = false) (hdg : decode cc pc = .ok (.ireturn, 1)) (hv : z = r) : W p l e R s m args below meth c s.heap [] 0 0 (MQ below (QcV (some (.int r))) args s 0 0 (fun _ => False)) (F0 m pc ls [.int z]) := by
  subst hv
  exact W.iret hx hb hr (fun t ht _ => ⟨rfl, ht⟩) (fun _ h => by cases h) hdg hlk
theorem retRz {z : Int32} {P : Prop} [Decidable P] (hx : p.tables.exec = Jvm.exec) (hb : c.code = cc) (hr : meth.sig.returnType = some .boolean) (hlk : meth.locks = false) (hdg : decode cc pc = .ok (.ireturn, 1)) (hv : z = b2 P) : W p l e R s m args below meth c s.heap [] 0 0 (MQ below (QcV (some (.int (b2 P)))) args s 0 0 (fun _ => False)) (F0 m pc ls [.int z]) := by
  subst hv
  exact W.zret hx hb hr b2_nar (fun t ht _ => ⟨rfl, ht⟩) (fun _ h => by cases h) hdg hlk
theorem retRl {r z : Int64} (hx : p.tables.exec = Jvm.exec) (hb : c.code = cc) (hr : meth.sig.returnType = some .long) (hlk : meth.locks = false) (hdg : decode cc pc = .ok (.lreturn, 1)) (hv : z = r) : W p l e R s m args below meth c s.heap [] 0 0 (MQ below (QcV (some (.long r))) args s 0 0 (fun _ => False)) (F0 m pc ls [.long z]) := by
  subst hv
  exact W.lret hx hb hr (fun t ht _ => ⟨rfl, ht⟩) (fun _ h => by cases h) hdg hlk
theorem retWi {r z : Int32} {wc : va_W} (hx : p.tables.exec = Jvm.exec) (hb : c.code = cc) (hr : meth.sig.returnType = some .int) (hlk : meth.locks = false) (hP : va_P D vwCl wc H) (hS : va_S (FPw ws) s.heap H locs) (hdg : decode cc pc = .ok (.ireturn, 1)) (hv : z = r) (hw : wc = ws') : W p l e R s m args below meth c H locs 0 0 (MQ below (QcW D (some (.int r)) ws ws') args s 0 0 (FPw ws)) (F0 m pc ls [.int z]) := by
  subst hv
  subst hw
  exact W.iret hx hb hr (fun t ht _ => ⟨rfl, by rw [ht]; exact hP, hS.F ht⟩) hS.2.2 hdg hlk
theorem retWz {z : Int32} {P : Prop} [Decidable P] {wc : va_W} (hx : p.tables.exec = Jvm.exec) (hb : c.code = cc) (hr : meth.sig.returnType = some .boolean) (hlk : meth.locks = false) (hP : va_P D vwCl wc H) (hS : va_S (FPw ws) s.heap H locs) (hdg : decode cc pc = .ok (.ireturn, 1)) (hv : z = b2 P) (hw : wc = ws') : W p l e R s m args below meth c H locs 0 0 (MQ below (QcW D (some (.int (b2 P))) ws ws') args s 0 0 (FPw ws)) (F0 m pc ls [.int z]) := by
  subst hv
  subst hw
  exact W.zret hx hb hr b2_nar (fun t ht _ => ⟨rfl, by rw [ht]; exact hP, hS.F ht⟩) hS.2.2 hdg hlk
theorem retWl {r z : Int64} {wc : va_W} (hx : p.tables.exec = Jvm.exec) (hb : c.code = cc) (hr : meth.sig.returnType = some .long) (hlk : meth.locks = false) (hP : va_P D vwCl wc H) (hS : va_S (FPw ws) s.heap H locs) (hdg : decode cc pc = .ok (.lreturn, 1)) (hv : z = r) (hw : wc = ws') : W p l e R s m args below meth c H locs 0 0 (MQ below (QcW D (some (.long r)) ws ws') args s 0 0 (FPw ws)) (F0 m pc ls [.long z]) := by
  subst hv
  subst hw
  exact W.lret hx hb hr (fun t ht _ => ⟨rfl, by rw [ht]; exact hP, hS.F ht⟩) hS.2.2 hdg hlk
theorem retWv {wc : va_W} (hx : p.tables.exec = Jvm.exec) (hb : c.code = cc) (hr : meth.sig.returnType = none) (hlk : meth.locks = false) (hP : va_P D vwCl wc H) (hS : va_S (FPw ws) s.heap H locs) (hdg : decode cc pc = .ok (.return_, 1)) (hw : wc = ws') : W p l e R s m args below meth c H locs 0 0 (MQ below (QcW D none ws ws') args s 0 0 (FPw ws)) (F0 m pc ls []) := by
  subst hw
  exact W.vret hx hb hr (fun t ht _ => ⟨rfl, by rw [ht]; exact hP, hS.F ht⟩) hS.2.2 hdg hlk
end GLC
