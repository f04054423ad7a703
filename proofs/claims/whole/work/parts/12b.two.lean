/-! GLUE of the law: two worlds side by side; a call on the one leaves the other -/
section TWO
variable {A : Nat → Prop} {w1 w2 : va_W}
theorem appL {k : Nat} {q : Nat × va_E} (h : w1[k]? = some q) : (w1 ++ w2)[k]? = some q := by
  rw [List.getElem?_append_left (List.getElem?_eq_some_iff.mp h).1]; exact h
theorem appR {k : Nat} {q : Nat × va_E} (h : w2[k]? = some q) : (w1 ++ w2)[w1.length + k]? = some q := by
  rw [List.getElem?_append_right (Nat.le_add_right _ _), Nat.add_sub_cancel_left]; exact h
theorem va_D_l (hD : va_D A (w1 ++ w2)) : va_D A w1 := ⟨fun i j a b ha hb hab => hD.1 i j a b (appL ha) (appL hb) hab, fun k q hq => hD.2 k q (appL hq)⟩
theorem va_D_r (hD : va_D A (w1 ++ w2)) : va_D A w2 := ⟨fun i j a b ha hb hab => by have := hD.1 _ _ a b (appR ha) (appR hb) hab; omega, fun k q hq => hD.2 _ q (appR hq)⟩
theorem two_ne (hD : va_D A (w1 ++ w2)) {i j : Nat} {a b : Nat × va_E} (ha : w1[i]? = some a) (hb : w2[j]? = some b) : a.1 ≠ b.1 := by
  intro hab
  have h1 := hD.1 _ _ a b (appL ha) (appR hb) hab
  have h2 := (List.getElem?_eq_some_iff.mp ha).1
  omega
theorem va_D_sw (hD : va_D A (w1 ++ w2)) : va_D A (w2 ++ w1) := va_D.app (va_D_r hD) (va_D_l hD) (fun _ _ _ _ ha hb hab => two_ne hD hb ha hab.symm)
theorem two_free (hD : va_D A (w1 ++ w2)) {k : Nat} {q : Nat × va_E} (h : w2[k]? = some q) : ¬ FPw w1 q.1 := by
  rintro ⟨k2, e, h2⟩
  exact two_ne hD h2 h rfl
end TWO
abbrev JW (D : va_G) (A : Nat → Prop) (H0 : Heap) (w1 w2 : va_W) (H : Heap) (locs : List Loc) : Prop := va_P D vwCl w1 H ∧ va_P D vwCl w2 H ∧ va_D A (w1 ++ w2) ∧ va_S A H0 H locs
theorem JW.sw {D : va_G} {A : Nat → Prop} {H0 : Heap} {w1 w2 : va_W} {H : Heap} {locs : List Loc} (h : JW D A H0 w1 w2 H locs) : JW D A H0 w2 w1 H locs := ⟨h.2.1, h.1, va_D_sw h.2.2.1, h.2.2.2⟩
section TWC
variable {p : Program} {l : Launch} {e : Env} {R : Room} {s : State} {m : MethodId} {args : Array Value} {below : List Frame} {meth : Method} {c : Code} {H : Heap} {locs : List Loc} {cells slots : Nat} {Q : State → Prop}
variable {cc bytes : ByteArray} {pc nL maxL index n : Nat} {ls : Array Slot} {rest st : List Value} {own C : String} {y : MethodName} {ret : Option FieldType} {rm : Room} {As : List Value} {b : Addr} {D : va_G} {tys : List (ClassId × FieldType)} {w1 w1' w2 : va_W} {wy : List Cond} {v : Option Value} {A : Nat → Prop} {H0 : Heap}
theorem jcC {g : JFrame} {a : Array Value} (hr : CallRun p l e R s m args below meth c H locs cells slots 0 0 g rest (QcW D v w1 w1' a) (FPw w1)) (hJ : JW D A H0 w1 w2 H locs) (hf : w1'.map Prod.fst = w1.map Prod.fst) (kk : ∀ (H1 : Heap) (locs1 : List Loc), JW D A H0 w1' w2 H1 locs1 → W p l e R s m args below meth c H1 locs1 cells slots Q { g with pc := g.pc + 3, stack := v.toList ++ rest }) : W p l e R s m args below meth c H locs cells slots Q g := by
  obtain ⟨hP1, hP2, hD, hS⟩ := hJ
  intro T hT X
  obtain ⟨v', st₀, t, T', L, h0, X', hL, e1, ⟨hv, hp, hz, hk⟩, st⟩ := hr T hT X
  have hv2 := Outcome.returned.inj hv
  subst hv2
  rw [h0] at hz hk
  have hD1 := va_D_l hD
  have hP2' : va_P D vwCl w2 T'.heap := fun k q hq => (hP2 k q hq).kept (by rw [e1]; exact hk q.1 (hP2 k q hq).lt (two_free hD hq))
  have hDl : va_D A w1' := va_D_addr hf hD1
  have hD' : va_D A (w1' ++ w2) := va_D_addr (ws := w1 ++ w2) (by rw [List.map_append, List.map_append, hf]) hD
  obtain ⟨t2, a1, b1⟩ := kk T'.heap (locs ++ L) ⟨by rw [e1]; exact hp, hP2', hD', Nat.le_trans hS.1 (by rw [e1]; exact hz), fun q h1 h2 => by rw [e1, hk q (Nat.lt_of_lt_of_le h1 hS.1) (fun z => h2 (FPw_in hD1 q z))]; exact hS.2.1 q h1 h2, fun q hq => by
    rcases List.mem_append.mp hq with h | h
    · exact hS.2.2 q h
    · exact FPw_in hD1 _ (hL q h)⟩ T' rfl X'
  exact ⟨t2, st t2 a1, b1⟩
/-- a writer's call that answers an int -/
theorem jcVi {r : Int32} (hx : p.tables.exec = Jvm.exec) (hb : c.code = cc) (hml : c.maxLocals = nL) (hown : s.vm.findClass own = some m.cls) (hts : ∀ w ∈ wsG, w.before args s = true) (hK : KK D tys s) (hJ : JW D A H0 w1 w2 H locs) (hf : w1'.map Prod.fst = w1.map Prod.fst) (hM : Met l y wy rm (va_Pc (.ref b :: As) (PW D tys w1)) (QcW D (some (.int r)) w1 w1') 0 0 (FPw w1)) (cw : CallW R s args own C index y bytes maxL ret wy rm 0 0 n) (q0 : Nat) {ci : Nat} {fs : List Value} {q : vw_C} (he : w1[q0]? = some (b, .inr (ci, fs))) (hc : vwCl[ci]? = some q) (hC : q.1 = C) (hn : As.length = n) (hl : ls.size = nL) (hst : st = As.reverse ++ .ref b :: rest) (hW : (rest.map fun v => v.category).sum ≤ 8) (hcl : cells + 0 ≤ R.cells ∧ slots + 0 ≤ R.slots) (hdg : decode cc pc = .ok (.invokevirtual index, 3))
    (kk : ∀ (H1 : Heap) (locs1 : List Loc), JW D A H0 w1' w2 H1 locs1 → W p l e R s m args below meth c H1 locs1 cells slots Q (F0 m (pc + 3) ls (.int r :: rest))) : W p l e R s m args below meth c H locs cells slots Q (F0 m pc ls st) :=
  jcC (runV2 hx hb hml hown hts hK hM cw hJ.1 q0 he hc hC hn hl hst hW hdg hcl PW_blind (fun U hU hW => ⟨by rw [hU]; exact hJ.1, hK.warm hW, (va_D_l hJ.2.2.1).weaken (fun _ _ _ _ => trivial)⟩)) hJ hf kk
/-- a writer's call that answers a long -/
theorem jcVl {r : Int64} (hx : p.tables.exec = Jvm.exec) (hb : c.code = cc) (hml : c.maxLocals = nL) (hown : s.vm.findClass own = some m.cls) (hts : ∀ w ∈ wsG, w.before args s = true) (hK : KK D tys s) (hJ : JW D A H0 w1 w2 H locs) (hf : w1'.map Prod.fst = w1.map Prod.fst) (hM : Met l y wy rm (va_Pc (.ref b :: As) (PW D tys w1)) (QcW D (some (.long r)) w1 w1') 0 0 (FPw w1)) (cw : CallW R s args own C index y bytes maxL ret wy rm 0 0 n) (q0 : Nat) {ci : Nat} {fs : List Value} {q : vw_C} (he : w1[q0]? = some (b, .inr (ci, fs))) (hc : vwCl[ci]? = some q) (hC : q.1 = C) (hn : As.length = n) (hl : ls.size = nL) (hst : st = As.reverse ++ .ref b :: rest) (hW : (rest.map fun v => v.category).sum ≤ 8) (hcl : cells + 0 ≤ R.cells ∧ slots + 0 ≤ R.slots) (hdg : decode cc pc = .ok (.invokevirtual index, 3))
    (kk : ∀ (H1 : Heap) (locs1 : List Loc), JW D A H0 w1' w2 H1 locs1 → W p l e R s m args below meth c H1 locs1 cells slots Q (F0 m (pc + 3) ls (.long r :: rest))) : W p l e R s m args below meth c H locs cells slots Q (F0 m pc ls st) :=
  jcC (runV2 hx hb hml hown hts hK hM cw hJ.1 q0 he hc hC hn hl hst hW hdg hcl PW_blind (fun U hU hW => ⟨by rw [hU]; exact hJ.1, hK.warm hW, (va_D_l hJ.2.2.1).weaken (fun _ _ _ _ => trivial)⟩)) hJ hf kk
/-- leaf of the class: a writer's call that needs the kept text too -/
theorem jcVis {r : Int32} {ks vs : Nat} (hx : p.tables.exec = Jvm.exec) (hb : c.code = cc) (hml : c.maxLocals = nL) (hown : s.vm.findClass own = some m.cls) (hts : ∀ w ∈ wsG, w.before args s = true) (hK : KK D tys s) (hSF : ∀ U : State, U.heap = H → s.WarmedH U.vm → SF ks vs (FPw w1) U U.heap) (hJ : JW D A H0 w1 w2 H locs) (hf : w1'.map Prod.fst = w1.map Prod.fst) (hM : Met l y wy rm (va_Pc (.ref b :: As) (PWS D tys w1 ks vs)) (QcW D (some (.int r)) w1 w1') 0 0 (FPw w1)) (cw : CallW R s args own C index y bytes maxL ret wy rm 0 0 n) (q0 : Nat) {ci : Nat} {fs : List Value} {q : vw_C} (he : w1[q0]? = some (b, .inr (ci, fs))) (hc : vwCl[ci]? = some q) (hC : q.1 = C) (hn : As.length = n) (hl : ls.size = nL) (hst : st = As.reverse ++ .ref b :: rest) (hW : (rest.map fun v => v.category).sum ≤ 8) (hcl : cells + 0 ≤ R.cells ∧ slots + 0 ≤ R.slots) (hdg : decode cc pc = .ok (.invokevirtual index, 3)) (hblind : FrameBlind (va_Pc (.ref b :: As) (PWS D tys w1 ks vs)))
    (kk : ∀ (H1 : Heap) (locs1 : List Loc), JW D A H0 w1' w2 H1 locs1 → W p l e R s m args below meth c H1 locs1 cells slots Q (F0 m (pc + 3) ls (.int r :: rest))) : W p l e R s m args below meth c H locs cells slots Q (F0 m pc ls st) :=
  jcC (runV2 hx hb hml hown hts hK hM cw hJ.1 q0 he hc hC hn hl hst hW hdg hcl hblind (fun U hU hW => ⟨⟨by rw [hU]; exact hJ.1, hK.warm hW, (va_D_l hJ.2.2.1).weaken (fun _ _ _ _ => trivial)⟩, hSF U hU hW⟩)) hJ hf kk
end TWC
