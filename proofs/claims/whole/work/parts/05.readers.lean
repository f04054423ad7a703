/-! the class's other rows and readers -/
def rowF (g f : Nat → Int32) (a i : Nat) : Nat → Int32 := fun c => if a ≤ c ∧ c < i then g c else f c
theorem rowF_0 {g f : Nat → Int32} {a : Nat} : rowF g f a a = f := by
  funext c
  unfold rowF
  rw [if_neg (by omega)]
theorem rowF_upd {g f : Nat → Int32} {a i : Nat} (h : a ≤ i) : upd (rowF g f a i) i (g i) = rowF g f a (i + 1) := by
  funext c
  unfold upd rowF
  by_cases hc : c = i
  · subst hc; rw [if_pos rfl, if_pos (by omega)]
  · rw [if_neg hc]
    by_cases h2 : a ≤ c ∧ c < i
    · rw [if_pos h2, if_pos (by omega)]
    · rw [if_neg h2, if_neg (by omega)]
theorem rowF_in {g f : Nat → Int32} {a i c : Nat} (h : a ≤ c) (h2 : c < i) : rowF g f a i c = g c := by
  unfold rowF; rw [if_pos ⟨h, h2⟩]
def bitsN (P : Nat → Prop) [DecidablePred P] : Nat → Int32
  | 0 => 0
  | v + 1 => if P v then bitsN P v ||| (1 <<< ((nI (v + 1) - 1) &&& 31)) else bitsN P v
def maskN (P : Nat → Prop) [DecidablePred P] : Nat → Int32
  | 0 => 0
  | k + 1 => if P k then maskN P k ||| (1 <<< (nI k &&& 31)) else maskN P k
def dryN (f : Nat → Int32) : Nat → Int32
  | 0 => 0
  | k + 1 => if f k = 0 then dryN f k + 1 else dryN f k
abbrev cAllF (F : Nat → Nat → Int32) (sd : Int32) (n fd : Nat) (stroke press : Int32) : Prop := ∀ i, i < fd → cComes F sd n (F 9 i) (F 10 i) stroke press = F 11 i
def cHeavy (F : Nat → Nat → Int32) (sd : Int32) (n fd : Nat) (stroke : Int32) : Int32 := bitsN (fun v => cAllF F sd n fd stroke (nI (v + 1))) 9
def cLike (f : Nat → Int32) (comes presses : Int32) : Nat → Int32
  | 0 => 0
  | v + 1 => if (presses >>> ((nI (v + 1) - 1) &&& 31)) &&& 1 = 1 ∧ f (v + 1) = comes then cLike f comes presses v + 1 else cLike f comes presses v
theorem cLike_congr {f g : Nat → Int32} {x y : Int32} : ∀ k, (∀ c, 1 ≤ c → c ≤ k → f c = g c) → cLike f x y k = cLike g x y k
  | 0, _ => rfl
  | k + 1, h => by
    unfold cLike
    rw [cLike_congr k (fun c h1 h2 => h c h1 (by omega)), h (k + 1) (by omega) (by omega)]
def cWorst (f : Nat → Int32) (presses : Int32) : Nat → Int32
  | 0 => 0
  | v + 1 => if cWorst f presses v < cLike f (f (v + 1)) presses 9 then cLike f (f (v + 1)) presses 9 else cWorst f presses v
/-- what comes to a cell at a minute, by the press of a stroke -/
abbrev cByP (F : Nat → Nat → Int32) (sd : Int32) (n : Nat) (land minute stroke : Int32) : Nat → Int32 := fun c => cComes F sd n land minute stroke (nI c)
def cWetS (F : Nat → Nat → Int32) (sd : Int32) (n : Nat) (p0 p1 : Int32) : Int32 :=
  if okS n p0 then (if okMin p1 then (if bitOn sd p0 then 0 else cWet p0 (F 16 p0.toNatClampNeg) p1 (F 19 p0.toNatClampNeg)) else -102) else -101
abbrev cReach (F : Nat → Nat → Int32) (sd : Int32) (n : Nat) (minute cells : Int32) (k : Nat) : Prop :=
  ¬ ∀ c, c < 10 → ¬ ((cells >>> (nI c &&& 31)) &&& 1 = 1 ∧ 0 < cGives (F 17 k) (F 18 k) (F 16 k) (9 - nI c) (cWetS F sd n (nI k) minute))
def cAbout (F : Nat → Nat → Int32) (sd : Int32) (n fd : Nat) (p0 p1 : Int32) : Int32 :=
  if okS n p0 then (if p1 = 0 then F 16 p0.toNatClampNeg else if p1 = 1 then F 17 p0.toNatClampNeg else if p1 = 2 then F 18 p0.toNatClampNeg else if p1 = 3 then F 19 p0.toNatClampNeg
    else if p1 = 4 then b2 (bitOn sd p0) else if p1 = 5 then cHeavy F sd n fd p0 else -102) else -101
def cAs (F : Nat → Nat → Int32) (n : Nat) (p0 p1 : Int32) : Int32 :=
  if okS n p0 then (if okKind p1 then (if cIsA (F 16 p0.toNatClampNeg) p1 then p0 else -1) else -102) else -101
abbrev okW (p0 p1 p2 p3 : Int32) : Prop := okKind p0 ∧ okCell p1 ∧ ¬ p2 < 1 ∧ ¬ (5 : Int32) < p2 ∧ ¬ p3 < 1 ∧ ¬ (9 : Int32) < p3
def cWrite (n : Nat) (p0 p1 p2 p3 : Int32) : Int32 := if okW p0 p1 p2 p3 then (if 0 < n then (if n < 6 then nI n else -104) else -103) else -102
def cInk (f : Nat → Int32) (n : Nat) (p0 : Int32) : Int32 := if 0 < n ∧ okCell p0 then f p0.toNatClampNeg else -101
def cComesS (F : Nat → Nat → Int32) (sd : Int32) (n : Nat) (p0 p1 : Int32) : Int32 := if 0 < n ∧ okCell p0 then (if okMin p1 then cNow F sd n p0 p1 else -102) else -101
theorem okCell_nat {x : Int32} (h : okCell x) : ∃ k : Nat, k < 10 ∧ x = nI k := by
  rcases pk_ix x (n := 10) (by decide) with h1 | h1 | h1
  · exact absurd h1 h.1
  · exact absurd h1 h.2
  · exact h1
def cIn (f : Nat → Int32) (much : Int32) : Nat → Int32
  | 0 => 0
  | k + 1 => b2 (¬ f k < much)
def cHillN (f : Nat → Int32) (much : Int32) : Nat → Int32
  | 0 => 0
  | k + 1 => if ¬ f k < much ∧ cIn f much k = 0 then cHillN f much k + 1 else cHillN f much k
def cHills (f : Nat → Int32) (n : Nat) (p0 : Int32) : Int32 := if ¬ p0 < 1 ∧ ¬ (99 : Int32) < p0 then (if 0 < n then cHillN f p0 10 else -103) else -102
def cFirst (g : Nat → Int32) (v : Int32) : Nat → Nat → Int32
  | 0, _ => -1
  | z + 1, k => if g k = v then nI k else cFirst g v z (k + 1)
def cClose (F : Nat → Nat → Int32) (sd : Int32) (n : Nat) (p0 p1 : Int32) : Int32 := if 0 < n ∧ okCell p0 then (if okMuch p1 then cFirst (fun k => cNow F sd n p0 (nI k)) p1 21 0 else -102) else -101
theorem cFirst_step {g : Nat → Int32} {v : Int32} {k : Nat} {r : Int32} (hk : k < 21) (h : cFirst g v (21 - k) k = r) : (g k = v → nI k = r) ∧ (¬ g k = v → cFirst g v (21 - (k + 1)) (k + 1) = r) := by
  rw [show 21 - k = 21 - (k + 1) + 1 by omega, cFirst] at h
  exact ⟨fun e => by rw [if_pos e] at h; exact h, fun e => by rw [if_neg e] at h; exact h⟩
/-- Integer.bitCount, as it is written -/
def jbc1 (x : Int32) : Int32 := x - ((x.toUInt32 >>> ((1 : Int32).toUInt32 &&& Int32.toUInt32 31)).toInt32 &&& 1431655765)
def jbc2 (x : Int32) : Int32 := (x &&& 858993459) + ((x.toUInt32 >>> ((2 : Int32).toUInt32 &&& Int32.toUInt32 31)).toInt32 &&& 858993459)
def jbc3 (x : Int32) : Int32 := (x + (x.toUInt32 >>> ((4 : Int32).toUInt32 &&& Int32.toUInt32 31)).toInt32) &&& 252645135
def jbc4 (x : Int32) : Int32 := x + (x.toUInt32 >>> ((8 : Int32).toUInt32 &&& Int32.toUInt32 31)).toInt32
def jbc5 (x : Int32) : Int32 := x + (x.toUInt32 >>> ((16 : Int32).toUInt32 &&& Int32.toUInt32 31)).toInt32
def jbc (x : Int32) : Int32 := jbc5 (jbc4 (jbc3 (jbc2 (jbc1 x)))) &&& 63
def cToSand (F : Nat → Nat → Int32) (sd : Int32) (n : Nat) (p0 p1 p2 : Int32) : Int32 :=
  if okMin p0 ∧ ¬ p1 < 0 ∧ ¬ (1023 : Int32) < p1 ∧ ¬ p2 < 0 ∧ ¬ (1 : Int32) < p2 then (if 0 < n then (if p2 = 0 then jbc (maskN (cReach F sd n p0 p1) n) else maskN (cReach F sd n p0 p1) n) else -103) else -102
set_option maxHeartbeats 1000000 in
set_option maxRecDepth 100000 in
theorem c_X3_copyRow_8_12 (l : Launch) (D : va_G) (cI cB cS : ClassId) {B : Nat → Nat} {I : Nat → Int32} {F : Nat → Nat → Int32} : Met l yX3_copyRow (Wm yX3_copyRow cX3_copyRow 3 none) ({ frames := 0, cells := 0, slots := 0, locals := 0 }) (va_Pc [.ref (B 8), .ref (B 12)] (PW D (TYS cI cB cS) (wsB B cI cS I F))) (QcW D none (wsB B cI cS I F) (wsB B cI cS I (va_up F 12 (rowN (F 8) (F 12) 10)))) 0 0 (FPw (wsB B cI cS I F)) := by
  refine metW (by decide) [.ref (B 8), .ref (B 12)] (Nat.le_of_ble_eq_true rfl) ?_
  intro p e s m args below meth c hx hb hml hr hlk hown hts hKK hP hD hS ls hl
  obtain ⟨hK, hN⟩ := id hKK
  have hl : lv_has ls 3 [(0, .ref (B 8)), (1, .ref (B 12))] := hl
  refine lv_iconst (v := (0 : Int32)) hx hb dX3_copyRow_0 (by decide) ?_
  refine lv_istore_n (lv' := [(2, .int (0 : Int32)), (0, .ref (B 8)), (1, .ref (B 12))]) hx hb dX3_copyRow_1 rfl hl (by decide) rfl (fun ls hl => ?_)
  have loop_2 : ∀ (z : Nat) (k : Nat) (x2 : Int32), x2 = nI k → (k ≤ 10) → 10 - k < z → ∀ (H : Heap) (locs : List Loc), va_P D vwCl (wsB B cI cS I (va_up F 12 (rowN (F 8) (F 12) k))) H → va_S (FPw (wsB B cI cS I F)) s.heap H locs → ∀ (ls : Array Slot), lv_has ls 3 [(0, .ref (B 8)), (1, .ref (B 12)), (2, .int x2)] → W p l e ({ frames := 0, cells := 0, slots := 0, locals := 0 } : Room) s m args below meth c H locs 0 0 (MQ below (QcW D none (wsB B cI cS I F) (wsB B cI cS I (va_up F 12 (rowN (F 8) (F 12) 10)))) args s 0 0 (FPw (wsB B cI cS I F))) (F0 m 2 ls []) := by
    intro z
    induction z with
    | zero =>
      intro k x2 ex2 hk hz
      exact absurd hz (Nat.not_lt_zero _)
    | succ z ih_2 =>
      intro k x2 ex2 hk hz H locs hP hS ls hl
      subst ex2
      have hD := va_D_addr (ws := (wsB B cI cS I F)) (ws' := (wsB B cI cS I (va_up F 12 (rowN (F 8) (F 12) k)))) rfl hD
      refine lv_iload_n hx hb dX3_copyRow_2 rfl (lv_at hl 2 rfl) ?_
      refine lv_aload_n hx hb dX3_copyRow_3 rfl (lv_at hl 0 rfl) ?_
      refine va_alen (D := D) hx hb hK hP 8 0 rfl rfl (v := (10 : Int32)) rfl dX3_copyRow_4 ?_
      refine lv_icmp_ge (tgt := 26) hx hb dX3_copyRow_5 (by decide) (fun c_1 => ?_) (fun c_1 => ?_)
      · have nc_1 : 10 ≤ k := (nI_leI (a := 10) (b := k) (by omega) (by omega)).mp c_1
        exact retWv hx hb hr hlk hP hS dX3_copyRow_26 (by have hkn : k = 10 := (by omega); subst hkn; rfl)
      · have nc_1 : ¬ 10 ≤ k := fun h => c_1 ((nI_leI (a := 10) (b := k) (by omega) (by omega)).mpr h)
        refine lv_iload_n hx hb dX3_copyRow_8 rfl (lv_at hl 2 rfl) ?_
        refine lv_aload_n hx hb dX3_copyRow_9 rfl (lv_at hl 1 rfl) ?_
        refine va_alen (D := D) hx hb hK hP 12 0 rfl rfl (v := (10 : Int32)) rfl dX3_copyRow_10 ?_
        refine lv_icmp_ge (tgt := 26) hx hb dX3_copyRow_11 (by decide) (fun c_2 => ?_) (fun c_2 => ?_)
        · have nc_2 : 10 ≤ k := (nI_leI (a := 10) (b := k) (by omega) (by omega)).mp c_2
          exfalso; omega
        · have nc_2 : ¬ 10 ≤ k := fun h => c_2 ((nI_leI (a := 10) (b := k) (by omega) (by omega)).mpr h)
          refine lv_aload_n hx hb dX3_copyRow_14 rfl (lv_at hl 1 rfl) ?_
          refine lv_iload_n hx hb dX3_copyRow_15 rfl (lv_at hl 2 rfl) ?_
          refine lv_aload_n hx hb dX3_copyRow_16 rfl (lv_at hl 0 rfl) ?_
          refine lv_iload_n hx hb dX3_copyRow_17 rfl (lv_at hl 2 rfl) ?_
          refine va_iald (D := D) hx hb hK hP 8 0 rfl rfl (vp_in_nI (by omega) (by omega)) dX3_copyRow_18 ?_
          refine topE (z := ((F 8) k)) (congrArg _ (nI_clamp (n := k) (by omega))) ?_
          refine va_iast (D := D) hx hb hK hP hD hS 12 0 rfl rfl (vp_in_nI (by omega) (by omega)) dX3_copyRow_19 (fun H locs hP hD hS => ?_)
          rw [nI_clamp (n := k) (by omega)] at hP hD
          have hP : va_P D vwCl (wsB B cI cS I (va_up F 12 (upd (rowN (F 8) (F 12) k) k ((F 8) k)))) H := hP
          have hD : va_D (FPw (wsB B cI cS I F)) (wsB B cI cS I (va_up F 12 (upd (rowN (F 8) (F 12) k) k ((F 8) k)))) := hD
          refine lv_iinc (v := (nI (k + 1))) (lv' := [(2, .int (nI (k + 1))), (0, .ref (B 8)), (1, .ref (B 12))]) hx hb dX3_copyRow_20 hl (k := 2) rfl (nI_add k 1) (by decide) rfl (fun ls hl => ?_)
          refine lv_goto (tgt := 2) hx hb dX3_copyRow_23 (by decide) ?_
          have hP9 : va_P D vwCl (wsB B cI cS I (va_up F 12 (rowN (F 8) (F 12) (k + 1)))) H := by rw [← rowN_upd]; exact hP
          exact ih_2 (k + 1) (nI (k + 1)) rfl (by omega) (by omega) H locs hP9 hS ls (lv_sub hl [1, 2, 0] rfl)
  have hP9 : va_P D vwCl (wsB B cI cS I (va_up F 12 (rowN (F 8) (F 12) 0))) s.heap := by rw [rowN_0]; exact hP
  exact loop_2 ((10 - 0) + 1) 0 (0 : Int32) rfl (by omega) (by omega) s.heap [] hP9 hS ls (lv_sub hl [1, 2, 0] rfl)
set_option maxHeartbeats 1000000 in
set_option maxRecDepth 100000 in
theorem c_X3_copyRow_9_13 (l : Launch) (D : va_G) (cI cB cS : ClassId) {B : Nat → Nat} {I : Nat → Int32} {F : Nat → Nat → Int32} : Met l yX3_copyRow (Wm yX3_copyRow cX3_copyRow 3 none) ({ frames := 0, cells := 0, slots := 0, locals := 0 }) (va_Pc [.ref (B 9), .ref (B 13)] (PW D (TYS cI cB cS) (wsB B cI cS I F))) (QcW D none (wsB B cI cS I F) (wsB B cI cS I (va_up F 13 (rowN (F 9) (F 13) 6)))) 0 0 (FPw (wsB B cI cS I F)) := by
  refine metW (by decide) [.ref (B 9), .ref (B 13)] (Nat.le_of_ble_eq_true rfl) ?_
  intro p e s m args below meth c hx hb hml hr hlk hown hts hKK hP hD hS ls hl
  obtain ⟨hK, hN⟩ := id hKK
  have hl : lv_has ls 3 [(0, .ref (B 9)), (1, .ref (B 13))] := hl
  refine lv_iconst (v := (0 : Int32)) hx hb dX3_copyRow_0 (by decide) ?_
  refine lv_istore_n (lv' := [(2, .int (0 : Int32)), (0, .ref (B 9)), (1, .ref (B 13))]) hx hb dX3_copyRow_1 rfl hl (by decide) rfl (fun ls hl => ?_)
  have loop_2 : ∀ (z : Nat) (k : Nat) (x2 : Int32), x2 = nI k → (k ≤ 6) → 6 - k < z → ∀ (H : Heap) (locs : List Loc), va_P D vwCl (wsB B cI cS I (va_up F 13 (rowN (F 9) (F 13) k))) H → va_S (FPw (wsB B cI cS I F)) s.heap H locs → ∀ (ls : Array Slot), lv_has ls 3 [(0, .ref (B 9)), (1, .ref (B 13)), (2, .int x2)] → W p l e ({ frames := 0, cells := 0, slots := 0, locals := 0 } : Room) s m args below meth c H locs 0 0 (MQ below (QcW D none (wsB B cI cS I F) (wsB B cI cS I (va_up F 13 (rowN (F 9) (F 13) 6)))) args s 0 0 (FPw (wsB B cI cS I F))) (F0 m 2 ls []) := by
    intro z
    induction z with
    | zero =>
      intro k x2 ex2 hk hz
      exact absurd hz (Nat.not_lt_zero _)
    | succ z ih_2 =>
      intro k x2 ex2 hk hz H locs hP hS ls hl
      subst ex2
      have hD := va_D_addr (ws := (wsB B cI cS I F)) (ws' := (wsB B cI cS I (va_up F 13 (rowN (F 9) (F 13) k)))) rfl hD
      refine lv_iload_n hx hb dX3_copyRow_2 rfl (lv_at hl 2 rfl) ?_
      refine lv_aload_n hx hb dX3_copyRow_3 rfl (lv_at hl 0 rfl) ?_
      refine va_alen (D := D) hx hb hK hP 9 0 rfl rfl (v := (6 : Int32)) rfl dX3_copyRow_4 ?_
      refine lv_icmp_ge (tgt := 26) hx hb dX3_copyRow_5 (by decide) (fun c_1 => ?_) (fun c_1 => ?_)
      · have nc_1 : 6 ≤ k := (nI_leI (a := 6) (b := k) (by omega) (by omega)).mp c_1
        exact retWv hx hb hr hlk hP hS dX3_copyRow_26 (by have hkn : k = 6 := (by omega); subst hkn; rfl)
      · have nc_1 : ¬ 6 ≤ k := fun h => c_1 ((nI_leI (a := 6) (b := k) (by omega) (by omega)).mpr h)
        refine lv_iload_n hx hb dX3_copyRow_8 rfl (lv_at hl 2 rfl) ?_
        refine lv_aload_n hx hb dX3_copyRow_9 rfl (lv_at hl 1 rfl) ?_
        refine va_alen (D := D) hx hb hK hP 13 0 rfl rfl (v := (6 : Int32)) rfl dX3_copyRow_10 ?_
        refine lv_icmp_ge (tgt := 26) hx hb dX3_copyRow_11 (by decide) (fun c_2 => ?_) (fun c_2 => ?_)
        · have nc_2 : 6 ≤ k := (nI_leI (a := 6) (b := k) (by omega) (by omega)).mp c_2
          exfalso; omega
        · have nc_2 : ¬ 6 ≤ k := fun h => c_2 ((nI_leI (a := 6) (b := k) (by omega) (by omega)).mpr h)
          refine lv_aload_n hx hb dX3_copyRow_14 rfl (lv_at hl 1 rfl) ?_
          refine lv_iload_n hx hb dX3_copyRow_15 rfl (lv_at hl 2 rfl) ?_
          refine lv_aload_n hx hb dX3_copyRow_16 rfl (lv_at hl 0 rfl) ?_
          refine lv_iload_n hx hb dX3_copyRow_17 rfl (lv_at hl 2 rfl) ?_
          refine va_iald (D := D) hx hb hK hP 9 0 rfl rfl (vp_in_nI (by omega) (by omega)) dX3_copyRow_18 ?_
          refine topE (z := ((F 9) k)) (congrArg _ (nI_clamp (n := k) (by omega))) ?_
          refine va_iast (D := D) hx hb hK hP hD hS 13 0 rfl rfl (vp_in_nI (by omega) (by omega)) dX3_copyRow_19 (fun H locs hP hD hS => ?_)
          rw [nI_clamp (n := k) (by omega)] at hP hD
          have hP : va_P D vwCl (wsB B cI cS I (va_up F 13 (upd (rowN (F 9) (F 13) k) k ((F 9) k)))) H := hP
          have hD : va_D (FPw (wsB B cI cS I F)) (wsB B cI cS I (va_up F 13 (upd (rowN (F 9) (F 13) k) k ((F 9) k)))) := hD
          refine lv_iinc (v := (nI (k + 1))) (lv' := [(2, .int (nI (k + 1))), (0, .ref (B 9)), (1, .ref (B 13))]) hx hb dX3_copyRow_20 hl (k := 2) rfl (nI_add k 1) (by decide) rfl (fun ls hl => ?_)
          refine lv_goto (tgt := 2) hx hb dX3_copyRow_23 (by decide) ?_
          have hP9 : va_P D vwCl (wsB B cI cS I (va_up F 13 (rowN (F 9) (F 13) (k + 1)))) H := by rw [← rowN_upd]; exact hP
          exact ih_2 (k + 1) (nI (k + 1)) rfl (by omega) (by omega) H locs hP9 hS ls (lv_sub hl [1, 2, 0] rfl)
  have hP9 : va_P D vwCl (wsB B cI cS I (va_up F 13 (rowN (F 9) (F 13) 0))) s.heap := by rw [rowN_0]; exact hP
  exact loop_2 ((6 - 0) + 1) 0 (0 : Int32) rfl (by omega) (by omega) s.heap [] hP9 hS ls (lv_sub hl [1, 2, 0] rfl)
set_option maxHeartbeats 1000000 in
set_option maxRecDepth 100000 in
theorem c_X3_copyRow_10_14 (l : Launch) (D : va_G) (cI cB cS : ClassId) {B : Nat → Nat} {I : Nat → Int32} {F : Nat → Nat → Int32} : Met l yX3_copyRow (Wm yX3_copyRow cX3_copyRow 3 none) ({ frames := 0, cells := 0, slots := 0, locals := 0 }) (va_Pc [.ref (B 10), .ref (B 14)] (PW D (TYS cI cB cS) (wsB B cI cS I F))) (QcW D none (wsB B cI cS I F) (wsB B cI cS I (va_up F 14 (rowN (F 10) (F 14) 6)))) 0 0 (FPw (wsB B cI cS I F)) := by
  refine metW (by decide) [.ref (B 10), .ref (B 14)] (Nat.le_of_ble_eq_true rfl) ?_
  intro p e s m args below meth c hx hb hml hr hlk hown hts hKK hP hD hS ls hl
  obtain ⟨hK, hN⟩ := id hKK
  have hl : lv_has ls 3 [(0, .ref (B 10)), (1, .ref (B 14))] := hl
  refine lv_iconst (v := (0 : Int32)) hx hb dX3_copyRow_0 (by decide) ?_
  refine lv_istore_n (lv' := [(2, .int (0 : Int32)), (0, .ref (B 10)), (1, .ref (B 14))]) hx hb dX3_copyRow_1 rfl hl (by decide) rfl (fun ls hl => ?_)
  have loop_2 : ∀ (z : Nat) (k : Nat) (x2 : Int32), x2 = nI k → (k ≤ 6) → 6 - k < z → ∀ (H : Heap) (locs : List Loc), va_P D vwCl (wsB B cI cS I (va_up F 14 (rowN (F 10) (F 14) k))) H → va_S (FPw (wsB B cI cS I F)) s.heap H locs → ∀ (ls : Array Slot), lv_has ls 3 [(0, .ref (B 10)), (1, .ref (B 14)), (2, .int x2)] → W p l e ({ frames := 0, cells := 0, slots := 0, locals := 0 } : Room) s m args below meth c H locs 0 0 (MQ below (QcW D none (wsB B cI cS I F) (wsB B cI cS I (va_up F 14 (rowN (F 10) (F 14) 6)))) args s 0 0 (FPw (wsB B cI cS I F))) (F0 m 2 ls []) := by
    intro z
    induction z with
    | zero =>
      intro k x2 ex2 hk hz
      exact absurd hz (Nat.not_lt_zero _)
    | succ z ih_2 =>
      intro k x2 ex2 hk hz H locs hP hS ls hl
      subst ex2
      have hD := va_D_addr (ws := (wsB B cI cS I F)) (ws' := (wsB B cI cS I (va_up F 14 (rowN (F 10) (F 14) k)))) rfl hD
      refine lv_iload_n hx hb dX3_copyRow_2 rfl (lv_at hl 2 rfl) ?_
      refine lv_aload_n hx hb dX3_copyRow_3 rfl (lv_at hl 0 rfl) ?_
      refine va_alen (D := D) hx hb hK hP 10 0 rfl rfl (v := (6 : Int32)) rfl dX3_copyRow_4 ?_
      refine lv_icmp_ge (tgt := 26) hx hb dX3_copyRow_5 (by decide) (fun c_1 => ?_) (fun c_1 => ?_)
      · have nc_1 : 6 ≤ k := (nI_leI (a := 6) (b := k) (by omega) (by omega)).mp c_1
        exact retWv hx hb hr hlk hP hS dX3_copyRow_26 (by have hkn : k = 6 := (by omega); subst hkn; rfl)
      · have nc_1 : ¬ 6 ≤ k := fun h => c_1 ((nI_leI (a := 6) (b := k) (by omega) (by omega)).mpr h)
        refine lv_iload_n hx hb dX3_copyRow_8 rfl (lv_at hl 2 rfl) ?_
        refine lv_aload_n hx hb dX3_copyRow_9 rfl (lv_at hl 1 rfl) ?_
        refine va_alen (D := D) hx hb hK hP 14 0 rfl rfl (v := (6 : Int32)) rfl dX3_copyRow_10 ?_
        refine lv_icmp_ge (tgt := 26) hx hb dX3_copyRow_11 (by decide) (fun c_2 => ?_) (fun c_2 => ?_)
        · have nc_2 : 6 ≤ k := (nI_leI (a := 6) (b := k) (by omega) (by omega)).mp c_2
          exfalso; omega
        · have nc_2 : ¬ 6 ≤ k := fun h => c_2 ((nI_leI (a := 6) (b := k) (by omega) (by omega)).mpr h)
          refine lv_aload_n hx hb dX3_copyRow_14 rfl (lv_at hl 1 rfl) ?_
          refine lv_iload_n hx hb dX3_copyRow_15 rfl (lv_at hl 2 rfl) ?_
          refine lv_aload_n hx hb dX3_copyRow_16 rfl (lv_at hl 0 rfl) ?_
          refine lv_iload_n hx hb dX3_copyRow_17 rfl (lv_at hl 2 rfl) ?_
          refine va_iald (D := D) hx hb hK hP 10 0 rfl rfl (vp_in_nI (by omega) (by omega)) dX3_copyRow_18 ?_
          refine topE (z := ((F 10) k)) (congrArg _ (nI_clamp (n := k) (by omega))) ?_
          refine va_iast (D := D) hx hb hK hP hD hS 14 0 rfl rfl (vp_in_nI (by omega) (by omega)) dX3_copyRow_19 (fun H locs hP hD hS => ?_)
          rw [nI_clamp (n := k) (by omega)] at hP hD
          have hP : va_P D vwCl (wsB B cI cS I (va_up F 14 (upd (rowN (F 10) (F 14) k) k ((F 10) k)))) H := hP
          have hD : va_D (FPw (wsB B cI cS I F)) (wsB B cI cS I (va_up F 14 (upd (rowN (F 10) (F 14) k) k ((F 10) k)))) := hD
          refine lv_iinc (v := (nI (k + 1))) (lv' := [(2, .int (nI (k + 1))), (0, .ref (B 10)), (1, .ref (B 14))]) hx hb dX3_copyRow_20 hl (k := 2) rfl (nI_add k 1) (by decide) rfl (fun ls hl => ?_)
          refine lv_goto (tgt := 2) hx hb dX3_copyRow_23 (by decide) ?_
          have hP9 : va_P D vwCl (wsB B cI cS I (va_up F 14 (rowN (F 10) (F 14) (k + 1)))) H := by rw [← rowN_upd]; exact hP
          exact ih_2 (k + 1) (nI (k + 1)) rfl (by omega) (by omega) H locs hP9 hS ls (lv_sub hl [1, 2, 0] rfl)
  have hP9 : va_P D vwCl (wsB B cI cS I (va_up F 14 (rowN (F 10) (F 14) 0))) s.heap := by rw [rowN_0]; exact hP
  exact loop_2 ((6 - 0) + 1) 0 (0 : Int32) rfl (by omega) (by omega) s.heap [] hP9 hS ls (lv_sub hl [1, 2, 0] rfl)
set_option maxHeartbeats 1000000 in
set_option maxRecDepth 100000 in
theorem c_X3_copyRow_11_15 (l : Launch) (D : va_G) (cI cB cS : ClassId) {B : Nat → Nat} {I : Nat → Int32} {F : Nat → Nat → Int32} : Met l yX3_copyRow (Wm yX3_copyRow cX3_copyRow 3 none) ({ frames := 0, cells := 0, slots := 0, locals := 0 }) (va_Pc [.ref (B 11), .ref (B 15)] (PW D (TYS cI cB cS) (wsB B cI cS I F))) (QcW D none (wsB B cI cS I F) (wsB B cI cS I (va_up F 15 (rowN (F 11) (F 15) 6)))) 0 0 (FPw (wsB B cI cS I F)) := by
  refine metW (by decide) [.ref (B 11), .ref (B 15)] (Nat.le_of_ble_eq_true rfl) ?_
  intro p e s m args below meth c hx hb hml hr hlk hown hts hKK hP hD hS ls hl
  obtain ⟨hK, hN⟩ := id hKK
  have hl : lv_has ls 3 [(0, .ref (B 11)), (1, .ref (B 15))] := hl
  refine lv_iconst (v := (0 : Int32)) hx hb dX3_copyRow_0 (by decide) ?_
  refine lv_istore_n (lv' := [(2, .int (0 : Int32)), (0, .ref (B 11)), (1, .ref (B 15))]) hx hb dX3_copyRow_1 rfl hl (by decide) rfl (fun ls hl => ?_)
  have loop_2 : ∀ (z : Nat) (k : Nat) (x2 : Int32), x2 = nI k → (k ≤ 6) → 6 - k < z → ∀ (H : Heap) (locs : List Loc), va_P D vwCl (wsB B cI cS I (va_up F 15 (rowN (F 11) (F 15) k))) H → va_S (FPw (wsB B cI cS I F)) s.heap H locs → ∀ (ls : Array Slot), lv_has ls 3 [(0, .ref (B 11)), (1, .ref (B 15)), (2, .int x2)] → W p l e ({ frames := 0, cells := 0, slots := 0, locals := 0 } : Room) s m args below meth c H locs 0 0 (MQ below (QcW D none (wsB B cI cS I F) (wsB B cI cS I (va_up F 15 (rowN (F 11) (F 15) 6)))) args s 0 0 (FPw (wsB B cI cS I F))) (F0 m 2 ls []) := by
    intro z
    induction z with
    | zero =>
      intro k x2 ex2 hk hz
      exact absurd hz (Nat.not_lt_zero _)
    | succ z ih_2 =>
      intro k x2 ex2 hk hz H locs hP hS ls hl
      subst ex2
      have hD := va_D_addr (ws := (wsB B cI cS I F)) (ws' := (wsB B cI cS I (va_up F 15 (rowN (F 11) (F 15) k)))) rfl hD
      refine lv_iload_n hx hb dX3_copyRow_2 rfl (lv_at hl 2 rfl) ?_
      refine lv_aload_n hx hb dX3_copyRow_3 rfl (lv_at hl 0 rfl) ?_
      refine va_alen (D := D) hx hb hK hP 11 0 rfl rfl (v := (6 : Int32)) rfl dX3_copyRow_4 ?_
      refine lv_icmp_ge (tgt := 26) hx hb dX3_copyRow_5 (by decide) (fun c_1 => ?_) (fun c_1 => ?_)
      · have nc_1 : 6 ≤ k := (nI_leI (a := 6) (b := k) (by omega) (by omega)).mp c_1
        exact retWv hx hb hr hlk hP hS dX3_copyRow_26 (by have hkn : k = 6 := (by omega); subst hkn; rfl)
      · have nc_1 : ¬ 6 ≤ k := fun h => c_1 ((nI_leI (a := 6) (b := k) (by omega) (by omega)).mpr h)
        refine lv_iload_n hx hb dX3_copyRow_8 rfl (lv_at hl 2 rfl) ?_
        refine lv_aload_n hx hb dX3_copyRow_9 rfl (lv_at hl 1 rfl) ?_
        refine va_alen (D := D) hx hb hK hP 15 0 rfl rfl (v := (6 : Int32)) rfl dX3_copyRow_10 ?_
        refine lv_icmp_ge (tgt := 26) hx hb dX3_copyRow_11 (by decide) (fun c_2 => ?_) (fun c_2 => ?_)
        · have nc_2 : 6 ≤ k := (nI_leI (a := 6) (b := k) (by omega) (by omega)).mp c_2
          exfalso; omega
        · have nc_2 : ¬ 6 ≤ k := fun h => c_2 ((nI_leI (a := 6) (b := k) (by omega) (by omega)).mpr h)
          refine lv_aload_n hx hb dX3_copyRow_14 rfl (lv_at hl 1 rfl) ?_
          refine lv_iload_n hx hb dX3_copyRow_15 rfl (lv_at hl 2 rfl) ?_
          refine lv_aload_n hx hb dX3_copyRow_16 rfl (lv_at hl 0 rfl) ?_
          refine lv_iload_n hx hb dX3_copyRow_17 rfl (lv_at hl 2 rfl) ?_
          refine va_iald (D := D) hx hb hK hP 11 0 rfl rfl (vp_in_nI (by omega) (by omega)) dX3_copyRow_18 ?_
          refine topE (z := ((F 11) k)) (congrArg _ (nI_clamp (n := k) (by omega))) ?_
          refine va_iast (D := D) hx hb hK hP hD hS 15 0 rfl rfl (vp_in_nI (by omega) (by omega)) dX3_copyRow_19 (fun H locs hP hD hS => ?_)
          rw [nI_clamp (n := k) (by omega)] at hP hD
          have hP : va_P D vwCl (wsB B cI cS I (va_up F 15 (upd (rowN (F 11) (F 15) k) k ((F 11) k)))) H := hP
          have hD : va_D (FPw (wsB B cI cS I F)) (wsB B cI cS I (va_up F 15 (upd (rowN (F 11) (F 15) k) k ((F 11) k)))) := hD
          refine lv_iinc (v := (nI (k + 1))) (lv' := [(2, .int (nI (k + 1))), (0, .ref (B 11)), (1, .ref (B 15))]) hx hb dX3_copyRow_20 hl (k := 2) rfl (nI_add k 1) (by decide) rfl (fun ls hl => ?_)
          refine lv_goto (tgt := 2) hx hb dX3_copyRow_23 (by decide) ?_
          have hP9 : va_P D vwCl (wsB B cI cS I (va_up F 15 (rowN (F 11) (F 15) (k + 1)))) H := by rw [← rowN_upd]; exact hP
          exact ih_2 (k + 1) (nI (k + 1)) rfl (by omega) (by omega) H locs hP9 hS ls (lv_sub hl [1, 2, 0] rfl)
  have hP9 : va_P D vwCl (wsB B cI cS I (va_up F 15 (rowN (F 11) (F 15) 0))) s.heap := by rw [rowN_0]; exact hP
  exact loop_2 ((6 - 0) + 1) 0 (0 : Int32) rfl (by omega) (by omega) s.heap [] hP9 hS ls (lv_sub hl [1, 2, 0] rfl)
set_option maxHeartbeats 1000000 in
set_option maxRecDepth 100000 in
theorem c_X3_copyRow_12_8 (l : Launch) (D : va_G) (cI cB cS : ClassId) {B : Nat → Nat} {I : Nat → Int32} {F : Nat → Nat → Int32} : Met l yX3_copyRow (Wm yX3_copyRow cX3_copyRow 3 none) ({ frames := 0, cells := 0, slots := 0, locals := 0 }) (va_Pc [.ref (B 12), .ref (B 8)] (PW D (TYS cI cB cS) (wsB B cI cS I F))) (QcW D none (wsB B cI cS I F) (wsB B cI cS I (va_up F 8 (rowN (F 12) (F 8) 10)))) 0 0 (FPw (wsB B cI cS I F)) := by
  refine metW (by decide) [.ref (B 12), .ref (B 8)] (Nat.le_of_ble_eq_true rfl) ?_
  intro p e s m args below meth c hx hb hml hr hlk hown hts hKK hP hD hS ls hl
  obtain ⟨hK, hN⟩ := id hKK
  have hl : lv_has ls 3 [(0, .ref (B 12)), (1, .ref (B 8))] := hl
  refine lv_iconst (v := (0 : Int32)) hx hb dX3_copyRow_0 (by decide) ?_
  refine lv_istore_n (lv' := [(2, .int (0 : Int32)), (0, .ref (B 12)), (1, .ref (B 8))]) hx hb dX3_copyRow_1 rfl hl (by decide) rfl (fun ls hl => ?_)
  have loop_2 : ∀ (z : Nat) (k : Nat) (x2 : Int32), x2 = nI k → (k ≤ 10) → 10 - k < z → ∀ (H : Heap) (locs : List Loc), va_P D vwCl (wsB B cI cS I (va_up F 8 (rowN (F 12) (F 8) k))) H → va_S (FPw (wsB B cI cS I F)) s.heap H locs → ∀ (ls : Array Slot), lv_has ls 3 [(0, .ref (B 12)), (1, .ref (B 8)), (2, .int x2)] → W p l e ({ frames := 0, cells := 0, slots := 0, locals := 0 } : Room) s m args below meth c H locs 0 0 (MQ below (QcW D none (wsB B cI cS I F) (wsB B cI cS I (va_up F 8 (rowN (F 12) (F 8) 10)))) args s 0 0 (FPw (wsB B cI cS I F))) (F0 m 2 ls []) := by
    intro z
    induction z with
    | zero =>
      intro k x2 ex2 hk hz
      exact absurd hz (Nat.not_lt_zero _)
    | succ z ih_2 =>
      intro k x2 ex2 hk hz H locs hP hS ls hl
      subst ex2
      have hD := va_D_addr (ws := (wsB B cI cS I F)) (ws' := (wsB B cI cS I (va_up F 8 (rowN (F 12) (F 8) k)))) rfl hD
      refine lv_iload_n hx hb dX3_copyRow_2 rfl (lv_at hl 2 rfl) ?_
      refine lv_aload_n hx hb dX3_copyRow_3 rfl (lv_at hl 0 rfl) ?_
      refine va_alen (D := D) hx hb hK hP 12 0 rfl rfl (v := (10 : Int32)) rfl dX3_copyRow_4 ?_
      refine lv_icmp_ge (tgt := 26) hx hb dX3_copyRow_5 (by decide) (fun c_1 => ?_) (fun c_1 => ?_)
      · have nc_1 : 10 ≤ k := (nI_leI (a := 10) (b := k) (by omega) (by omega)).mp c_1
        exact retWv hx hb hr hlk hP hS dX3_copyRow_26 (by have hkn : k = 10 := (by omega); subst hkn; rfl)
      · have nc_1 : ¬ 10 ≤ k := fun h => c_1 ((nI_leI (a := 10) (b := k) (by omega) (by omega)).mpr h)
        refine lv_iload_n hx hb dX3_copyRow_8 rfl (lv_at hl 2 rfl) ?_
        refine lv_aload_n hx hb dX3_copyRow_9 rfl (lv_at hl 1 rfl) ?_
        refine va_alen (D := D) hx hb hK hP 8 0 rfl rfl (v := (10 : Int32)) rfl dX3_copyRow_10 ?_
        refine lv_icmp_ge (tgt := 26) hx hb dX3_copyRow_11 (by decide) (fun c_2 => ?_) (fun c_2 => ?_)
        · have nc_2 : 10 ≤ k := (nI_leI (a := 10) (b := k) (by omega) (by omega)).mp c_2
          exfalso; omega
        · have nc_2 : ¬ 10 ≤ k := fun h => c_2 ((nI_leI (a := 10) (b := k) (by omega) (by omega)).mpr h)
          refine lv_aload_n hx hb dX3_copyRow_14 rfl (lv_at hl 1 rfl) ?_
          refine lv_iload_n hx hb dX3_copyRow_15 rfl (lv_at hl 2 rfl) ?_
          refine lv_aload_n hx hb dX3_copyRow_16 rfl (lv_at hl 0 rfl) ?_
          refine lv_iload_n hx hb dX3_copyRow_17 rfl (lv_at hl 2 rfl) ?_
          refine va_iald (D := D) hx hb hK hP 12 0 rfl rfl (vp_in_nI (by omega) (by omega)) dX3_copyRow_18 ?_
          refine topE (z := ((F 12) k)) (congrArg _ (nI_clamp (n := k) (by omega))) ?_
          refine va_iast (D := D) hx hb hK hP hD hS 8 0 rfl rfl (vp_in_nI (by omega) (by omega)) dX3_copyRow_19 (fun H locs hP hD hS => ?_)
          rw [nI_clamp (n := k) (by omega)] at hP hD
          have hP : va_P D vwCl (wsB B cI cS I (va_up F 8 (upd (rowN (F 12) (F 8) k) k ((F 12) k)))) H := hP
          have hD : va_D (FPw (wsB B cI cS I F)) (wsB B cI cS I (va_up F 8 (upd (rowN (F 12) (F 8) k) k ((F 12) k)))) := hD
          refine lv_iinc (v := (nI (k + 1))) (lv' := [(2, .int (nI (k + 1))), (0, .ref (B 12)), (1, .ref (B 8))]) hx hb dX3_copyRow_20 hl (k := 2) rfl (nI_add k 1) (by decide) rfl (fun ls hl => ?_)
          refine lv_goto (tgt := 2) hx hb dX3_copyRow_23 (by decide) ?_
          have hP9 : va_P D vwCl (wsB B cI cS I (va_up F 8 (rowN (F 12) (F 8) (k + 1)))) H := by rw [← rowN_upd]; exact hP
          exact ih_2 (k + 1) (nI (k + 1)) rfl (by omega) (by omega) H locs hP9 hS ls (lv_sub hl [1, 2, 0] rfl)
  have hP9 : va_P D vwCl (wsB B cI cS I (va_up F 8 (rowN (F 12) (F 8) 0))) s.heap := by rw [rowN_0]; exact hP
  exact loop_2 ((10 - 0) + 1) 0 (0 : Int32) rfl (by omega) (by omega) s.heap [] hP9 hS ls (lv_sub hl [1, 2, 0] rfl)
set_option maxHeartbeats 1000000 in
set_option maxRecDepth 100000 in
theorem c_X3_copyRow_13_9 (l : Launch) (D : va_G) (cI cB cS : ClassId) {B : Nat → Nat} {I : Nat → Int32} {F : Nat → Nat → Int32} : Met l yX3_copyRow (Wm yX3_copyRow cX3_copyRow 3 none) ({ frames := 0, cells := 0, slots := 0, locals := 0 }) (va_Pc [.ref (B 13), .ref (B 9)] (PW D (TYS cI cB cS) (wsB B cI cS I F))) (QcW D none (wsB B cI cS I F) (wsB B cI cS I (va_up F 9 (rowN (F 13) (F 9) 6)))) 0 0 (FPw (wsB B cI cS I F)) := by
  refine metW (by decide) [.ref (B 13), .ref (B 9)] (Nat.le_of_ble_eq_true rfl) ?_
  intro p e s m args below meth c hx hb hml hr hlk hown hts hKK hP hD hS ls hl
  obtain ⟨hK, hN⟩ := id hKK
  have hl : lv_has ls 3 [(0, .ref (B 13)), (1, .ref (B 9))] := hl
  refine lv_iconst (v := (0 : Int32)) hx hb dX3_copyRow_0 (by decide) ?_
  refine lv_istore_n (lv' := [(2, .int (0 : Int32)), (0, .ref (B 13)), (1, .ref (B 9))]) hx hb dX3_copyRow_1 rfl hl (by decide) rfl (fun ls hl => ?_)
  have loop_2 : ∀ (z : Nat) (k : Nat) (x2 : Int32), x2 = nI k → (k ≤ 6) → 6 - k < z → ∀ (H : Heap) (locs : List Loc), va_P D vwCl (wsB B cI cS I (va_up F 9 (rowN (F 13) (F 9) k))) H → va_S (FPw (wsB B cI cS I F)) s.heap H locs → ∀ (ls : Array Slot), lv_has ls 3 [(0, .ref (B 13)), (1, .ref (B 9)), (2, .int x2)] → W p l e ({ frames := 0, cells := 0, slots := 0, locals := 0 } : Room) s m args below meth c H locs 0 0 (MQ below (QcW D none (wsB B cI cS I F) (wsB B cI cS I (va_up F 9 (rowN (F 13) (F 9) 6)))) args s 0 0 (FPw (wsB B cI cS I F))) (F0 m 2 ls []) := by
    intro z
    induction z with
    | zero =>
      intro k x2 ex2 hk hz
      exact absurd hz (Nat.not_lt_zero _)
    | succ z ih_2 =>
      intro k x2 ex2 hk hz H locs hP hS ls hl
      subst ex2
      have hD := va_D_addr (ws := (wsB B cI cS I F)) (ws' := (wsB B cI cS I (va_up F 9 (rowN (F 13) (F 9) k)))) rfl hD
      refine lv_iload_n hx hb dX3_copyRow_2 rfl (lv_at hl 2 rfl) ?_
      refine lv_aload_n hx hb dX3_copyRow_3 rfl (lv_at hl 0 rfl) ?_
      refine va_alen (D := D) hx hb hK hP 13 0 rfl rfl (v := (6 : Int32)) rfl dX3_copyRow_4 ?_
      refine lv_icmp_ge (tgt := 26) hx hb dX3_copyRow_5 (by decide) (fun c_1 => ?_) (fun c_1 => ?_)
      · have nc_1 : 6 ≤ k := (nI_leI (a := 6) (b := k) (by omega) (by omega)).mp c_1
        exact retWv hx hb hr hlk hP hS dX3_copyRow_26 (by have hkn : k = 6 := (by omega); subst hkn; rfl)
      · have nc_1 : ¬ 6 ≤ k := fun h => c_1 ((nI_leI (a := 6) (b := k) (by omega) (by omega)).mpr h)
        refine lv_iload_n hx hb dX3_copyRow_8 rfl (lv_at hl 2 rfl) ?_
        refine lv_aload_n hx hb dX3_copyRow_9 rfl (lv_at hl 1 rfl) ?_
        refine va_alen (D := D) hx hb hK hP 9 0 rfl rfl (v := (6 : Int32)) rfl dX3_copyRow_10 ?_
        refine lv_icmp_ge (tgt := 26) hx hb dX3_copyRow_11 (by decide) (fun c_2 => ?_) (fun c_2 => ?_)
        · have nc_2 : 6 ≤ k := (nI_leI (a := 6) (b := k) (by omega) (by omega)).mp c_2
          exfalso; omega
        · have nc_2 : ¬ 6 ≤ k := fun h => c_2 ((nI_leI (a := 6) (b := k) (by omega) (by omega)).mpr h)
          refine lv_aload_n hx hb dX3_copyRow_14 rfl (lv_at hl 1 rfl) ?_
          refine lv_iload_n hx hb dX3_copyRow_15 rfl (lv_at hl 2 rfl) ?_
          refine lv_aload_n hx hb dX3_copyRow_16 rfl (lv_at hl 0 rfl) ?_
          refine lv_iload_n hx hb dX3_copyRow_17 rfl (lv_at hl 2 rfl) ?_
          refine va_iald (D := D) hx hb hK hP 13 0 rfl rfl (vp_in_nI (by omega) (by omega)) dX3_copyRow_18 ?_
          refine topE (z := ((F 13) k)) (congrArg _ (nI_clamp (n := k) (by omega))) ?_
          refine va_iast (D := D) hx hb hK hP hD hS 9 0 rfl rfl (vp_in_nI (by omega) (by omega)) dX3_copyRow_19 (fun H locs hP hD hS => ?_)
          rw [nI_clamp (n := k) (by omega)] at hP hD
          have hP : va_P D vwCl (wsB B cI cS I (va_up F 9 (upd (rowN (F 13) (F 9) k) k ((F 13) k)))) H := hP
          have hD : va_D (FPw (wsB B cI cS I F)) (wsB B cI cS I (va_up F 9 (upd (rowN (F 13) (F 9) k) k ((F 13) k)))) := hD
          refine lv_iinc (v := (nI (k + 1))) (lv' := [(2, .int (nI (k + 1))), (0, .ref (B 13)), (1, .ref (B 9))]) hx hb dX3_copyRow_20 hl (k := 2) rfl (nI_add k 1) (by decide) rfl (fun ls hl => ?_)
          refine lv_goto (tgt := 2) hx hb dX3_copyRow_23 (by decide) ?_
          have hP9 : va_P D vwCl (wsB B cI cS I (va_up F 9 (rowN (F 13) (F 9) (k + 1)))) H := by rw [← rowN_upd]; exact hP
          exact ih_2 (k + 1) (nI (k + 1)) rfl (by omega) (by omega) H locs hP9 hS ls (lv_sub hl [1, 2, 0] rfl)
  have hP9 : va_P D vwCl (wsB B cI cS I (va_up F 9 (rowN (F 13) (F 9) 0))) s.heap := by rw [rowN_0]; exact hP
  exact loop_2 ((6 - 0) + 1) 0 (0 : Int32) rfl (by omega) (by omega) s.heap [] hP9 hS ls (lv_sub hl [1, 2, 0] rfl)
set_option maxHeartbeats 1000000 in
set_option maxRecDepth 100000 in
theorem c_X3_copyRow_14_10 (l : Launch) (D : va_G) (cI cB cS : ClassId) {B : Nat → Nat} {I : Nat → Int32} {F : Nat → Nat → Int32} : Met l yX3_copyRow (Wm yX3_copyRow cX3_copyRow 3 none) ({ frames := 0, cells := 0, slots := 0, locals := 0 }) (va_Pc [.ref (B 14), .ref (B 10)] (PW D (TYS cI cB cS) (wsB B cI cS I F))) (QcW D none (wsB B cI cS I F) (wsB B cI cS I (va_up F 10 (rowN (F 14) (F 10) 6)))) 0 0 (FPw (wsB B cI cS I F)) := by
  refine metW (by decide) [.ref (B 14), .ref (B 10)] (Nat.le_of_ble_eq_true rfl) ?_
  intro p e s m args below meth c hx hb hml hr hlk hown hts hKK hP hD hS ls hl
  obtain ⟨hK, hN⟩ := id hKK
  have hl : lv_has ls 3 [(0, .ref (B 14)), (1, .ref (B 10))] := hl
  refine lv_iconst (v := (0 : Int32)) hx hb dX3_copyRow_0 (by decide) ?_
  refine lv_istore_n (lv' := [(2, .int (0 : Int32)), (0, .ref (B 14)), (1, .ref (B 10))]) hx hb dX3_copyRow_1 rfl hl (by decide) rfl (fun ls hl => ?_)
  have loop_2 : ∀ (z : Nat) (k : Nat) (x2 : Int32), x2 = nI k → (k ≤ 6) → 6 - k < z → ∀ (H : Heap) (locs : List Loc), va_P D vwCl (wsB B cI cS I (va_up F 10 (rowN (F 14) (F 10) k))) H → va_S (FPw (wsB B cI cS I F)) s.heap H locs → ∀ (ls : Array Slot), lv_has ls 3 [(0, .ref (B 14)), (1, .ref (B 10)), (2, .int x2)] → W p l e ({ frames := 0, cells := 0, slots := 0, locals := 0 } : Room) s m args below meth c H locs 0 0 (MQ below (QcW D none (wsB B cI cS I F) (wsB B cI cS I (va_up F 10 (rowN (F 14) (F 10) 6)))) args s 0 0 (FPw (wsB B cI cS I F))) (F0 m 2 ls []) := by
    intro z
    induction z with
    | zero =>
      intro k x2 ex2 hk hz
      exact absurd hz (Nat.not_lt_zero _)
    | succ z ih_2 =>
      intro k x2 ex2 hk hz H locs hP hS ls hl
      subst ex2
      have hD := va_D_addr (ws := (wsB B cI cS I F)) (ws' := (wsB B cI cS I (va_up F 10 (rowN (F 14) (F 10) k)))) rfl hD
      refine lv_iload_n hx hb dX3_copyRow_2 rfl (lv_at hl 2 rfl) ?_
      refine lv_aload_n hx hb dX3_copyRow_3 rfl (lv_at hl 0 rfl) ?_
      refine va_alen (D := D) hx hb hK hP 14 0 rfl rfl (v := (6 : Int32)) rfl dX3_copyRow_4 ?_
      refine lv_icmp_ge (tgt := 26) hx hb dX3_copyRow_5 (by decide) (fun c_1 => ?_) (fun c_1 => ?_)
      · have nc_1 : 6 ≤ k := (nI_leI (a := 6) (b := k) (by omega) (by omega)).mp c_1
        exact retWv hx hb hr hlk hP hS dX3_copyRow_26 (by have hkn : k = 6 := (by omega); subst hkn; rfl)
      · have nc_1 : ¬ 6 ≤ k := fun h => c_1 ((nI_leI (a := 6) (b := k) (by omega) (by omega)).mpr h)
        refine lv_iload_n hx hb dX3_copyRow_8 rfl (lv_at hl 2 rfl) ?_
        refine lv_aload_n hx hb dX3_copyRow_9 rfl (lv_at hl 1 rfl) ?_
        refine va_alen (D := D) hx hb hK hP 10 0 rfl rfl (v := (6 : Int32)) rfl dX3_copyRow_10 ?_
        refine lv_icmp_ge (tgt := 26) hx hb dX3_copyRow_11 (by decide) (fun c_2 => ?_) (fun c_2 => ?_)
        · have nc_2 : 6 ≤ k := (nI_leI (a := 6) (b := k) (by omega) (by omega)).mp c_2
          exfalso; omega
        · have nc_2 : ¬ 6 ≤ k := fun h => c_2 ((nI_leI (a := 6) (b := k) (by omega) (by omega)).mpr h)
          refine lv_aload_n hx hb dX3_copyRow_14 rfl (lv_at hl 1 rfl) ?_
          refine lv_iload_n hx hb dX3_copyRow_15 rfl (lv_at hl 2 rfl) ?_
          refine lv_aload_n hx hb dX3_copyRow_16 rfl (lv_at hl 0 rfl) ?_
          refine lv_iload_n hx hb dX3_copyRow_17 rfl (lv_at hl 2 rfl) ?_
          refine va_iald (D := D) hx hb hK hP 14 0 rfl rfl (vp_in_nI (by omega) (by omega)) dX3_copyRow_18 ?_
          refine topE (z := ((F 14) k)) (congrArg _ (nI_clamp (n := k) (by omega))) ?_
          refine va_iast (D := D) hx hb hK hP hD hS 10 0 rfl rfl (vp_in_nI (by omega) (by omega)) dX3_copyRow_19 (fun H locs hP hD hS => ?_)
          rw [nI_clamp (n := k) (by omega)] at hP hD
          have hP : va_P D vwCl (wsB B cI cS I (va_up F 10 (upd (rowN (F 14) (F 10) k) k ((F 14) k)))) H := hP
          have hD : va_D (FPw (wsB B cI cS I F)) (wsB B cI cS I (va_up F 10 (upd (rowN (F 14) (F 10) k) k ((F 14) k)))) := hD
          refine lv_iinc (v := (nI (k + 1))) (lv' := [(2, .int (nI (k + 1))), (0, .ref (B 14)), (1, .ref (B 10))]) hx hb dX3_copyRow_20 hl (k := 2) rfl (nI_add k 1) (by decide) rfl (fun ls hl => ?_)
          refine lv_goto (tgt := 2) hx hb dX3_copyRow_23 (by decide) ?_
          have hP9 : va_P D vwCl (wsB B cI cS I (va_up F 10 (rowN (F 14) (F 10) (k + 1)))) H := by rw [← rowN_upd]; exact hP
          exact ih_2 (k + 1) (nI (k + 1)) rfl (by omega) (by omega) H locs hP9 hS ls (lv_sub hl [1, 2, 0] rfl)
  have hP9 : va_P D vwCl (wsB B cI cS I (va_up F 10 (rowN (F 14) (F 10) 0))) s.heap := by rw [rowN_0]; exact hP
  exact loop_2 ((6 - 0) + 1) 0 (0 : Int32) rfl (by omega) (by omega) s.heap [] hP9 hS ls (lv_sub hl [1, 2, 0] rfl)
set_option maxHeartbeats 1000000 in
set_option maxRecDepth 100000 in
theorem c_X3_copyRow_15_11 (l : Launch) (D : va_G) (cI cB cS : ClassId) {B : Nat → Nat} {I : Nat → Int32} {F : Nat → Nat → Int32} : Met l yX3_copyRow (Wm yX3_copyRow cX3_copyRow 3 none) ({ frames := 0, cells := 0, slots := 0, locals := 0 }) (va_Pc [.ref (B 15), .ref (B 11)] (PW D (TYS cI cB cS) (wsB B cI cS I F))) (QcW D none (wsB B cI cS I F) (wsB B cI cS I (va_up F 11 (rowN (F 15) (F 11) 6)))) 0 0 (FPw (wsB B cI cS I F)) := by
  refine metW (by decide) [.ref (B 15), .ref (B 11)] (Nat.le_of_ble_eq_true rfl) ?_
  intro p e s m args below meth c hx hb hml hr hlk hown hts hKK hP hD hS ls hl
  obtain ⟨hK, hN⟩ := id hKK
  have hl : lv_has ls 3 [(0, .ref (B 15)), (1, .ref (B 11))] := hl
  refine lv_iconst (v := (0 : Int32)) hx hb dX3_copyRow_0 (by decide) ?_
  refine lv_istore_n (lv' := [(2, .int (0 : Int32)), (0, .ref (B 15)), (1, .ref (B 11))]) hx hb dX3_copyRow_1 rfl hl (by decide) rfl (fun ls hl => ?_)
  have loop_2 : ∀ (z : Nat) (k : Nat) (x2 : Int32), x2 = nI k → (k ≤ 6) → 6 - k < z → ∀ (H : Heap) (locs : List Loc), va_P D vwCl (wsB B cI cS I (va_up F 11 (rowN (F 15) (F 11) k))) H → va_S (FPw (wsB B cI cS I F)) s.heap H locs → ∀ (ls : Array Slot), lv_has ls 3 [(0, .ref (B 15)), (1, .ref (B 11)), (2, .int x2)] → W p l e ({ frames := 0, cells := 0, slots := 0, locals := 0 } : Room) s m args below meth c H locs 0 0 (MQ below (QcW D none (wsB B cI cS I F) (wsB B cI cS I (va_up F 11 (rowN (F 15) (F 11) 6)))) args s 0 0 (FPw (wsB B cI cS I F))) (F0 m 2 ls []) := by
    intro z
    induction z with
    | zero =>
      intro k x2 ex2 hk hz
      exact absurd hz (Nat.not_lt_zero _)
    | succ z ih_2 =>
      intro k x2 ex2 hk hz H locs hP hS ls hl
      subst ex2
      have hD := va_D_addr (ws := (wsB B cI cS I F)) (ws' := (wsB B cI cS I (va_up F 11 (rowN (F 15) (F 11) k)))) rfl hD
      refine lv_iload_n hx hb dX3_copyRow_2 rfl (lv_at hl 2 rfl) ?_
      refine lv_aload_n hx hb dX3_copyRow_3 rfl (lv_at hl 0 rfl) ?_
      refine va_alen (D := D) hx hb hK hP 15 0 rfl rfl (v := (6 : Int32)) rfl dX3_copyRow_4 ?_
      refine lv_icmp_ge (tgt := 26) hx hb dX3_copyRow_5 (by decide) (fun c_1 => ?_) (fun c_1 => ?_)
      · have nc_1 : 6 ≤ k := (nI_leI (a := 6) (b := k) (by omega) (by omega)).mp c_1
        exact retWv hx hb hr hlk hP hS dX3_copyRow_26 (by have hkn : k = 6 := (by omega); subst hkn; rfl)
      · have nc_1 : ¬ 6 ≤ k := fun h => c_1 ((nI_leI (a := 6) (b := k) (by omega) (by omega)).mpr h)
        refine lv_iload_n hx hb dX3_copyRow_8 rfl (lv_at hl 2 rfl) ?_
        refine lv_aload_n hx hb dX3_copyRow_9 rfl (lv_at hl 1 rfl) ?_
        refine va_alen (D := D) hx hb hK hP 11 0 rfl rfl (v := (6 : Int32)) rfl dX3_copyRow_10 ?_
        refine lv_icmp_ge (tgt := 26) hx hb dX3_copyRow_11 (by decide) (fun c_2 => ?_) (fun c_2 => ?_)
        · have nc_2 : 6 ≤ k := (nI_leI (a := 6) (b := k) (by omega) (by omega)).mp c_2
          exfalso; omega
        · have nc_2 : ¬ 6 ≤ k := fun h => c_2 ((nI_leI (a := 6) (b := k) (by omega) (by omega)).mpr h)
          refine lv_aload_n hx hb dX3_copyRow_14 rfl (lv_at hl 1 rfl) ?_
          refine lv_iload_n hx hb dX3_copyRow_15 rfl (lv_at hl 2 rfl) ?_
          refine lv_aload_n hx hb dX3_copyRow_16 rfl (lv_at hl 0 rfl) ?_
          refine lv_iload_n hx hb dX3_copyRow_17 rfl (lv_at hl 2 rfl) ?_
          refine va_iald (D := D) hx hb hK hP 15 0 rfl rfl (vp_in_nI (by omega) (by omega)) dX3_copyRow_18 ?_
          refine topE (z := ((F 15) k)) (congrArg _ (nI_clamp (n := k) (by omega))) ?_
          refine va_iast (D := D) hx hb hK hP hD hS 11 0 rfl rfl (vp_in_nI (by omega) (by omega)) dX3_copyRow_19 (fun H locs hP hD hS => ?_)
          rw [nI_clamp (n := k) (by omega)] at hP hD
          have hP : va_P D vwCl (wsB B cI cS I (va_up F 11 (upd (rowN (F 15) (F 11) k) k ((F 15) k)))) H := hP
          have hD : va_D (FPw (wsB B cI cS I F)) (wsB B cI cS I (va_up F 11 (upd (rowN (F 15) (F 11) k) k ((F 15) k)))) := hD
          refine lv_iinc (v := (nI (k + 1))) (lv' := [(2, .int (nI (k + 1))), (0, .ref (B 15)), (1, .ref (B 11))]) hx hb dX3_copyRow_20 hl (k := 2) rfl (nI_add k 1) (by decide) rfl (fun ls hl => ?_)
          refine lv_goto (tgt := 2) hx hb dX3_copyRow_23 (by decide) ?_
          have hP9 : va_P D vwCl (wsB B cI cS I (va_up F 11 (rowN (F 15) (F 11) (k + 1)))) H := by rw [← rowN_upd]; exact hP
          exact ih_2 (k + 1) (nI (k + 1)) rfl (by omega) (by omega) H locs hP9 hS ls (lv_sub hl [1, 2, 0] rfl)
  have hP9 : va_P D vwCl (wsB B cI cS I (va_up F 11 (rowN (F 15) (F 11) 0))) s.heap := by rw [rowN_0]; exact hP
  exact loop_2 ((6 - 0) + 1) 0 (0 : Int32) rfl (by omega) (by omega) s.heap [] hP9 hS ls (lv_sub hl [1, 2, 0] rfl)
set_option maxHeartbeats 1000000 in
set_option maxRecDepth 100000 in
theorem c_X3_copyRow_8_5 (l : Launch) (D : va_G) (cI cB cS : ClassId) {B : Nat → Nat} {I : Nat → Int32} {F : Nat → Nat → Int32} : Met l yX3_copyRow (Wm yX3_copyRow cX3_copyRow 3 none) ({ frames := 0, cells := 0, slots := 0, locals := 0 }) (va_Pc [.ref (B 8), .ref (B 5)] (PW D (TYS cI cB cS) (wsB B cI cS I F))) (QcW D none (wsB B cI cS I F) (wsB B cI cS I (va_up F 5 (rowN (F 8) (F 5) 10)))) 0 0 (FPw (wsB B cI cS I F)) := by
  refine metW (by decide) [.ref (B 8), .ref (B 5)] (Nat.le_of_ble_eq_true rfl) ?_
  intro p e s m args below meth c hx hb hml hr hlk hown hts hKK hP hD hS ls hl
  obtain ⟨hK, hN⟩ := id hKK
  have hl : lv_has ls 3 [(0, .ref (B 8)), (1, .ref (B 5))] := hl
  refine lv_iconst (v := (0 : Int32)) hx hb dX3_copyRow_0 (by decide) ?_
  refine lv_istore_n (lv' := [(2, .int (0 : Int32)), (0, .ref (B 8)), (1, .ref (B 5))]) hx hb dX3_copyRow_1 rfl hl (by decide) rfl (fun ls hl => ?_)
  have loop_2 : ∀ (z : Nat) (k : Nat) (x2 : Int32), x2 = nI k → (k ≤ 10) → 10 - k < z → ∀ (H : Heap) (locs : List Loc), va_P D vwCl (wsB B cI cS I (va_up F 5 (rowN (F 8) (F 5) k))) H → va_S (FPw (wsB B cI cS I F)) s.heap H locs → ∀ (ls : Array Slot), lv_has ls 3 [(0, .ref (B 8)), (1, .ref (B 5)), (2, .int x2)] → W p l e ({ frames := 0, cells := 0, slots := 0, locals := 0 } : Room) s m args below meth c H locs 0 0 (MQ below (QcW D none (wsB B cI cS I F) (wsB B cI cS I (va_up F 5 (rowN (F 8) (F 5) 10)))) args s 0 0 (FPw (wsB B cI cS I F))) (F0 m 2 ls []) := by
    intro z
    induction z with
    | zero =>
      intro k x2 ex2 hk hz
      exact absurd hz (Nat.not_lt_zero _)
    | succ z ih_2 =>
      intro k x2 ex2 hk hz H locs hP hS ls hl
      subst ex2
      have hD := va_D_addr (ws := (wsB B cI cS I F)) (ws' := (wsB B cI cS I (va_up F 5 (rowN (F 8) (F 5) k)))) rfl hD
      refine lv_iload_n hx hb dX3_copyRow_2 rfl (lv_at hl 2 rfl) ?_
      refine lv_aload_n hx hb dX3_copyRow_3 rfl (lv_at hl 0 rfl) ?_
      refine va_alen (D := D) hx hb hK hP 8 0 rfl rfl (v := (10 : Int32)) rfl dX3_copyRow_4 ?_
      refine lv_icmp_ge (tgt := 26) hx hb dX3_copyRow_5 (by decide) (fun c_1 => ?_) (fun c_1 => ?_)
      · have nc_1 : 10 ≤ k := (nI_leI (a := 10) (b := k) (by omega) (by omega)).mp c_1
        exact retWv hx hb hr hlk hP hS dX3_copyRow_26 (by have hkn : k = 10 := (by omega); subst hkn; rfl)
      · have nc_1 : ¬ 10 ≤ k := fun h => c_1 ((nI_leI (a := 10) (b := k) (by omega) (by omega)).mpr h)
        refine lv_iload_n hx hb dX3_copyRow_8 rfl (lv_at hl 2 rfl) ?_
        refine lv_aload_n hx hb dX3_copyRow_9 rfl (lv_at hl 1 rfl) ?_
        refine va_alen (D := D) hx hb hK hP 5 0 rfl rfl (v := (10 : Int32)) rfl dX3_copyRow_10 ?_
        refine lv_icmp_ge (tgt := 26) hx hb dX3_copyRow_11 (by decide) (fun c_2 => ?_) (fun c_2 => ?_)
        · have nc_2 : 10 ≤ k := (nI_leI (a := 10) (b := k) (by omega) (by omega)).mp c_2
          exfalso; omega
        · have nc_2 : ¬ 10 ≤ k := fun h => c_2 ((nI_leI (a := 10) (b := k) (by omega) (by omega)).mpr h)
          refine lv_aload_n hx hb dX3_copyRow_14 rfl (lv_at hl 1 rfl) ?_
          refine lv_iload_n hx hb dX3_copyRow_15 rfl (lv_at hl 2 rfl) ?_
          refine lv_aload_n hx hb dX3_copyRow_16 rfl (lv_at hl 0 rfl) ?_
          refine lv_iload_n hx hb dX3_copyRow_17 rfl (lv_at hl 2 rfl) ?_
          refine va_iald (D := D) hx hb hK hP 8 0 rfl rfl (vp_in_nI (by omega) (by omega)) dX3_copyRow_18 ?_
          refine topE (z := ((F 8) k)) (congrArg _ (nI_clamp (n := k) (by omega))) ?_
          refine va_iast (D := D) hx hb hK hP hD hS 5 0 rfl rfl (vp_in_nI (by omega) (by omega)) dX3_copyRow_19 (fun H locs hP hD hS => ?_)
          rw [nI_clamp (n := k) (by omega)] at hP hD
          have hP : va_P D vwCl (wsB B cI cS I (va_up F 5 (upd (rowN (F 8) (F 5) k) k ((F 8) k)))) H := hP
          have hD : va_D (FPw (wsB B cI cS I F)) (wsB B cI cS I (va_up F 5 (upd (rowN (F 8) (F 5) k) k ((F 8) k)))) := hD
          refine lv_iinc (v := (nI (k + 1))) (lv' := [(2, .int (nI (k + 1))), (0, .ref (B 8)), (1, .ref (B 5))]) hx hb dX3_copyRow_20 hl (k := 2) rfl (nI_add k 1) (by decide) rfl (fun ls hl => ?_)
          refine lv_goto (tgt := 2) hx hb dX3_copyRow_23 (by decide) ?_
          have hP9 : va_P D vwCl (wsB B cI cS I (va_up F 5 (rowN (F 8) (F 5) (k + 1)))) H := by rw [← rowN_upd]; exact hP
          exact ih_2 (k + 1) (nI (k + 1)) rfl (by omega) (by omega) H locs hP9 hS ls (lv_sub hl [1, 2, 0] rfl)
  have hP9 : va_P D vwCl (wsB B cI cS I (va_up F 5 (rowN (F 8) (F 5) 0))) s.heap := by rw [rowN_0]; exact hP
  exact loop_2 ((10 - 0) + 1) 0 (0 : Int32) rfl (by omega) (by omega) s.heap [] hP9 hS ls (lv_sub hl [1, 2, 0] rfl)
set_option maxHeartbeats 1000000 in
set_option maxRecDepth 100000 in
theorem c_X1_copyFrom_kept (l : Launch) (D : va_G) (cI cB cS : ClassId) {B : Nat → Nat} {I : Nat → Int32} {F : Nat → Nat → Int32} : Met l yX1_copyFrom (Wm yX1_copyFrom cX1_copyFrom 2 none) ({ frames := 1, cells := 0, slots := 0, locals := 22 }) (va_Pc [.ref (B 4), .ref (B 3)] (PW D (TYS cI cB cS) (wsB B cI cS I F))) (QcW D none (wsB B cI cS I F) (wsB B cI cS (upd (upd (upd (upd I 7 (I 3)) 8 (I 4)) 9 (I 5)) 10 (I 6)) (va_up (va_up (va_up (va_up F 12 (rowN (F 8) (F 12) 10)) 13 (rowN (F 9) (F 13) 6)) 14 (rowN (F 10) (F 14) 6)) 15 (rowN (F 11) (F 15) 6)))) 0 0 (FPw (wsB B cI cS I F)) := by
  refine metW (by decide) [.ref (B 4), .ref (B 3)] (Nat.le_of_ble_eq_true rfl) ?_
  intro p e s m args below meth c hx hb hml hr hlk hown hts hKK hP hD hS ls hl
  obtain ⟨hK, hN⟩ := id hKK
  have hl : lv_has ls 2 [(0, .ref (B 4)), (1, .ref (B 3))] := hl
  refine lv_aload_n hx hb dX1_copyFrom_0 rfl (lv_at hl 0 rfl) ?_
  refine lv_aload_n hx hb dX1_copyFrom_1 rfl (lv_at hl 1 rfl) ?_
  refine va_get (D := D) (ci := 1) (v := .int (I 3)) (C := RX1) (T := TX1) (N := 8) hx hb hts inlX1 hown hK hP 3 rfl rfl 0 (by decide) (hts _ kw_38) (fun _ h9 => h9) rfl dX1_copyFrom_2 ?_
  refine va_put (D := D) (ci := 1) (v := .int (I 3)) (ty := tyX1 0) (C := RX1) (T := TX1) (N := 8) hx hb hts inlX1 tyX1 tyX1_ok nmX1 hown hK hP hD hS 4 rfl rfl 0 (by decide) (hts _ kw_38) (fun _ h9 => h9) rfl (tyX1_ok 0 (by decide)) rfl rfl (Nat.le_of_ble_eq_true rfl) dX1_copyFrom_5 (fun H locs hP hD hS => ?_)
  have hP : va_P D vwCl (wsB B cI cS (upd I 7 (I 3)) F) H := hP
  have hD : va_D (FPw (wsB B cI cS I F)) (wsB B cI cS (upd I 7 (I 3)) F) := hD
  refine lv_aload_n hx hb dX1_copyFrom_8 rfl (lv_at hl 0 rfl) ?_
  refine lv_aload_n hx hb dX1_copyFrom_9 rfl (lv_at hl 1 rfl) ?_
  refine va_get (D := D) (ci := 1) (v := .int (I 4)) (C := RX1) (T := TX1) (N := 8) hx hb hts inlX1 hown hK hP 3 rfl rfl 1 (by decide) (hts _ kw_39) (fun _ h9 => h9) rfl dX1_copyFrom_10 ?_
  refine va_put (D := D) (ci := 1) (v := .int (I 4)) (ty := tyX1 1) (C := RX1) (T := TX1) (N := 8) hx hb hts inlX1 tyX1 tyX1_ok nmX1 hown hK hP hD hS 4 rfl rfl 1 (by decide) (hts _ kw_39) (fun _ h9 => h9) rfl (tyX1_ok 1 (by decide)) rfl rfl (Nat.le_of_ble_eq_true rfl) dX1_copyFrom_13 (fun H locs hP hD hS => ?_)
  have hP : va_P D vwCl (wsB B cI cS (upd (upd I 7 (I 3)) 8 (I 4)) F) H := hP
  have hD : va_D (FPw (wsB B cI cS I F)) (wsB B cI cS (upd (upd I 7 (I 3)) 8 (I 4)) F) := hD
  refine lv_aload_n hx hb dX1_copyFrom_16 rfl (lv_at hl 0 rfl) ?_
  refine lv_aload_n hx hb dX1_copyFrom_17 rfl (lv_at hl 1 rfl) ?_
  refine va_get (D := D) (ci := 1) (v := .int (I 5)) (C := RX1) (T := TX1) (N := 8) hx hb hts inlX1 hown hK hP 3 rfl rfl 2 (by decide) (hts _ kw_40) (fun _ h9 => h9) rfl dX1_copyFrom_18 ?_
  refine va_put (D := D) (ci := 1) (v := .int (I 5)) (ty := tyX1 2) (C := RX1) (T := TX1) (N := 8) hx hb hts inlX1 tyX1 tyX1_ok nmX1 hown hK hP hD hS 4 rfl rfl 2 (by decide) (hts _ kw_40) (fun _ h9 => h9) rfl (tyX1_ok 2 (by decide)) rfl rfl (Nat.le_of_ble_eq_true rfl) dX1_copyFrom_21 (fun H locs hP hD hS => ?_)
  have hP : va_P D vwCl (wsB B cI cS (upd (upd (upd I 7 (I 3)) 8 (I 4)) 9 (I 5)) F) H := hP
  have hD : va_D (FPw (wsB B cI cS I F)) (wsB B cI cS (upd (upd (upd I 7 (I 3)) 8 (I 4)) 9 (I 5)) F) := hD
  refine lv_aload_n hx hb dX1_copyFrom_24 rfl (lv_at hl 0 rfl) ?_
  refine lv_aload_n hx hb dX1_copyFrom_25 rfl (lv_at hl 1 rfl) ?_
  refine va_get (D := D) (ci := 1) (v := .int (I 6)) (C := RX1) (T := TX1) (N := 8) hx hb hts inlX1 hown hK hP 3 rfl rfl 3 (by decide) (hts _ kw_41) (fun _ h9 => h9) rfl dX1_copyFrom_26 ?_
  refine va_put (D := D) (ci := 1) (v := .int (I 6)) (ty := tyX1 3) (C := RX1) (T := TX1) (N := 8) hx hb hts inlX1 tyX1 tyX1_ok nmX1 hown hK hP hD hS 4 rfl rfl 3 (by decide) (hts _ kw_41) (fun _ h9 => h9) rfl (tyX1_ok 3 (by decide)) rfl rfl (Nat.le_of_ble_eq_true rfl) dX1_copyFrom_29 (fun H locs hP hD hS => ?_)
  have hP : va_P D vwCl (wsB B cI cS (upd (upd (upd (upd I 7 (I 3)) 8 (I 4)) 9 (I 5)) 10 (I 6)) F) H := hP
  have hD : va_D (FPw (wsB B cI cS I F)) (wsB B cI cS (upd (upd (upd (upd I 7 (I 3)) 8 (I 4)) 9 (I 5)) 10 (I 6)) F) := hD
  refine lv_aload_n hx hb dX1_copyFrom_32 rfl (lv_at hl 1 rfl) ?_
  refine va_get (D := D) (ci := 1) (v := .ref (B 8)) (C := RX1) (T := TX1) (N := 8) hx hb hts inlX1 hown hK hP 3 rfl rfl 4 (by decide) (hts _ kw_42) (fun _ h9 => h9) rfl dX1_copyFrom_33 ?_
  refine lv_aload_n hx hb dX1_copyFrom_36 rfl (lv_at hl 0 rfl) ?_
  refine va_get (D := D) (ci := 1) (v := .ref (B 12)) (C := RX1) (T := TX1) (N := 8) hx hb hts inlX1 hown hK hP 4 rfl rfl 4 (by decide) (hts _ kw_42) (fun _ h9 => h9) rfl dX1_copyFrom_37 ?_
  refine wcSNv (As := [.ref (B 8), .ref (B 12)]) (rest := []) hx hb hml hown hts hKK hP hD hS (c_X3_copyRow_8_12 l D cI cB cS ) ⟨va_cnB 2 hts (Wm_good kw_544) rfl rfl rfl (nfM_2 hN) (hts _ kw_3) (by decide +kernel) ⟨Nat.le_of_ble_eq_true rfl, Nat.le_of_ble_eq_true rfl⟩, hts _ kw_543, trivial⟩ rfl hl.1 rfl (Nat.le_of_ble_eq_true rfl) ⟨Nat.zero_le _, Nat.zero_le _⟩ dX1_copyFrom_40 (fun H locs hP hS => ?_)
  have hP : va_P D vwCl (wsB B cI cS (upd (upd (upd (upd I 7 (I 3)) 8 (I 4)) 9 (I 5)) 10 (I 6)) (va_up F 12 (rowN (F 8) (F 12) 10))) H := hP
  have hD : va_D (FPw (wsB B cI cS I F)) (wsB B cI cS (upd (upd (upd (upd I 7 (I 3)) 8 (I 4)) 9 (I 5)) 10 (I 6)) (va_up F 12 (rowN (F 8) (F 12) 10))) := va_D_addr (ws := (wsB B cI cS (upd (upd (upd (upd I 7 (I 3)) 8 (I 4)) 9 (I 5)) 10 (I 6)) F)) rfl hD
  refine lv_aload_n hx hb dX1_copyFrom_43 rfl (lv_at hl 1 rfl) ?_
  refine va_get (D := D) (ci := 1) (v := .ref (B 9)) (C := RX1) (T := TX1) (N := 8) hx hb hts inlX1 hown hK hP 3 rfl rfl 5 (by decide) (hts _ kw_43) (fun _ h9 => h9) rfl dX1_copyFrom_44 ?_
  refine lv_aload_n hx hb dX1_copyFrom_47 rfl (lv_at hl 0 rfl) ?_
  refine va_get (D := D) (ci := 1) (v := .ref (B 13)) (C := RX1) (T := TX1) (N := 8) hx hb hts inlX1 hown hK hP 4 rfl rfl 5 (by decide) (hts _ kw_43) (fun _ h9 => h9) rfl dX1_copyFrom_48 ?_
  refine wcSNv (As := [.ref (B 9), .ref (B 13)]) (rest := []) hx hb hml hown hts hKK hP hD hS (c_X3_copyRow_9_13 l D cI cB cS ) ⟨va_cnB 2 hts (Wm_good kw_544) rfl rfl rfl (nfM_2 hN) (hts _ kw_3) (by decide +kernel) ⟨Nat.le_of_ble_eq_true rfl, Nat.le_of_ble_eq_true rfl⟩, hts _ kw_543, trivial⟩ rfl hl.1 rfl (Nat.le_of_ble_eq_true rfl) ⟨Nat.zero_le _, Nat.zero_le _⟩ dX1_copyFrom_51 (fun H locs hP hS => ?_)
  have hP : va_P D vwCl (wsB B cI cS (upd (upd (upd (upd I 7 (I 3)) 8 (I 4)) 9 (I 5)) 10 (I 6)) (va_up (va_up F 12 (rowN (F 8) (F 12) 10)) 13 (rowN (F 9) (F 13) 6))) H := hP
  have hD : va_D (FPw (wsB B cI cS I F)) (wsB B cI cS (upd (upd (upd (upd I 7 (I 3)) 8 (I 4)) 9 (I 5)) 10 (I 6)) (va_up (va_up F 12 (rowN (F 8) (F 12) 10)) 13 (rowN (F 9) (F 13) 6))) := va_D_addr (ws := (wsB B cI cS (upd (upd (upd (upd I 7 (I 3)) 8 (I 4)) 9 (I 5)) 10 (I 6)) (va_up F 12 (rowN (F 8) (F 12) 10)))) rfl hD
  refine lv_aload_n hx hb dX1_copyFrom_54 rfl (lv_at hl 1 rfl) ?_
  refine va_get (D := D) (ci := 1) (v := .ref (B 10)) (C := RX1) (T := TX1) (N := 8) hx hb hts inlX1 hown hK hP 3 rfl rfl 6 (by decide) (hts _ kw_44) (fun _ h9 => h9) rfl dX1_copyFrom_55 ?_
  refine lv_aload_n hx hb dX1_copyFrom_58 rfl (lv_at hl 0 rfl) ?_
  refine va_get (D := D) (ci := 1) (v := .ref (B 14)) (C := RX1) (T := TX1) (N := 8) hx hb hts inlX1 hown hK hP 4 rfl rfl 6 (by decide) (hts _ kw_44) (fun _ h9 => h9) rfl dX1_copyFrom_59 ?_
  refine wcSNv (As := [.ref (B 10), .ref (B 14)]) (rest := []) hx hb hml hown hts hKK hP hD hS (c_X3_copyRow_10_14 l D cI cB cS ) ⟨va_cnB 2 hts (Wm_good kw_544) rfl rfl rfl (nfM_2 hN) (hts _ kw_3) (by decide +kernel) ⟨Nat.le_of_ble_eq_true rfl, Nat.le_of_ble_eq_true rfl⟩, hts _ kw_543, trivial⟩ rfl hl.1 rfl (Nat.le_of_ble_eq_true rfl) ⟨Nat.zero_le _, Nat.zero_le _⟩ dX1_copyFrom_62 (fun H locs hP hS => ?_)
  have hP : va_P D vwCl (wsB B cI cS (upd (upd (upd (upd I 7 (I 3)) 8 (I 4)) 9 (I 5)) 10 (I 6)) (va_up (va_up (va_up F 12 (rowN (F 8) (F 12) 10)) 13 (rowN (F 9) (F 13) 6)) 14 (rowN (F 10) (F 14) 6))) H := hP
  have hD : va_D (FPw (wsB B cI cS I F)) (wsB B cI cS (upd (upd (upd (upd I 7 (I 3)) 8 (I 4)) 9 (I 5)) 10 (I 6)) (va_up (va_up (va_up F 12 (rowN (F 8) (F 12) 10)) 13 (rowN (F 9) (F 13) 6)) 14 (rowN (F 10) (F 14) 6))) := va_D_addr (ws := (wsB B cI cS (upd (upd (upd (upd I 7 (I 3)) 8 (I 4)) 9 (I 5)) 10 (I 6)) (va_up (va_up F 12 (rowN (F 8) (F 12) 10)) 13 (rowN (F 9) (F 13) 6)))) rfl hD
  refine lv_aload_n hx hb dX1_copyFrom_65 rfl (lv_at hl 1 rfl) ?_
  refine va_get (D := D) (ci := 1) (v := .ref (B 11)) (C := RX1) (T := TX1) (N := 8) hx hb hts inlX1 hown hK hP 3 rfl rfl 7 (by decide) (hts _ kw_45) (fun _ h9 => h9) rfl dX1_copyFrom_66 ?_
  refine lv_aload_n hx hb dX1_copyFrom_69 rfl (lv_at hl 0 rfl) ?_
  refine va_get (D := D) (ci := 1) (v := .ref (B 15)) (C := RX1) (T := TX1) (N := 8) hx hb hts inlX1 hown hK hP 4 rfl rfl 7 (by decide) (hts _ kw_45) (fun _ h9 => h9) rfl dX1_copyFrom_70 ?_
  refine wcSNv (As := [.ref (B 11), .ref (B 15)]) (rest := []) hx hb hml hown hts hKK hP hD hS (c_X3_copyRow_11_15 l D cI cB cS ) ⟨va_cnB 2 hts (Wm_good kw_544) rfl rfl rfl (nfM_2 hN) (hts _ kw_3) (by decide +kernel) ⟨Nat.le_of_ble_eq_true rfl, Nat.le_of_ble_eq_true rfl⟩, hts _ kw_543, trivial⟩ rfl hl.1 rfl (Nat.le_of_ble_eq_true rfl) ⟨Nat.zero_le _, Nat.zero_le _⟩ dX1_copyFrom_73 (fun H locs hP hS => ?_)
  have hP : va_P D vwCl (wsB B cI cS (upd (upd (upd (upd I 7 (I 3)) 8 (I 4)) 9 (I 5)) 10 (I 6)) (va_up (va_up (va_up (va_up F 12 (rowN (F 8) (F 12) 10)) 13 (rowN (F 9) (F 13) 6)) 14 (rowN (F 10) (F 14) 6)) 15 (rowN (F 11) (F 15) 6))) H := hP
  have hD : va_D (FPw (wsB B cI cS I F)) (wsB B cI cS (upd (upd (upd (upd I 7 (I 3)) 8 (I 4)) 9 (I 5)) 10 (I 6)) (va_up (va_up (va_up (va_up F 12 (rowN (F 8) (F 12) 10)) 13 (rowN (F 9) (F 13) 6)) 14 (rowN (F 10) (F 14) 6)) 15 (rowN (F 11) (F 15) 6))) := va_D_addr (ws := (wsB B cI cS (upd (upd (upd (upd I 7 (I 3)) 8 (I 4)) 9 (I 5)) 10 (I 6)) (va_up (va_up (va_up F 12 (rowN (F 8) (F 12) 10)) 13 (rowN (F 9) (F 13) 6)) 14 (rowN (F 10) (F 14) 6)))) rfl hD
  exact retWv hx hb hr hlk hP hS dX1_copyFrom_76 rfl
set_option maxHeartbeats 1000000 in
set_option maxRecDepth 100000 in
theorem c_X1_copyFrom_now (l : Launch) (D : va_G) (cI cB cS : ClassId) {B : Nat → Nat} {I : Nat → Int32} {F : Nat → Nat → Int32} : Met l yX1_copyFrom (Wm yX1_copyFrom cX1_copyFrom 2 none) ({ frames := 1, cells := 0, slots := 0, locals := 22 }) (va_Pc [.ref (B 3), .ref (B 4)] (PW D (TYS cI cB cS) (wsB B cI cS I F))) (QcW D none (wsB B cI cS I F) (wsB B cI cS (upd (upd (upd (upd I 3 (I 7)) 4 (I 8)) 5 (I 9)) 6 (I 10)) (va_up (va_up (va_up (va_up F 8 (rowN (F 12) (F 8) 10)) 9 (rowN (F 13) (F 9) 6)) 10 (rowN (F 14) (F 10) 6)) 11 (rowN (F 15) (F 11) 6)))) 0 0 (FPw (wsB B cI cS I F)) := by
  refine metW (by decide) [.ref (B 3), .ref (B 4)] (Nat.le_of_ble_eq_true rfl) ?_
  intro p e s m args below meth c hx hb hml hr hlk hown hts hKK hP hD hS ls hl
  obtain ⟨hK, hN⟩ := id hKK
  have hl : lv_has ls 2 [(0, .ref (B 3)), (1, .ref (B 4))] := hl
  refine lv_aload_n hx hb dX1_copyFrom_0 rfl (lv_at hl 0 rfl) ?_
  refine lv_aload_n hx hb dX1_copyFrom_1 rfl (lv_at hl 1 rfl) ?_
  refine va_get (D := D) (ci := 1) (v := .int (I 7)) (C := RX1) (T := TX1) (N := 8) hx hb hts inlX1 hown hK hP 4 rfl rfl 0 (by decide) (hts _ kw_38) (fun _ h9 => h9) rfl dX1_copyFrom_2 ?_
  refine va_put (D := D) (ci := 1) (v := .int (I 7)) (ty := tyX1 0) (C := RX1) (T := TX1) (N := 8) hx hb hts inlX1 tyX1 tyX1_ok nmX1 hown hK hP hD hS 3 rfl rfl 0 (by decide) (hts _ kw_38) (fun _ h9 => h9) rfl (tyX1_ok 0 (by decide)) rfl rfl (Nat.le_of_ble_eq_true rfl) dX1_copyFrom_5 (fun H locs hP hD hS => ?_)
  have hP : va_P D vwCl (wsB B cI cS (upd I 3 (I 7)) F) H := hP
  have hD : va_D (FPw (wsB B cI cS I F)) (wsB B cI cS (upd I 3 (I 7)) F) := hD
  refine lv_aload_n hx hb dX1_copyFrom_8 rfl (lv_at hl 0 rfl) ?_
  refine lv_aload_n hx hb dX1_copyFrom_9 rfl (lv_at hl 1 rfl) ?_
  refine va_get (D := D) (ci := 1) (v := .int (I 8)) (C := RX1) (T := TX1) (N := 8) hx hb hts inlX1 hown hK hP 4 rfl rfl 1 (by decide) (hts _ kw_39) (fun _ h9 => h9) rfl dX1_copyFrom_10 ?_
  refine va_put (D := D) (ci := 1) (v := .int (I 8)) (ty := tyX1 1) (C := RX1) (T := TX1) (N := 8) hx hb hts inlX1 tyX1 tyX1_ok nmX1 hown hK hP hD hS 3 rfl rfl 1 (by decide) (hts _ kw_39) (fun _ h9 => h9) rfl (tyX1_ok 1 (by decide)) rfl rfl (Nat.le_of_ble_eq_true rfl) dX1_copyFrom_13 (fun H locs hP hD hS => ?_)
  have hP : va_P D vwCl (wsB B cI cS (upd (upd I 3 (I 7)) 4 (I 8)) F) H := hP
  have hD : va_D (FPw (wsB B cI cS I F)) (wsB B cI cS (upd (upd I 3 (I 7)) 4 (I 8)) F) := hD
  refine lv_aload_n hx hb dX1_copyFrom_16 rfl (lv_at hl 0 rfl) ?_
  refine lv_aload_n hx hb dX1_copyFrom_17 rfl (lv_at hl 1 rfl) ?_
  refine va_get (D := D) (ci := 1) (v := .int (I 9)) (C := RX1) (T := TX1) (N := 8) hx hb hts inlX1 hown hK hP 4 rfl rfl 2 (by decide) (hts _ kw_40) (fun _ h9 => h9) rfl dX1_copyFrom_18 ?_
  refine va_put (D := D) (ci := 1) (v := .int (I 9)) (ty := tyX1 2) (C := RX1) (T := TX1) (N := 8) hx hb hts inlX1 tyX1 tyX1_ok nmX1 hown hK hP hD hS 3 rfl rfl 2 (by decide) (hts _ kw_40) (fun _ h9 => h9) rfl (tyX1_ok 2 (by decide)) rfl rfl (Nat.le_of_ble_eq_true rfl) dX1_copyFrom_21 (fun H locs hP hD hS => ?_)
  have hP : va_P D vwCl (wsB B cI cS (upd (upd (upd I 3 (I 7)) 4 (I 8)) 5 (I 9)) F) H := hP
  have hD : va_D (FPw (wsB B cI cS I F)) (wsB B cI cS (upd (upd (upd I 3 (I 7)) 4 (I 8)) 5 (I 9)) F) := hD
  refine lv_aload_n hx hb dX1_copyFrom_24 rfl (lv_at hl 0 rfl) ?_
  refine lv_aload_n hx hb dX1_copyFrom_25 rfl (lv_at hl 1 rfl) ?_
  refine va_get (D := D) (ci := 1) (v := .int (I 10)) (C := RX1) (T := TX1) (N := 8) hx hb hts inlX1 hown hK hP 4 rfl rfl 3 (by decide) (hts _ kw_41) (fun _ h9 => h9) rfl dX1_copyFrom_26 ?_
  refine va_put (D := D) (ci := 1) (v := .int (I 10)) (ty := tyX1 3) (C := RX1) (T := TX1) (N := 8) hx hb hts inlX1 tyX1 tyX1_ok nmX1 hown hK hP hD hS 3 rfl rfl 3 (by decide) (hts _ kw_41) (fun _ h9 => h9) rfl (tyX1_ok 3 (by decide)) rfl rfl (Nat.le_of_ble_eq_true rfl) dX1_copyFrom_29 (fun H locs hP hD hS => ?_)
  have hP : va_P D vwCl (wsB B cI cS (upd (upd (upd (upd I 3 (I 7)) 4 (I 8)) 5 (I 9)) 6 (I 10)) F) H := hP
  have hD : va_D (FPw (wsB B cI cS I F)) (wsB B cI cS (upd (upd (upd (upd I 3 (I 7)) 4 (I 8)) 5 (I 9)) 6 (I 10)) F) := hD
  refine lv_aload_n hx hb dX1_copyFrom_32 rfl (lv_at hl 1 rfl) ?_
  refine va_get (D := D) (ci := 1) (v := .ref (B 12)) (C := RX1) (T := TX1) (N := 8) hx hb hts inlX1 hown hK hP 4 rfl rfl 4 (by decide) (hts _ kw_42) (fun _ h9 => h9) rfl dX1_copyFrom_33 ?_
  refine lv_aload_n hx hb dX1_copyFrom_36 rfl (lv_at hl 0 rfl) ?_
  refine va_get (D := D) (ci := 1) (v := .ref (B 8)) (C := RX1) (T := TX1) (N := 8) hx hb hts inlX1 hown hK hP 3 rfl rfl 4 (by decide) (hts _ kw_42) (fun _ h9 => h9) rfl dX1_copyFrom_37 ?_
  refine wcSNv (As := [.ref (B 12), .ref (B 8)]) (rest := []) hx hb hml hown hts hKK hP hD hS (c_X3_copyRow_12_8 l D cI cB cS ) ⟨va_cnB 2 hts (Wm_good kw_544) rfl rfl rfl (nfM_2 hN) (hts _ kw_3) (by decide +kernel) ⟨Nat.le_of_ble_eq_true rfl, Nat.le_of_ble_eq_true rfl⟩, hts _ kw_543, trivial⟩ rfl hl.1 rfl (Nat.le_of_ble_eq_true rfl) ⟨Nat.zero_le _, Nat.zero_le _⟩ dX1_copyFrom_40 (fun H locs hP hS => ?_)
  have hP : va_P D vwCl (wsB B cI cS (upd (upd (upd (upd I 3 (I 7)) 4 (I 8)) 5 (I 9)) 6 (I 10)) (va_up F 8 (rowN (F 12) (F 8) 10))) H := hP
  have hD : va_D (FPw (wsB B cI cS I F)) (wsB B cI cS (upd (upd (upd (upd I 3 (I 7)) 4 (I 8)) 5 (I 9)) 6 (I 10)) (va_up F 8 (rowN (F 12) (F 8) 10))) := va_D_addr (ws := (wsB B cI cS (upd (upd (upd (upd I 3 (I 7)) 4 (I 8)) 5 (I 9)) 6 (I 10)) F)) rfl hD
  refine lv_aload_n hx hb dX1_copyFrom_43 rfl (lv_at hl 1 rfl) ?_
  refine va_get (D := D) (ci := 1) (v := .ref (B 13)) (C := RX1) (T := TX1) (N := 8) hx hb hts inlX1 hown hK hP 4 rfl rfl 5 (by decide) (hts _ kw_43) (fun _ h9 => h9) rfl dX1_copyFrom_44 ?_
  refine lv_aload_n hx hb dX1_copyFrom_47 rfl (lv_at hl 0 rfl) ?_
  refine va_get (D := D) (ci := 1) (v := .ref (B 9)) (C := RX1) (T := TX1) (N := 8) hx hb hts inlX1 hown hK hP 3 rfl rfl 5 (by decide) (hts _ kw_43) (fun _ h9 => h9) rfl dX1_copyFrom_48 ?_
  refine wcSNv (As := [.ref (B 13), .ref (B 9)]) (rest := []) hx hb hml hown hts hKK hP hD hS (c_X3_copyRow_13_9 l D cI cB cS ) ⟨va_cnB 2 hts (Wm_good kw_544) rfl rfl rfl (nfM_2 hN) (hts _ kw_3) (by decide +kernel) ⟨Nat.le_of_ble_eq_true rfl, Nat.le_of_ble_eq_true rfl⟩, hts _ kw_543, trivial⟩ rfl hl.1 rfl (Nat.le_of_ble_eq_true rfl) ⟨Nat.zero_le _, Nat.zero_le _⟩ dX1_copyFrom_51 (fun H locs hP hS => ?_)
  have hP : va_P D vwCl (wsB B cI cS (upd (upd (upd (upd I 3 (I 7)) 4 (I 8)) 5 (I 9)) 6 (I 10)) (va_up (va_up F 8 (rowN (F 12) (F 8) 10)) 9 (rowN (F 13) (F 9) 6))) H := hP
  have hD : va_D (FPw (wsB B cI cS I F)) (wsB B cI cS (upd (upd (upd (upd I 3 (I 7)) 4 (I 8)) 5 (I 9)) 6 (I 10)) (va_up (va_up F 8 (rowN (F 12) (F 8) 10)) 9 (rowN (F 13) (F 9) 6))) := va_D_addr (ws := (wsB B cI cS (upd (upd (upd (upd I 3 (I 7)) 4 (I 8)) 5 (I 9)) 6 (I 10)) (va_up F 8 (rowN (F 12) (F 8) 10)))) rfl hD
  refine lv_aload_n hx hb dX1_copyFrom_54 rfl (lv_at hl 1 rfl) ?_
  refine va_get (D := D) (ci := 1) (v := .ref (B 14)) (C := RX1) (T := TX1) (N := 8) hx hb hts inlX1 hown hK hP 4 rfl rfl 6 (by decide) (hts _ kw_44) (fun _ h9 => h9) rfl dX1_copyFrom_55 ?_
  refine lv_aload_n hx hb dX1_copyFrom_58 rfl (lv_at hl 0 rfl) ?_
  refine va_get (D := D) (ci := 1) (v := .ref (B 10)) (C := RX1) (T := TX1) (N := 8) hx hb hts inlX1 hown hK hP 3 rfl rfl 6 (by decide) (hts _ kw_44) (fun _ h9 => h9) rfl dX1_copyFrom_59 ?_
  refine wcSNv (As := [.ref (B 14), .ref (B 10)]) (rest := []) hx hb hml hown hts hKK hP hD hS (c_X3_copyRow_14_10 l D cI cB cS ) ⟨va_cnB 2 hts (Wm_good kw_544) rfl rfl rfl (nfM_2 hN) (hts _ kw_3) (by decide +kernel) ⟨Nat.le_of_ble_eq_true rfl, Nat.le_of_ble_eq_true rfl⟩, hts _ kw_543, trivial⟩ rfl hl.1 rfl (Nat.le_of_ble_eq_true rfl) ⟨Nat.zero_le _, Nat.zero_le _⟩ dX1_copyFrom_62 (fun H locs hP hS => ?_)
  have hP : va_P D vwCl (wsB B cI cS (upd (upd (upd (upd I 3 (I 7)) 4 (I 8)) 5 (I 9)) 6 (I 10)) (va_up (va_up (va_up F 8 (rowN (F 12) (F 8) 10)) 9 (rowN (F 13) (F 9) 6)) 10 (rowN (F 14) (F 10) 6))) H := hP
  have hD : va_D (FPw (wsB B cI cS I F)) (wsB B cI cS (upd (upd (upd (upd I 3 (I 7)) 4 (I 8)) 5 (I 9)) 6 (I 10)) (va_up (va_up (va_up F 8 (rowN (F 12) (F 8) 10)) 9 (rowN (F 13) (F 9) 6)) 10 (rowN (F 14) (F 10) 6))) := va_D_addr (ws := (wsB B cI cS (upd (upd (upd (upd I 3 (I 7)) 4 (I 8)) 5 (I 9)) 6 (I 10)) (va_up (va_up F 8 (rowN (F 12) (F 8) 10)) 9 (rowN (F 13) (F 9) 6)))) rfl hD
  refine lv_aload_n hx hb dX1_copyFrom_65 rfl (lv_at hl 1 rfl) ?_
  refine va_get (D := D) (ci := 1) (v := .ref (B 15)) (C := RX1) (T := TX1) (N := 8) hx hb hts inlX1 hown hK hP 4 rfl rfl 7 (by decide) (hts _ kw_45) (fun _ h9 => h9) rfl dX1_copyFrom_66 ?_
  refine lv_aload_n hx hb dX1_copyFrom_69 rfl (lv_at hl 0 rfl) ?_
  refine va_get (D := D) (ci := 1) (v := .ref (B 11)) (C := RX1) (T := TX1) (N := 8) hx hb hts inlX1 hown hK hP 3 rfl rfl 7 (by decide) (hts _ kw_45) (fun _ h9 => h9) rfl dX1_copyFrom_70 ?_
  refine wcSNv (As := [.ref (B 15), .ref (B 11)]) (rest := []) hx hb hml hown hts hKK hP hD hS (c_X3_copyRow_15_11 l D cI cB cS ) ⟨va_cnB 2 hts (Wm_good kw_544) rfl rfl rfl (nfM_2 hN) (hts _ kw_3) (by decide +kernel) ⟨Nat.le_of_ble_eq_true rfl, Nat.le_of_ble_eq_true rfl⟩, hts _ kw_543, trivial⟩ rfl hl.1 rfl (Nat.le_of_ble_eq_true rfl) ⟨Nat.zero_le _, Nat.zero_le _⟩ dX1_copyFrom_73 (fun H locs hP hS => ?_)
  have hP : va_P D vwCl (wsB B cI cS (upd (upd (upd (upd I 3 (I 7)) 4 (I 8)) 5 (I 9)) 6 (I 10)) (va_up (va_up (va_up (va_up F 8 (rowN (F 12) (F 8) 10)) 9 (rowN (F 13) (F 9) 6)) 10 (rowN (F 14) (F 10) 6)) 11 (rowN (F 15) (F 11) 6))) H := hP
  have hD : va_D (FPw (wsB B cI cS I F)) (wsB B cI cS (upd (upd (upd (upd I 3 (I 7)) 4 (I 8)) 5 (I 9)) 6 (I 10)) (va_up (va_up (va_up (va_up F 8 (rowN (F 12) (F 8) 10)) 9 (rowN (F 13) (F 9) 6)) 10 (rowN (F 14) (F 10) 6)) 11 (rowN (F 15) (F 11) 6))) := va_D_addr (ws := (wsB B cI cS (upd (upd (upd (upd I 3 (I 7)) 4 (I 8)) 5 (I 9)) 6 (I 10)) (va_up (va_up (va_up F 8 (rowN (F 12) (F 8) 10)) 9 (rowN (F 13) (F 9) 6)) 10 (rowN (F 14) (F 10) 6)))) rfl hD
  exact retWv hx hb hr hlk hP hS dX1_copyFrom_76 rfl
set_option maxHeartbeats 1000000 in
set_option maxRecDepth 100000 in
theorem c_X1_begin (l : Launch) (D : va_G) (cI cB cS : ClassId) {B : Nat → Nat} {I : Nat → Int32} {F : Nat → Nat → Int32} (p0 : Int32) : Met l yX1_begin (Wm yX1_begin cX1_begin 3 none) ({ frames := 0, cells := 0, slots := 0, locals := 0 }) (va_Pc [.ref (B 3), .int p0] (PW D (TYS cI cB cS) (wsB B cI cS I F))) (QcW D none (wsB B cI cS I F) (wsB B cI cS (upd (upd (upd (upd I 3 p0) 4 0) 5 0) 6 0) (va_up F 8 (rowN (fun _ => 0) (F 8) 10)))) 0 0 (FPw (wsB B cI cS I F)) := by
  refine metW (by decide) [.ref (B 3), .int p0] (Nat.le_of_ble_eq_true rfl) ?_
  intro p e s m args below meth c hx hb hml hr hlk hown hts hKK hP hD hS ls hl
  obtain ⟨hK, hN⟩ := id hKK
  have hl : lv_has ls 3 [(0, .ref (B 3)), (1, .int p0)] := hl
  refine lv_aload_n hx hb dX1_begin_0 rfl (lv_at hl 0 rfl) ?_
  refine lv_iload_n hx hb dX1_begin_1 rfl (lv_at hl 1 rfl) ?_
  refine va_put (D := D) (ci := 1) (v := .int p0) (ty := tyX1 0) (C := RX1) (T := TX1) (N := 8) hx hb hts inlX1 tyX1 tyX1_ok nmX1 hown hK hP hD hS 3 rfl rfl 0 (by decide) (hts _ kw_38) (fun _ h9 => h9) rfl (tyX1_ok 0 (by decide)) rfl rfl (Nat.le_of_ble_eq_true rfl) dX1_begin_2 (fun H locs hP hD hS => ?_)
  have hP : va_P D vwCl (wsB B cI cS (upd I 3 p0) F) H := hP
  have hD : va_D (FPw (wsB B cI cS I F)) (wsB B cI cS (upd I 3 p0) F) := hD
  refine lv_aload_n hx hb dX1_begin_5 rfl (lv_at hl 0 rfl) ?_
  refine lv_iconst (v := (0 : Int32)) hx hb dX1_begin_6 (by decide) ?_
  refine va_put (D := D) (ci := 1) (v := .int (0 : Int32)) (ty := tyX1 1) (C := RX1) (T := TX1) (N := 8) hx hb hts inlX1 tyX1 tyX1_ok nmX1 hown hK hP hD hS 3 rfl rfl 1 (by decide) (hts _ kw_39) (fun _ h9 => h9) rfl (tyX1_ok 1 (by decide)) rfl rfl (Nat.le_of_ble_eq_true rfl) dX1_begin_7 (fun H locs hP hD hS => ?_)
  have hP : va_P D vwCl (wsB B cI cS (upd (upd I 3 p0) 4 (0 : Int32)) F) H := hP
  have hD : va_D (FPw (wsB B cI cS I F)) (wsB B cI cS (upd (upd I 3 p0) 4 (0 : Int32)) F) := hD
  refine lv_aload_n hx hb dX1_begin_10 rfl (lv_at hl 0 rfl) ?_
  refine lv_iconst (v := (0 : Int32)) hx hb dX1_begin_11 (by decide) ?_
  refine va_put (D := D) (ci := 1) (v := .int (0 : Int32)) (ty := tyX1 2) (C := RX1) (T := TX1) (N := 8) hx hb hts inlX1 tyX1 tyX1_ok nmX1 hown hK hP hD hS 3 rfl rfl 2 (by decide) (hts _ kw_40) (fun _ h9 => h9) rfl (tyX1_ok 2 (by decide)) rfl rfl (Nat.le_of_ble_eq_true rfl) dX1_begin_12 (fun H locs hP hD hS => ?_)
  have hP : va_P D vwCl (wsB B cI cS (upd (upd (upd I 3 p0) 4 (0 : Int32)) 5 (0 : Int32)) F) H := hP
  have hD : va_D (FPw (wsB B cI cS I F)) (wsB B cI cS (upd (upd (upd I 3 p0) 4 (0 : Int32)) 5 (0 : Int32)) F) := hD
  refine lv_aload_n hx hb dX1_begin_15 rfl (lv_at hl 0 rfl) ?_
  refine lv_iconst (v := (0 : Int32)) hx hb dX1_begin_16 (by decide) ?_
  refine va_put (D := D) (ci := 1) (v := .int (0 : Int32)) (ty := tyX1 3) (C := RX1) (T := TX1) (N := 8) hx hb hts inlX1 tyX1 tyX1_ok nmX1 hown hK hP hD hS 3 rfl rfl 3 (by decide) (hts _ kw_41) (fun _ h9 => h9) rfl (tyX1_ok 3 (by decide)) rfl rfl (Nat.le_of_ble_eq_true rfl) dX1_begin_17 (fun H locs hP hD hS => ?_)
  have hP : va_P D vwCl (wsB B cI cS (upd (upd (upd (upd I 3 p0) 4 (0 : Int32)) 5 (0 : Int32)) 6 (0 : Int32)) F) H := hP
  have hD : va_D (FPw (wsB B cI cS I F)) (wsB B cI cS (upd (upd (upd (upd I 3 p0) 4 (0 : Int32)) 5 (0 : Int32)) 6 (0 : Int32)) F) := hD
  refine lv_iconst (v := (0 : Int32)) hx hb dX1_begin_20 (by decide) ?_
  refine lv_istore_n (lv' := [(2, .int (0 : Int32)), (0, .ref (B 3)), (1, .int p0)]) hx hb dX1_begin_21 rfl hl (by decide) rfl (fun ls hl => ?_)
  have loop_22 : ∀ (z : Nat) (k : Nat) (x2 : Int32), x2 = nI k → (k ≤ 10) → 10 - k < z → ∀ (H : Heap) (locs : List Loc), va_P D vwCl (wsB B cI cS (upd (upd (upd (upd I 3 p0) 4 (0 : Int32)) 5 (0 : Int32)) 6 (0 : Int32)) (va_up F 8 (rowN (fun _ => 0) (F 8) k))) H → va_S (FPw (wsB B cI cS I F)) s.heap H locs → ∀ (ls : Array Slot), lv_has ls 3 [(0, .ref (B 3)), (1, .int p0), (2, .int x2)] → W p l e ({ frames := 0, cells := 0, slots := 0, locals := 0 } : Room) s m args below meth c H locs 0 0 (MQ below (QcW D none (wsB B cI cS I F) (wsB B cI cS (upd (upd (upd (upd I 3 p0) 4 0) 5 0) 6 0) (va_up F 8 (rowN (fun _ => 0) (F 8) 10)))) args s 0 0 (FPw (wsB B cI cS I F))) (F0 m 22 ls []) := by
    intro z
    induction z with
    | zero =>
      intro k x2 ex2 hk hz
      exact absurd hz (Nat.not_lt_zero _)
    | succ z ih_22 =>
      intro k x2 ex2 hk hz H locs hP hS ls hl
      subst ex2
      have hD := va_D_addr (ws := (wsB B cI cS (upd (upd (upd (upd I 3 p0) 4 (0 : Int32)) 5 (0 : Int32)) 6 (0 : Int32)) F)) (ws' := (wsB B cI cS (upd (upd (upd (upd I 3 p0) 4 (0 : Int32)) 5 (0 : Int32)) 6 (0 : Int32)) (va_up F 8 (rowN (fun _ => 0) (F 8) k)))) rfl hD
      refine lv_iload_n hx hb dX1_begin_22 rfl (lv_at hl 2 rfl) ?_
      refine lv_aload_n hx hb dX1_begin_23 rfl (lv_at hl 0 rfl) ?_
      refine va_get (D := D) (ci := 1) (v := .ref (B 8)) (C := RX1) (T := TX1) (N := 8) hx hb hts inlX1 hown hK hP 3 rfl rfl 4 (by decide) (hts _ kw_42) (fun _ h9 => h9) rfl dX1_begin_24 ?_
      refine va_alen (D := D) hx hb hK hP 8 0 rfl rfl (v := (10 : Int32)) rfl dX1_begin_27 ?_
      refine lv_icmp_ge (tgt := 44) hx hb dX1_begin_28 (by decide) (fun c_1 => ?_) (fun c_1 => ?_)
      · have nc_1 : 10 ≤ k := (nI_leI (a := 10) (b := k) (by omega) (by omega)).mp c_1
        exact retWv hx hb hr hlk hP hS dX1_begin_44 (by have hkn : k = 10 := (by omega); subst hkn; rfl)
      · have nc_1 : ¬ 10 ≤ k := fun h => c_1 ((nI_leI (a := 10) (b := k) (by omega) (by omega)).mpr h)
        refine lv_aload_n hx hb dX1_begin_31 rfl (lv_at hl 0 rfl) ?_
        refine va_get (D := D) (ci := 1) (v := .ref (B 8)) (C := RX1) (T := TX1) (N := 8) hx hb hts inlX1 hown hK hP 3 rfl rfl 4 (by decide) (hts _ kw_42) (fun _ h9 => h9) rfl dX1_begin_32 ?_
        refine lv_iload_n hx hb dX1_begin_35 rfl (lv_at hl 2 rfl) ?_
        refine lv_iconst (v := (0 : Int32)) hx hb dX1_begin_36 (by decide) ?_
        refine va_iast (D := D) hx hb hK hP hD hS 8 0 rfl rfl (vp_in_nI (by omega) (by omega)) dX1_begin_37 (fun H locs hP hD hS => ?_)
        rw [nI_clamp (n := k) (by omega)] at hP hD
        have hP : va_P D vwCl (wsB B cI cS (upd (upd (upd (upd I 3 p0) 4 (0 : Int32)) 5 (0 : Int32)) 6 (0 : Int32)) (va_up F 8 (upd (rowN (fun _ => 0) (F 8) k) k (0 : Int32)))) H := hP
        have hD : va_D (FPw (wsB B cI cS I F)) (wsB B cI cS (upd (upd (upd (upd I 3 p0) 4 (0 : Int32)) 5 (0 : Int32)) 6 (0 : Int32)) (va_up F 8 (upd (rowN (fun _ => 0) (F 8) k) k (0 : Int32)))) := hD
        refine lv_iinc (v := (nI (k + 1))) (lv' := [(2, .int (nI (k + 1))), (0, .ref (B 3)), (1, .int p0)]) hx hb dX1_begin_38 hl (k := 2) rfl (nI_add k 1) (by decide) rfl (fun ls hl => ?_)
        refine lv_goto (tgt := 22) hx hb dX1_begin_41 (by decide) ?_
        have hP9 : va_P D vwCl (wsB B cI cS (upd (upd (upd (upd I 3 p0) 4 (0 : Int32)) 5 (0 : Int32)) 6 (0 : Int32)) (va_up F 8 (rowN (fun _ => 0) (F 8) (k + 1)))) H := by rw [← rowN_upd]; exact hP
        exact ih_22 (k + 1) (nI (k + 1)) rfl (by omega) (by omega) H locs hP9 hS ls (lv_sub hl [1, 2, 0] rfl)
  have hP9 : va_P D vwCl (wsB B cI cS (upd (upd (upd (upd I 3 p0) 4 (0 : Int32)) 5 (0 : Int32)) 6 (0 : Int32)) (va_up F 8 (rowN (fun _ => 0) (F 8) 0))) H := by rw [rowN_0]; exact hP
  exact loop_22 ((10 - 0) + 1) 0 (0 : Int32) rfl (by omega) (by omega) H locs hP9 hS ls (lv_sub hl [1, 2, 0] rfl)
set_option maxHeartbeats 1000000 in
set_option maxRecDepth 100000 in
theorem c_X2_become (l : Launch) (D : va_G) (cI cB cS : ClassId) {B : Nat → Nat} {I : Nat → Int32} {F : Nat → Nat → Int32} {k : Nat} (hk6 : k < 6) (p0 p1 p2 p3 : Int32) : Met l yX2_become (Wm yX2_become cX2_become 5 none) ({ frames := 1, cells := 0, slots := 0, locals := 21 }) (va_Pc [.ref (B (16 + k)), .int p0, .int p1, .int p2, .int p3] (PW D (TYS cI cB cS) (wsB B cI cS I F))) (QcW D none (wsB B cI cS I F) (wsB B cI cS I (va_up (va_up (va_up (va_up F 16 (upd (F 16) k p0)) 17 (upd (F 17) k p1)) 18 (upd (F 18) k (if 10 - p1 < p2 then 10 - p1 else p2))) 19 (upd (F 19) k p3)))) 0 0 (FPw (wsB B cI cS I F)) := by
  refine metW (by decide) [.ref (B (16 + k)), .int p0, .int p1, .int p2, .int p3] (Nat.le_of_ble_eq_true rfl) ?_
  intro p e s m args below meth c hx hb hml hr hlk hown hts hKK hP hD hS ls hl
  obtain ⟨hK, hN⟩ := id hKK
  have hl : lv_has ls 5 [(0, .ref (B (16 + k))), (1, .int p0), (2, .int p1), (3, .int p2), (4, .int p3)] := hl
  refine lv_aload_n hx hb dX2_become_0 rfl (lv_at hl 0 rfl) ?_
  refine lv_iload_n hx hb dX2_become_1 rfl (lv_at hl 1 rfl) ?_
  refine va_put (D := D) (ci := 2) (v := .int p0) (ty := tyX2 1) (C := RX2) (T := TX2) (N := 5) hx hb hts inlX2 tyX2 tyX2_ok nmX2 hown hK hP hD hS (16 + k) (wsB_st (by omega)) rfl 1 (by decide) (hts _ kw_50) (fun _ h9 => h9) rfl (tyX2_ok 1 (by decide)) rfl rfl (Nat.le_of_ble_eq_true rfl) dX2_become_2 (fun H locs hP hD hS => ?_)
  have hP : va_P D vwCl (wsB B cI cS I (va_up F 16 (upd (F 16) k p0))) H := by have e : _ = (wsB B cI cS I (va_up F 16 (upd (F 16) k p0))) := wsB_set16 (B := B) (cI := cI) (cS := cS) (I := I) (F := F) (k := k) (by omega) p0; rw [← e]; exact hP
  have hD : va_D (FPw (wsB B cI cS I F)) (wsB B cI cS I (va_up F 16 (upd (F 16) k p0))) := by have e : _ = (wsB B cI cS I (va_up F 16 (upd (F 16) k p0))) := wsB_set16 (B := B) (cI := cI) (cS := cS) (I := I) (F := F) (k := k) (by omega) p0; rw [← e]; exact hD
  refine lv_aload_n hx hb dX2_become_5 rfl (lv_at hl 0 rfl) ?_
  refine lv_iload_n hx hb dX2_become_6 rfl (lv_at hl 2 rfl) ?_
  refine va_put (D := D) (ci := 2) (v := .int p1) (ty := tyX2 2) (C := RX2) (T := TX2) (N := 5) hx hb hts inlX2 tyX2 tyX2_ok nmX2 hown hK hP hD hS (16 + k) (wsB_st (by omega)) rfl 2 (by decide) (hts _ kw_51) (fun _ h9 => h9) rfl (tyX2_ok 2 (by decide)) rfl rfl (Nat.le_of_ble_eq_true rfl) dX2_become_7 (fun H locs hP hD hS => ?_)
  have hP : va_P D vwCl (wsB B cI cS I (va_up (va_up F 16 (upd (F 16) k p0)) 17 (upd (F 17) k p1))) H := by have e : _ = (wsB B cI cS I (va_up (va_up F 16 (upd (F 16) k p0)) 17 (upd (F 17) k p1))) := wsB_set17 (B := B) (cI := cI) (cS := cS) (I := I) (F := (va_up F 16 (upd (F 16) k p0))) (k := k) (by omega) p1; rw [← e]; exact hP
  have hD : va_D (FPw (wsB B cI cS I F)) (wsB B cI cS I (va_up (va_up F 16 (upd (F 16) k p0)) 17 (upd (F 17) k p1))) := by have e : _ = (wsB B cI cS I (va_up (va_up F 16 (upd (F 16) k p0)) 17 (upd (F 17) k p1))) := wsB_set17 (B := B) (cI := cI) (cS := cS) (I := I) (F := (va_up F 16 (upd (F 16) k p0))) (k := k) (by omega) p1; rw [← e]; exact hD
  refine lv_aload_n hx hb dX2_become_10 rfl (lv_at hl 0 rfl) ?_
  refine lv_iload_n hx hb dX2_become_11 rfl (lv_at hl 3 rfl) ?_
  refine lv_bipush (v := (10 : Int32)) hx hb dX2_become_12 (by decide) ?_
  refine lv_iload_n hx hb dX2_become_14 rfl (lv_at hl 2 rfl) ?_
  refine lv_isub hx hb dX2_become_15 ?_
  refine va_mmin hx hb (hml.trans hl.1.symm) hown (hts _ kw_242) (hts _ kw_156) (hts _ kw_153) (hts _ kw_157) (Nat.le_of_ble_eq_true rfl) (Nat.le_of_ble_eq_true rfl) (Nat.zero_le _) (Nat.zero_le _) dX2_become_16 ?_
  refine va_put (D := D) (ci := 2) (v := .int (if ((10 : Int32) - p1) < p2 then ((10 : Int32) - p1) else p2)) (ty := tyX2 3) (C := RX2) (T := TX2) (N := 5) hx hb hts inlX2 tyX2 tyX2_ok nmX2 hown hK hP hD hS (16 + k) (wsB_st (by omega)) rfl 3 (by decide) (hts _ kw_52) (fun _ h9 => h9) rfl (tyX2_ok 3 (by decide)) rfl rfl (Nat.le_of_ble_eq_true rfl) dX2_become_19 (fun H locs hP hD hS => ?_)
  have hP : va_P D vwCl (wsB B cI cS I (va_up (va_up (va_up F 16 (upd (F 16) k p0)) 17 (upd (F 17) k p1)) 18 (upd (F 18) k (if ((10 : Int32) - p1) < p2 then ((10 : Int32) - p1) else p2)))) H := by have e : _ = (wsB B cI cS I (va_up (va_up (va_up F 16 (upd (F 16) k p0)) 17 (upd (F 17) k p1)) 18 (upd (F 18) k (if ((10 : Int32) - p1) < p2 then ((10 : Int32) - p1) else p2)))) := wsB_set18 (B := B) (cI := cI) (cS := cS) (I := I) (F := (va_up (va_up F 16 (upd (F 16) k p0)) 17 (upd (F 17) k p1))) (k := k) (by omega) (if ((10 : Int32) - p1) < p2 then ((10 : Int32) - p1) else p2); rw [← e]; exact hP
  have hD : va_D (FPw (wsB B cI cS I F)) (wsB B cI cS I (va_up (va_up (va_up F 16 (upd (F 16) k p0)) 17 (upd (F 17) k p1)) 18 (upd (F 18) k (if ((10 : Int32) - p1) < p2 then ((10 : Int32) - p1) else p2)))) := by have e : _ = (wsB B cI cS I (va_up (va_up (va_up F 16 (upd (F 16) k p0)) 17 (upd (F 17) k p1)) 18 (upd (F 18) k (if ((10 : Int32) - p1) < p2 then ((10 : Int32) - p1) else p2)))) := wsB_set18 (B := B) (cI := cI) (cS := cS) (I := I) (F := (va_up (va_up F 16 (upd (F 16) k p0)) 17 (upd (F 17) k p1))) (k := k) (by omega) (if ((10 : Int32) - p1) < p2 then ((10 : Int32) - p1) else p2); rw [← e]; exact hD
  refine lv_aload_n hx hb dX2_become_22 rfl (lv_at hl 0 rfl) ?_
  refine lv_iload hx hb dX2_become_23 (lv_at hl 4 rfl) ?_
  refine va_put (D := D) (ci := 2) (v := .int p3) (ty := tyX2 4) (C := RX2) (T := TX2) (N := 5) hx hb hts inlX2 tyX2 tyX2_ok nmX2 hown hK hP hD hS (16 + k) (wsB_st (by omega)) rfl 4 (by decide) (hts _ kw_53) (fun _ h9 => h9) rfl (tyX2_ok 4 (by decide)) rfl rfl (Nat.le_of_ble_eq_true rfl) dX2_become_25 (fun H locs hP hD hS => ?_)
  have hP : va_P D vwCl (wsB B cI cS I (va_up (va_up (va_up (va_up F 16 (upd (F 16) k p0)) 17 (upd (F 17) k p1)) 18 (upd (F 18) k (if ((10 : Int32) - p1) < p2 then ((10 : Int32) - p1) else p2))) 19 (upd (F 19) k p3))) H := by have e : _ = (wsB B cI cS I (va_up (va_up (va_up (va_up F 16 (upd (F 16) k p0)) 17 (upd (F 17) k p1)) 18 (upd (F 18) k (if ((10 : Int32) - p1) < p2 then ((10 : Int32) - p1) else p2))) 19 (upd (F 19) k p3))) := wsB_set19 (B := B) (cI := cI) (cS := cS) (I := I) (F := (va_up (va_up (va_up F 16 (upd (F 16) k p0)) 17 (upd (F 17) k p1)) 18 (upd (F 18) k (if ((10 : Int32) - p1) < p2 then ((10 : Int32) - p1) else p2)))) (k := k) (by omega) p3; rw [← e]; exact hP
  have hD : va_D (FPw (wsB B cI cS I F)) (wsB B cI cS I (va_up (va_up (va_up (va_up F 16 (upd (F 16) k p0)) 17 (upd (F 17) k p1)) 18 (upd (F 18) k (if ((10 : Int32) - p1) < p2 then ((10 : Int32) - p1) else p2))) 19 (upd (F 19) k p3))) := by have e : _ = (wsB B cI cS I (va_up (va_up (va_up (va_up F 16 (upd (F 16) k p0)) 17 (upd (F 17) k p1)) 18 (upd (F 18) k (if ((10 : Int32) - p1) < p2 then ((10 : Int32) - p1) else p2))) 19 (upd (F 19) k p3))) := wsB_set19 (B := B) (cI := cI) (cS := cS) (I := I) (F := (va_up (va_up (va_up F 16 (upd (F 16) k p0)) 17 (upd (F 17) k p1)) 18 (upd (F 18) k (if ((10 : Int32) - p1) < p2 then ((10 : Int32) - p1) else p2)))) (k := k) (by omega) p3; rw [← e]; exact hD
  exact retWv hx hb hr hlk hP hS dX2_become_28 rfl
set_option maxHeartbeats 1000000 in
set_option maxRecDepth 100000 in
theorem c_X3_isAllFoundWith (l : Launch) (D : va_G) (cI cB cS : ClassId) {B : Nat → Nat} {I : Nat → Int32} {F : Nat → Nat → Int32} {n : Nat} (hn : n ≤ 6) (h3 : I 3 = nI n) {fd : Nat} (hfd : fd ≤ 6) (h6 : I 6 = nI fd) (p0 p1 : Int32) : Met l yX3_isAllFoundWith (Wm yX3_isAllFoundWith cX3_isAllFoundWith 4 (some .boolean)) ({ frames := 3, cells := 0, slots := 0, locals := 74 }) (va_Pc [.ref (B 0), .int p0, .int p1] (PR D (TYS cI cB cS) (wsB B cI cS I F))) (QcV (some (.int (b2 (cAllF F (I 4) n fd p0 p1))))) 0 0 (fun _ => False) := by
  refine metR (by decide) [.ref (B 0), .int p0, .int p1] (Nat.le_of_ble_eq_true rfl) ?_
  intro p e s m args below meth c hx hb hml hr hlk hown hts hKK hP ls hl
  obtain ⟨hK, hN⟩ := id hKK
  have hl : lv_has ls 4 [(0, .ref (B 0)), (1, .int p0), (2, .int p1)] := hl
  refine lv_iconst (v := (0 : Int32)) hx hb dX3_isAllFoundWith_0 (by decide) ?_
  refine lv_istore_n (lv' := [(3, .int (0 : Int32)), (0, .ref (B 0)), (1, .int p0), (2, .int p1)]) hx hb dX3_isAllFoundWith_1 rfl hl (by decide) rfl (fun ls hl => ?_)
  have loop_2 : ∀ (z : Nat) (k : Nat) (x3 : Int32), x3 = nI k → (k ≤ fd) → (∀ i, i < k → cComes F (I 4) n (F 9 i) (F 10 i) p0 p1 = F 11 i) → fd - k < z → ∀ (ls : Array Slot), lv_has ls 4 [(0, .ref (B 0)), (1, .int p0), (2, .int p1), (3, .int x3)] → W p l e ({ frames := 3, cells := 0, slots := 0, locals := 74 } : Room) s m args below meth c s.heap [] 0 0 (MQ below (QcV (some (.int (b2 (cAllF F (I 4) n fd p0 p1))))) args s 0 0 (fun _ => False)) (F0 m 2 ls []) := by
    intro z
    induction z with
    | zero =>
      intro k x3 ex3 hk hall hz
      exact absurd hz (Nat.not_lt_zero _)
    | succ z ih_2 =>
      intro k x3 ex3 hk hall hz ls hl
      subst ex3
      refine lv_iload_n hx hb dX3_isAllFoundWith_2 rfl (lv_at hl 3 rfl) ?_
      refine lv_aload_n hx hb dX3_isAllFoundWith_3 rfl (lv_at hl 0 rfl) ?_
      refine va_get (D := D) (ci := 3) (v := .ref (B 3)) (C := RX3) (T := TX3) (N := 8) hx hb hts inlX3 hown hK hP 0 rfl rfl 2 (by decide) (hts _ kw_21) (fun _ h9 => h9) rfl dX3_isAllFoundWith_4 ?_
      refine va_getN (D := D) (ci := 1) (v := .int (I 6)) (C := RX1) (T := TX1) (N := 8) hx hb hts inlX1 hown hK hP 3 rfl rfl 3 (by decide) (nfF_4 hN) (fun _ h9 => h9) rfl dX3_isAllFoundWith_7 ?_
      refine topE (z := (nI fd)) h6 ?_
      refine lv_icmp_ge (tgt := 63) hx hb dX3_isAllFoundWith_10 (by decide) (fun c_1 => ?_) (fun c_1 => ?_)
      · have nc_1 : fd ≤ k := (nI_leI (a := fd) (b := k) (by omega) (by omega)).mp c_1
        refine lv_iconst (v := (1 : Int32)) hx hb dX3_isAllFoundWith_63 (by decide) ?_
        exact retRz hx hb hr hlk dX3_isAllFoundWith_64 (by exact b2_t (fun i hi => hall i (by omega)))
      · have nc_1 : ¬ fd ≤ k := fun h => c_1 ((nI_leI (a := fd) (b := k) (by omega) (by omega)).mpr h)
        refine lv_iload_n hx hb dX3_isAllFoundWith_13 rfl (lv_at hl 3 rfl) ?_
        refine lv_bipush (v := (6 : Int32)) hx hb dX3_isAllFoundWith_14 (by decide) ?_
        refine lv_icmp_ge (tgt := 63) hx hb dX3_isAllFoundWith_16 (by decide) (fun c_2 => ?_) (fun c_2 => ?_)
        · have nc_2 : 6 ≤ k := (nI_leI (a := 6) (b := k) (by omega) (by omega)).mp c_2
          exfalso; omega
        · have nc_2 : ¬ 6 ≤ k := fun h => c_2 ((nI_leI (a := 6) (b := k) (by omega) (by omega)).mpr h)
          refine lv_aload_n hx hb dX3_isAllFoundWith_19 rfl (lv_at hl 0 rfl) ?_
          refine lv_aload_n hx hb dX3_isAllFoundWith_20 rfl (lv_at hl 0 rfl) ?_
          refine va_get (D := D) (ci := 3) (v := .ref (B 3)) (C := RX3) (T := TX3) (N := 8) hx hb hts inlX3 hown hK hP 0 rfl rfl 2 (by decide) (hts _ kw_21) (fun _ h9 => h9) rfl dX3_isAllFoundWith_21 ?_
          refine va_getN (D := D) (ci := 1) (v := .ref (B 9)) (C := RX1) (T := TX1) (N := 8) hx hb hts inlX1 hown hK hP 3 rfl rfl 5 (by decide) (nfF_6 hN) (fun _ h9 => h9) rfl dX3_isAllFoundWith_24 ?_
          refine lv_iload_n hx hb dX3_isAllFoundWith_27 rfl (lv_at hl 3 rfl) ?_
          refine va_iald (D := D) hx hb hK hP 9 0 rfl rfl (vp_in_nI (by omega) (by omega)) dX3_isAllFoundWith_28 ?_
          refine topE (z := ((F 9) k)) (congrArg _ (nI_clamp (n := k) (by omega))) ?_
          refine lv_aload_n hx hb dX3_isAllFoundWith_29 rfl (lv_at hl 0 rfl) ?_
          refine va_get (D := D) (ci := 3) (v := .ref (B 3)) (C := RX3) (T := TX3) (N := 8) hx hb hts inlX3 hown hK hP 0 rfl rfl 2 (by decide) (hts _ kw_21) (fun _ h9 => h9) rfl dX3_isAllFoundWith_30 ?_
          refine va_getN (D := D) (ci := 1) (v := .ref (B 10)) (C := RX1) (T := TX1) (N := 8) hx hb hts inlX1 hown hK hP 3 rfl rfl 6 (by decide) (nfF_7 hN) (fun _ h9 => h9) rfl dX3_isAllFoundWith_33 ?_
          refine lv_iload_n hx hb dX3_isAllFoundWith_36 rfl (lv_at hl 3 rfl) ?_
          refine va_iald (D := D) hx hb hK hP 10 0 rfl rfl (vp_in_nI (by omega) (by omega)) dX3_isAllFoundWith_37 ?_
          refine topE (z := ((F 10) k)) (congrArg _ (nI_clamp (n := k) (by omega))) ?_
          refine lv_iload_n hx hb dX3_isAllFoundWith_38 rfl (lv_at hl 1 rfl) ?_
          refine lv_iload_n hx hb dX3_isAllFoundWith_39 rfl (lv_at hl 2 rfl) ?_
          refine rcVi (As := [.int ((F 9) k), .int ((F 10) k), .int p0, .int p1]) (rest := []) hx hb hml hown hts hKK hP (c_X3_comesIf l D cI cB cS hn h3 ((F 9) k) ((F 10) k) p0 p1) (cwV2 4 hts kw_282 kw_3 kw_279 kw_280 kw_281 rfl rfl (by decide +kernel) ⟨Nat.le_of_ble_eq_true rfl, Nat.le_of_ble_eq_true rfl⟩) 0 rfl rfl rfl rfl hl.1 rfl (Nat.le_of_ble_eq_true rfl) ⟨Nat.zero_le _, Nat.zero_le _⟩ dX3_isAllFoundWith_40 ?_
          refine topE (z := (cComes F (I 4) n ((F 9) k) ((F 10) k) p0 p1)) rfl ?_
          refine lv_aload_n hx hb dX3_isAllFoundWith_43 rfl (lv_at hl 0 rfl) ?_
          refine va_get (D := D) (ci := 3) (v := .ref (B 3)) (C := RX3) (T := TX3) (N := 8) hx hb hts inlX3 hown hK hP 0 rfl rfl 2 (by decide) (hts _ kw_21) (fun _ h9 => h9) rfl dX3_isAllFoundWith_44 ?_
          refine va_getN (D := D) (ci := 1) (v := .ref (B 11)) (C := RX1) (T := TX1) (N := 8) hx hb hts inlX1 hown hK hP 3 rfl rfl 7 (by decide) (nfF_8 hN) (fun _ h9 => h9) rfl dX3_isAllFoundWith_47 ?_
          refine lv_iload_n hx hb dX3_isAllFoundWith_50 rfl (lv_at hl 3 rfl) ?_
          refine va_iald (D := D) hx hb hK hP 11 0 rfl rfl (vp_in_nI (by omega) (by omega)) dX3_isAllFoundWith_51 ?_
          refine topE (z := ((F 11) k)) (congrArg _ (nI_clamp (n := k) (by omega))) ?_
          refine lv_icmp_eq (tgt := 57) hx hb dX3_isAllFoundWith_52 (by decide) (fun c_3 => ?_) (fun c_3 => ?_)
          · refine lv_iinc (v := (nI (k + 1))) (lv' := [(3, .int (nI (k + 1))), (0, .ref (B 0)), (1, .int p0), (2, .int p1)]) hx hb dX3_isAllFoundWith_57 hl (k := 3) rfl (nI_add k 1) (by decide) rfl (fun ls hl => ?_)
            refine lv_goto (tgt := 2) hx hb dX3_isAllFoundWith_60 (by decide) ?_
            exact ih_2 (k + 1) (nI (k + 1)) rfl (by omega) (by intro i hi; by_cases hik : i = k; (subst hik; assumption); exact hall i (by omega)) (by omega) ls (lv_sub hl [1, 2, 3, 0] rfl)
          · refine lv_iconst (v := (0 : Int32)) hx hb dX3_isAllFoundWith_55 (by decide) ?_
            exact retRz hx hb hr hlk dX3_isAllFoundWith_56 (by exact b2_f (fun h => absurd (h k (by omega)) c_3))
  exact loop_2 ((fd - 0) + 1) 0 (0 : Int32) rfl (by omega) (by intro i hi; exact absurd hi (by omega)) (by omega) ls (lv_sub hl [1, 2, 3, 0] rfl)
set_option maxHeartbeats 1000000 in
set_option maxRecDepth 100000 in
theorem c_X3_heavy (l : Launch) (D : va_G) (cI cB cS : ClassId) {B : Nat → Nat} {I : Nat → Int32} {F : Nat → Nat → Int32} {n : Nat} (hn : n ≤ 6) (h3 : I 3 = nI n) {fd : Nat} (hfd : fd ≤ 6) (h6 : I 6 = nI fd) (p0 : Int32) : Met l yX3_heavy (Wm yX3_heavy cX3_heavy 4 (some .int)) ({ frames := 4, cells := 0, slots := 0, locals := 97 }) (va_Pc [.ref (B 0), .int p0] (PR D (TYS cI cB cS) (wsB B cI cS I F))) (QcV (some (.int (cHeavy F (I 4) n fd p0)))) 0 0 (fun _ => False) := by
  refine metR (by decide) [.ref (B 0), .int p0] (Nat.le_of_ble_eq_true rfl) ?_
  intro p e s m args below meth c hx hb hml hr hlk hown hts hKK hP ls hl
  obtain ⟨hK, hN⟩ := id hKK
  have hl : lv_has ls 4 [(0, .ref (B 0)), (1, .int p0)] := hl
  refine lv_iconst (v := (0 : Int32)) hx hb dX3_heavy_0 (by decide) ?_
  refine lv_istore_n (lv' := [(2, .int (0 : Int32)), (0, .ref (B 0)), (1, .int p0)]) hx hb dX3_heavy_1 rfl hl (by decide) rfl (fun ls hl => ?_)
  refine lv_iconst (v := (1 : Int32)) hx hb dX3_heavy_2 (by decide) ?_
  refine lv_istore_n (lv' := [(3, .int (1 : Int32)), (2, .int (0 : Int32)), (0, .ref (B 0)), (1, .int p0)]) hx hb dX3_heavy_3 rfl hl (by decide) rfl (fun ls hl => ?_)
  have loop_4 : ∀ (z : Nat) (k : Nat) (x2 : Int32) (x3 : Int32), x2 = bitsN (fun v => cAllF F (I 4) n fd p0 (nI (v + 1))) k → x3 = nI (k + 1) → (k ≤ 9) → 9 - k < z → ∀ (ls : Array Slot), lv_has ls 4 [(0, .ref (B 0)), (1, .int p0), (2, .int x2), (3, .int x3)] → W p l e ({ frames := 4, cells := 0, slots := 0, locals := 97 } : Room) s m args below meth c s.heap [] 0 0 (MQ below (QcV (some (.int (cHeavy F (I 4) n fd p0)))) args s 0 0 (fun _ => False)) (F0 m 4 ls []) := by
    intro z
    induction z with
    | zero =>
      intro k x2 x3 ex2 ex3 hk hz
      exact absurd hz (Nat.not_lt_zero _)
    | succ z ih_4 =>
      intro k x2 x3 ex2 ex3 hk hz ls hl
      subst ex2
      subst ex3
      refine lv_iload_n hx hb dX3_heavy_4 rfl (lv_at hl 3 rfl) ?_
      refine lv_bipush (v := (9 : Int32)) hx hb dX3_heavy_5 (by decide) ?_
      refine lv_icmp_gt (tgt := 33) hx hb dX3_heavy_7 (by decide) (fun c_1 => ?_) (fun c_1 => ?_)
      · have nc_1 : 9 < (k + 1) := (nI_ltI (a := 9) (b := (k + 1)) (by omega) (by omega)).mp c_1
        refine lv_iload_n hx hb dX3_heavy_33 rfl (lv_at hl 2 rfl) ?_
        exact retRi hx hb hr hlk dX3_heavy_34 (by have hkn : k = 9 := (by omega); subst hkn; rfl)
      · have nc_1 : ¬ 9 < (k + 1) := fun h => c_1 ((nI_ltI (a := 9) (b := (k + 1)) (by omega) (by omega)).mpr h)
        refine lv_aload_n hx hb dX3_heavy_10 rfl (lv_at hl 0 rfl) ?_
        refine lv_iload_n hx hb dX3_heavy_11 rfl (lv_at hl 1 rfl) ?_
        refine lv_iload_n hx hb dX3_heavy_12 rfl (lv_at hl 3 rfl) ?_
        refine rcVi (As := [.int p0, .int (nI (k + 1))]) (rest := []) hx hb hml hown hts hKK hP (c_X3_isAllFoundWith l D cI cB cS hn h3 hfd h6 p0 (nI (k + 1))) (cwV2 2 hts kw_278 kw_3 kw_275 kw_276 kw_277 rfl rfl (by decide +kernel) ⟨Nat.le_of_ble_eq_true rfl, Nat.le_of_ble_eq_true rfl⟩) 0 rfl rfl rfl rfl hl.1 rfl (Nat.le_of_ble_eq_true rfl) ⟨Nat.zero_le _, Nat.zero_le _⟩ dX3_heavy_13 ?_
        refine topE (z := (b2 (cAllF F (I 4) n fd p0 (nI (k + 1))))) rfl ?_
        refine lv_if_eq (tgt := 27) hx hb dX3_heavy_16 (by decide) (fun c_2 => ?_) (fun c_2 => ?_)
        · have c_2 := b2_z c_2
          refine lv_iinc (v := (nI ((k + 1) + 1))) (lv' := [(3, .int (nI ((k + 1) + 1))), (0, .ref (B 0)), (1, .int p0), (2, .int (bitsN (fun v => cAllF F (I 4) n fd p0 (nI (v + 1))) k))]) hx hb dX3_heavy_27 hl (k := 3) rfl (nI_add (k + 1) 1) (by decide) rfl (fun ls hl => ?_)
          refine lv_goto (tgt := 4) hx hb dX3_heavy_30 (by decide) ?_
          exact ih_4 (k + 1) (bitsN (fun v => cAllF F (I 4) n fd p0 (nI (v + 1))) k) (nI ((k + 1) + 1)) (by rw [bitsN, if_neg c_2]) rfl (by omega) (by omega) ls (lv_sub hl [1, 2, 3, 0] rfl)
        · have c_2 := b2_nz c_2
          refine lv_iload_n hx hb dX3_heavy_19 rfl (lv_at hl 2 rfl) ?_
          refine lv_iconst (v := (1 : Int32)) hx hb dX3_heavy_20 (by decide) ?_
          refine lv_iload_n hx hb dX3_heavy_21 rfl (lv_at hl 3 rfl) ?_
          refine lv_iconst (v := (1 : Int32)) hx hb dX3_heavy_22 (by decide) ?_
          refine lv_isub hx hb dX3_heavy_23 ?_
          refine lv_ishl hx hb dX3_heavy_24 ?_
          refine lv_ior hx hb dX3_heavy_25 ?_
          refine lv_istore_n (lv' := [(2, .int (bitsN (fun v => cAllF F (I 4) n fd p0 (nI (v + 1))) k ||| ((1 : Int32) <<< ((nI (k + 1) - (1 : Int32)) &&& 31)))), (0, .ref (B 0)), (1, .int p0), (3, .int (nI (k + 1)))]) hx hb dX3_heavy_26 rfl hl (by decide) rfl (fun ls hl => ?_)
          refine lv_iinc (v := (nI ((k + 1) + 1))) (lv' := [(3, .int (nI ((k + 1) + 1))), (2, .int (bitsN (fun v => cAllF F (I 4) n fd p0 (nI (v + 1))) k ||| ((1 : Int32) <<< ((nI (k + 1) - (1 : Int32)) &&& 31)))), (0, .ref (B 0)), (1, .int p0)]) hx hb dX3_heavy_27 hl (k := 3) rfl (nI_add (k + 1) 1) (by decide) rfl (fun ls hl => ?_)
          refine lv_goto (tgt := 4) hx hb dX3_heavy_30 (by decide) ?_
          exact ih_4 (k + 1) (bitsN (fun v => cAllF F (I 4) n fd p0 (nI (v + 1))) k ||| ((1 : Int32) <<< ((nI (k + 1) - (1 : Int32)) &&& 31))) (nI ((k + 1) + 1)) (by rw [bitsN, if_pos c_2]) rfl (by omega) (by omega) ls (lv_sub hl [2, 3, 1, 0] rfl)
  exact loop_4 ((9 - 0) + 1) 0 (0 : Int32) (1 : Int32) rfl rfl (by omega) (by omega) ls (lv_sub hl [2, 3, 1, 0] rfl)
set_option maxHeartbeats 1000000 in
set_option maxRecDepth 100000 in
theorem c_X3_countLike (l : Launch) (D : va_G) (cI cB cS : ClassId) {B : Nat → Nat} {I : Nat → Int32} {F : Nat → Nat → Int32} {n : Nat} (hn : n ≤ 6) (h3 : I 3 = nI n) (p0 p1 : Int32) : Met l yX3_countLike (Wm yX3_countLike cX3_countLike 6 (some .int)) ({ frames := 0, cells := 0, slots := 0, locals := 0 }) (va_Pc [.ref (B 0), .int p0, .int p1] (PR D (TYS cI cB cS) (wsB B cI cS I F))) (QcV (some (.int (cLike (F 6) p0 p1 9)))) 0 0 (fun _ => False) := by
  refine metR (by decide) [.ref (B 0), .int p0, .int p1] (Nat.le_of_ble_eq_true rfl) ?_
  intro p e s m args below meth c hx hb hml hr hlk hown hts hKK hP ls hl
  obtain ⟨hK, hN⟩ := id hKK
  have hl : lv_has ls 6 [(0, .ref (B 0)), (1, .int p0), (2, .int p1)] := hl
  refine lv_iconst (v := (0 : Int32)) hx hb dX3_countLike_0 (by decide) ?_
  refine lv_istore_n (lv' := [(3, .int (0 : Int32)), (0, .ref (B 0)), (1, .int p0), (2, .int p1)]) hx hb dX3_countLike_1 rfl hl (by decide) rfl (fun ls hl => ?_)
  refine lv_iconst (v := (1 : Int32)) hx hb dX3_countLike_2 (by decide) ?_
  refine lv_istore (lv' := [(4, .int (1 : Int32)), (3, .int (0 : Int32)), (0, .ref (B 0)), (1, .int p0), (2, .int p1)]) hx hb dX3_countLike_3 hl (by decide) rfl (fun ls hl => ?_)
  have loop_5 : ∀ (z : Nat) (k : Nat) (x3 : Int32) (x4 : Int32), x3 = cLike (F 6) p0 p1 k → x4 = nI (k + 1) → (k ≤ 9) → 9 - k < z → ∀ (ls : Array Slot), lv_has ls 6 [(0, .ref (B 0)), (1, .int p0), (2, .int p1), (3, .int x3), (4, .int x4)] → W p l e ({ frames := 0, cells := 0, slots := 0, locals := 0 } : Room) s m args below meth c s.heap [] 0 0 (MQ below (QcV (some (.int (cLike (F 6) p0 p1 9)))) args s 0 0 (fun _ => False)) (F0 m 5 ls []) := by
    intro z
    induction z with
    | zero =>
      intro k x3 x4 ex3 ex4 hk hz
      exact absurd hz (Nat.not_lt_zero _)
    | succ z ih_5 =>
      intro k x3 x4 ex3 ex4 hk hz ls hl
      subst ex3
      subst ex4
      refine lv_iload hx hb dX3_countLike_5 (lv_at hl 4 rfl) ?_
      refine lv_bipush (v := (9 : Int32)) hx hb dX3_countLike_7 (by decide) ?_
      refine lv_icmp_gt (tgt := 56) hx hb dX3_countLike_9 (by decide) (fun c_1 => ?_) (fun c_1 => ?_)
      · have nc_1 : 9 < (k + 1) := (nI_ltI (a := 9) (b := (k + 1)) (by omega) (by omega)).mp c_1
        refine lv_iload_n hx hb dX3_countLike_56 rfl (lv_at hl 3 rfl) ?_
        exact retRi hx hb hr hlk dX3_countLike_57 (by have hkn : k = 9 := (by omega); subst hkn; rfl)
      · have nc_1 : ¬ 9 < (k + 1) := fun h => c_1 ((nI_ltI (a := 9) (b := (k + 1)) (by omega) (by omega)).mpr h)
        refine lv_iload_n hx hb dX3_countLike_12 rfl (lv_at hl 2 rfl) ?_
        refine lv_iload hx hb dX3_countLike_13 (lv_at hl 4 rfl) ?_
        refine lv_iconst (v := (1 : Int32)) hx hb dX3_countLike_15 (by decide) ?_
        refine lv_isub hx hb dX3_countLike_16 ?_
        refine lv_ishr hx hb dX3_countLike_17 ?_
        refine lv_iconst (v := (1 : Int32)) hx hb dX3_countLike_18 (by decide) ?_
        refine lv_iand hx hb dX3_countLike_19 ?_
        refine lv_iconst (v := (1 : Int32)) hx hb dX3_countLike_20 (by decide) ?_
        refine lv_icmp_ne (tgt := 28) hx hb dX3_countLike_21 (by decide) (fun c_2 => ?_) (fun c_2 => ?_)
        · refine lv_iconst (v := (0 : Int32)) hx hb dX3_countLike_28 (by decide) ?_
          refine lv_istore (lv' := [(5, .int (0 : Int32)), (0, .ref (B 0)), (1, .int p0), (2, .int p1), (3, .int (cLike (F 6) p0 p1 k)), (4, .int (nI (k + 1)))]) hx hb dX3_countLike_29 hl (by decide) rfl (fun ls hl => ?_)
          refine lv_iload hx hb dX3_countLike_31 (lv_at hl 0 rfl) ?_
          refine lv_if_eq (tgt := 50) hx hb dX3_countLike_33 (by decide) (fun c_3 => ?_) (fun c_3 => ?_)
          · refine lv_iinc (v := (nI ((k + 1) + 1))) (lv' := [(4, .int (nI ((k + 1) + 1))), (5, .int (0 : Int32)), (0, .ref (B 0)), (1, .int p0), (2, .int p1), (3, .int (cLike (F 6) p0 p1 k))]) hx hb dX3_countLike_50 hl (k := 5) rfl (nI_add (k + 1) 1) (by decide) rfl (fun ls hl => ?_)
            refine lv_goto (tgt := 5) hx hb dX3_countLike_53 (by decide) ?_
            exact ih_5 (k + 1) (cLike (F 6) p0 p1 k) (nI ((k + 1) + 1)) (by grind [cLike]) rfl (by omega) (by omega) ls (lv_sub hl [2, 3, 4, 5, 0] rfl)
          · exact absurd c_3 (by decide)
        · refine lv_iconst (v := (1 : Int32)) hx hb dX3_countLike_24 (by decide) ?_
          refine lv_goto (tgt := 29) hx hb dX3_countLike_25 (by decide) ?_
          refine lv_istore (lv' := [(5, .int (1 : Int32)), (0, .ref (B 0)), (1, .int p0), (2, .int p1), (3, .int (cLike (F 6) p0 p1 k)), (4, .int (nI (k + 1)))]) hx hb dX3_countLike_29 hl (by decide) rfl (fun ls hl => ?_)
          refine lv_iload hx hb dX3_countLike_31 (lv_at hl 0 rfl) ?_
          refine lv_if_eq (tgt := 50) hx hb dX3_countLike_33 (by decide) (fun c_4 => ?_) (fun c_4 => ?_)
          · exact absurd c_4 (by decide)
          · refine lv_aload_n hx hb dX3_countLike_36 rfl (lv_at hl 1 rfl) ?_
            refine va_get (D := D) (ci := 3) (v := .ref (B 6)) (C := RX3) (T := TX3) (N := 8) hx hb hts inlX3 hown hK hP 0 rfl rfl 7 (by decide) (hts _ kw_27) (fun _ h9 => h9) rfl dX3_countLike_37 ?_
            refine lv_iload hx hb dX3_countLike_40 (lv_at hl 5 rfl) ?_
            refine va_iald (D := D) hx hb hK hP 6 0 rfl rfl (vp_in_nI (by omega) (by omega)) dX3_countLike_42 ?_
            refine topE (z := ((F 6) (k + 1))) (congrArg _ (nI_clamp (n := (k + 1)) (by omega))) ?_
            refine lv_iload_n hx hb dX3_countLike_43 rfl (lv_at hl 2 rfl) ?_
            refine lv_icmp_ne (tgt := 50) hx hb dX3_countLike_44 (by decide) (fun c_5 => ?_) (fun c_5 => ?_)
            · refine lv_iinc (v := (nI ((k + 1) + 1))) (lv' := [(4, .int (nI ((k + 1) + 1))), (5, .int (1 : Int32)), (0, .ref (B 0)), (1, .int p0), (2, .int p1), (3, .int (cLike (F 6) p0 p1 k))]) hx hb dX3_countLike_50 hl (k := 5) rfl (nI_add (k + 1) 1) (by decide) rfl (fun ls hl => ?_)
              refine lv_goto (tgt := 5) hx hb dX3_countLike_53 (by decide) ?_
              exact ih_5 (k + 1) (cLike (F 6) p0 p1 k) (nI ((k + 1) + 1)) (by grind [cLike]) rfl (by omega) (by omega) ls (lv_sub hl [2, 3, 4, 5, 0] rfl)
            · refine lv_iinc (v := (cLike (F 6) p0 p1 k + (1 : Int32))) (lv' := [(3, .int (cLike (F 6) p0 p1 k + (1 : Int32))), (5, .int (1 : Int32)), (0, .ref (B 0)), (1, .int p0), (2, .int p1), (4, .int (nI (k + 1)))]) hx hb dX3_countLike_47 hl (k := 4) rfl rfl (by decide) rfl (fun ls hl => ?_)
              refine lv_iinc (v := (nI ((k + 1) + 1))) (lv' := [(4, .int (nI ((k + 1) + 1))), (3, .int (cLike (F 6) p0 p1 k + (1 : Int32))), (5, .int (1 : Int32)), (0, .ref (B 0)), (1, .int p0), (2, .int p1)]) hx hb dX3_countLike_50 hl (k := 5) rfl (nI_add (k + 1) 1) (by decide) rfl (fun ls hl => ?_)
              refine lv_goto (tgt := 5) hx hb dX3_countLike_53 (by decide) ?_
              exact ih_5 (k + 1) (cLike (F 6) p0 p1 k + (1 : Int32)) (nI ((k + 1) + 1)) (by grind [cLike]) rfl (by omega) (by omega) ls (lv_sub hl [3, 4, 5, 1, 0] rfl)
  exact loop_5 ((9 - 0) + 1) 0 (0 : Int32) (1 : Int32) rfl rfl (by omega) (by omega) ls (lv_sub hl [2, 3, 4, 1, 0] rfl)
set_option maxHeartbeats 1000000 in
set_option maxRecDepth 100000 in
theorem c_X3_leftAtWorst (l : Launch) (D : va_G) (cI cB cS : ClassId) {B : Nat → Nat} {I : Nat → Int32} {F : Nat → Nat → Int32} {n : Nat} (hn : n ≤ 6) (h3 : I 3 = nI n) (p0 p1 p2 p3 : Int32) : Met l yX3_leftAtWorst (Wm yX3_leftAtWorst cX3_leftAtWorst 7 (some .int)) ({ frames := 3, cells := 0, slots := 0, locals := 74 }) (va_Pc [.ref (B 0), .int p0, .int p1, .int p2, .int p3] (PW D (TYS cI cB cS) (wsB B cI cS I F))) (QcW D (some (.int (cWorst (cByP F (I 4) n p0 p1 p2) p3 9))) (wsB B cI cS I F) (wsB B cI cS I (va_up F 6 (rowF (cByP F (I 4) n p0 p1 p2) (F 6) 1 10)))) 0 0 (FPw (wsB B cI cS I F)) := by
  refine metW (by decide) [.ref (B 0), .int p0, .int p1, .int p2, .int p3] (Nat.le_of_ble_eq_true rfl) ?_
  intro p e s m args below meth c hx hb hml hr hlk hown hts hKK hP hD hS ls hl
  obtain ⟨hK, hN⟩ := id hKK
  have hl : lv_has ls 7 [(0, .ref (B 0)), (1, .int p0), (2, .int p1), (3, .int p2), (4, .int p3)] := hl
  refine lv_iconst (v := (1 : Int32)) hx hb dX3_leftAtWorst_0 (by decide) ?_
  refine lv_istore (lv' := [(5, .int (1 : Int32)), (0, .ref (B 0)), (1, .int p0), (2, .int p1), (3, .int p2), (4, .int p3)]) hx hb dX3_leftAtWorst_1 hl (by decide) rfl (fun ls hl => ?_)
  have loop_3 : ∀ (z : Nat) (k : Nat) (x5 : Int32), x5 = nI (k + 1) → (k ≤ 9) → 9 - k < z → ∀ (H : Heap) (locs : List Loc), va_P D vwCl (wsB B cI cS I (va_up F 6 (rowF (cByP F (I 4) n p0 p1 p2) (F 6) 1 (k + 1)))) H → va_S (FPw (wsB B cI cS I F)) s.heap H locs → ∀ (ls : Array Slot), lv_has ls 7 [(0, .ref (B 0)), (1, .int p0), (2, .int p1), (3, .int p2), (4, .int p3), (5, .int x5)] → W p l e ({ frames := 3, cells := 0, slots := 0, locals := 74 } : Room) s m args below meth c H locs 0 0 (MQ below (QcW D (some (.int (cWorst (cByP F (I 4) n p0 p1 p2) p3 9))) (wsB B cI cS I F) (wsB B cI cS I (va_up F 6 (rowF (cByP F (I 4) n p0 p1 p2) (F 6) 1 10)))) args s 0 0 (FPw (wsB B cI cS I F))) (F0 m 3 ls []) := by
    intro z
    induction z with
    | zero =>
      intro k x5 ex5 hk hz
      exact absurd hz (Nat.not_lt_zero _)
    | succ z ih_3 =>
      intro k x5 ex5 hk hz H locs hP hS ls hl
      subst ex5
      have hD := va_D_addr (ws := (wsB B cI cS I F)) (ws' := (wsB B cI cS I (va_up F 6 (rowF (cByP F (I 4) n p0 p1 p2) (F 6) 1 (k + 1))))) rfl hD
      refine lv_iload hx hb dX3_leftAtWorst_3 (lv_at hl 5 rfl) ?_
      refine lv_bipush (v := (9 : Int32)) hx hb dX3_leftAtWorst_5 (by decide) ?_
      refine lv_icmp_gt (tgt := 32) hx hb dX3_leftAtWorst_7 (by decide) (fun c_1 => ?_) (fun c_1 => ?_)
      · have nc_1 : 9 < (k + 1) := (nI_ltI (a := 9) (b := (k + 1)) (by omega) (by omega)).mp c_1
        refine lv_iconst (v := (0 : Int32)) hx hb dX3_leftAtWorst_32 (by decide) ?_
        refine lv_istore (lv' := [(5, .int (0 : Int32)), (0, .ref (B 0)), (1, .int p0), (2, .int p1), (3, .int p2), (4, .int p3)]) hx hb dX3_leftAtWorst_33 hl (by decide) rfl (fun ls hl => ?_)
        refine lv_iconst (v := (1 : Int32)) hx hb dX3_leftAtWorst_35 (by decide) ?_
        refine lv_istore (lv' := [(6, .int (1 : Int32)), (5, .int (0 : Int32)), (0, .ref (B 0)), (1, .int p0), (2, .int p1), (3, .int p2), (4, .int p3)]) hx hb dX3_leftAtWorst_36 hl (by decide) rfl (fun ls hl => ?_)
        have loop_38 : ∀ (z : Nat) (j : Nat) (y5 : Int32) (y6 : Int32), y5 = cWorst (cByP F (I 4) n p0 p1 p2) p3 j → y6 = nI (j + 1) → (j ≤ 9) → 9 - j < z → ∀ (H : Heap) (locs : List Loc), va_P D vwCl (wsB B cI cS I (va_up F 6 (rowF (cByP F (I 4) n p0 p1 p2) (F 6) 1 10))) H → va_S (FPw (wsB B cI cS I F)) s.heap H locs → ∀ (ls : Array Slot), lv_has ls 7 [(0, .ref (B 0)), (1, .int p0), (2, .int p1), (3, .int p2), (4, .int p3), (5, .int y5), (6, .int y6)] → W p l e ({ frames := 3, cells := 0, slots := 0, locals := 74 } : Room) s m args below meth c H locs 0 0 (MQ below (QcW D (some (.int (cWorst (cByP F (I 4) n p0 p1 p2) p3 9))) (wsB B cI cS I F) (wsB B cI cS I (va_up F 6 (rowF (cByP F (I 4) n p0 p1 p2) (F 6) 1 10)))) args s 0 0 (FPw (wsB B cI cS I F))) (F0 m 38 ls []) := by
          intro z
          induction z with
          | zero =>
            intro j y5 y6 ey5 ey6 hj hz
            exact absurd hz (Nat.not_lt_zero _)
          | succ z ih_38 =>
            intro j y5 y6 ey5 ey6 hj hz H locs hP hS ls hl
            subst ey5
            subst ey6
            have hD := va_D_addr (ws := (wsB B cI cS I (va_up F 6 (rowF (cByP F (I 4) n p0 p1 p2) (F 6) 1 (k + 1))))) (ws' := (wsB B cI cS I (va_up F 6 (rowF (cByP F (I 4) n p0 p1 p2) (F 6) 1 10)))) rfl hD
            refine lv_iload hx hb dX3_leftAtWorst_38 (lv_at hl 6 rfl) ?_
            refine lv_bipush (v := (9 : Int32)) hx hb dX3_leftAtWorst_40 (by decide) ?_
            refine lv_icmp_gt (tgt := 71) hx hb dX3_leftAtWorst_42 (by decide) (fun c_2 => ?_) (fun c_2 => ?_)
            · have nc_2 : 9 < (j + 1) := (nI_ltI (a := 9) (b := (j + 1)) (by omega) (by omega)).mp c_2
              refine lv_iload hx hb dX3_leftAtWorst_71 (lv_at hl 5 rfl) ?_
              exact retWi hx hb hr hlk hP hS dX3_leftAtWorst_73 (by have hjn : j = 9 := (by omega); subst hjn; rfl) rfl
            · have nc_2 : ¬ 9 < (j + 1) := fun h => c_2 ((nI_ltI (a := 9) (b := (j + 1)) (by omega) (by omega)).mpr h)
              refine lv_iload hx hb dX3_leftAtWorst_45 (lv_at hl 5 rfl) ?_
              refine lv_aload_n hx hb dX3_leftAtWorst_47 rfl (lv_at hl 0 rfl) ?_
              refine lv_aload_n hx hb dX3_leftAtWorst_48 rfl (lv_at hl 0 rfl) ?_
              refine va_get (D := D) (ci := 3) (v := .ref (B 6)) (C := RX3) (T := TX3) (N := 8) hx hb hts inlX3 hown hK hP 0 rfl rfl 7 (by decide) (hts _ kw_27) (fun _ h9 => h9) rfl dX3_leftAtWorst_49 ?_
              refine lv_iload hx hb dX3_leftAtWorst_52 (lv_at hl 6 rfl) ?_
              refine va_iald (D := D) hx hb hK hP 6 0 rfl rfl (vp_in_nI (by omega) (by omega)) dX3_leftAtWorst_54 ?_
              refine topE (z := ((rowF (cByP F (I 4) n p0 p1 p2) (F 6) 1 10) (j + 1))) (congrArg _ (nI_clamp (n := (j + 1)) (by omega))) ?_
              refine lv_iload hx hb dX3_leftAtWorst_55 (lv_at hl 4 rfl) ?_
              refine rcVi (As := [.int ((rowF (cByP F (I 4) n p0 p1 p2) (F 6) 1 10) (j + 1)), .int p3]) (rest := [.int (cWorst (cByP F (I 4) n p0 p1 p2) p3 j)]) hx hb hml hown hts hKK hP (c_X3_countLike l D cI cB cS hn h3 ((rowF (cByP F (I 4) n p0 p1 p2) (F 6) 1 10) (j + 1)) p3) (cwV2 2 hts kw_519 kw_3 kw_516 kw_517 kw_518 rfl rfl (by decide +kernel) ⟨Nat.le_of_ble_eq_true rfl, Nat.le_of_ble_eq_true rfl⟩) 0 rfl rfl rfl rfl hl.1 rfl (Nat.le_of_ble_eq_true rfl) ⟨Nat.zero_le _, Nat.zero_le _⟩ dX3_leftAtWorst_57 ?_
              refine topE (z := (cLike (rowF (cByP F (I 4) n p0 p1 p2) (F 6) 1 10) ((rowF (cByP F (I 4) n p0 p1 p2) (F 6) 1 10) (j + 1)) p3 9)) rfl ?_
              refine topE (z := (cLike (cByP F (I 4) n p0 p1 p2) ((cByP F (I 4) n p0 p1 p2) (j + 1)) p3 9)) (by rw [rowF_in (by omega) (by omega)]; exact cLike_congr 9 (fun c h1 h2 => rowF_in h1 (by omega))) ?_
              refine va_mmax hx hb (hml.trans hl.1.symm) hown (hts _ kw_515) (hts _ kw_152) (hts _ kw_153) (hts _ kw_154) (Nat.le_of_ble_eq_true rfl) (Nat.le_of_ble_eq_true rfl) (Nat.zero_le _) (Nat.zero_le _) dX3_leftAtWorst_60 ?_
              refine lv_istore (lv' := [(5, .int (if cWorst (cByP F (I 4) n p0 p1 p2) p3 j < (cLike (cByP F (I 4) n p0 p1 p2) ((cByP F (I 4) n p0 p1 p2) (j + 1)) p3 9) then (cLike (cByP F (I 4) n p0 p1 p2) ((cByP F (I 4) n p0 p1 p2) (j + 1)) p3 9) else cWorst (cByP F (I 4) n p0 p1 p2) p3 j)), (0, .ref (B 0)), (1, .int p0), (2, .int p1), (3, .int p2), (4, .int p3), (6, .int (nI (j + 1)))]) hx hb dX3_leftAtWorst_63 hl (by decide) rfl (fun ls hl => ?_)
              refine lv_iinc (v := (nI ((j + 1) + 1))) (lv' := [(6, .int (nI ((j + 1) + 1))), (5, .int (if cWorst (cByP F (I 4) n p0 p1 p2) p3 j < (cLike (cByP F (I 4) n p0 p1 p2) ((cByP F (I 4) n p0 p1 p2) (j + 1)) p3 9) then (cLike (cByP F (I 4) n p0 p1 p2) ((cByP F (I 4) n p0 p1 p2) (j + 1)) p3 9) else cWorst (cByP F (I 4) n p0 p1 p2) p3 j)), (0, .ref (B 0)), (1, .int p0), (2, .int p1), (3, .int p2), (4, .int p3)]) hx hb dX3_leftAtWorst_65 hl (k := 6) rfl (nI_add (j + 1) 1) (by decide) rfl (fun ls hl => ?_)
              refine lv_goto (tgt := 38) hx hb dX3_leftAtWorst_68 (by decide) ?_
              have hP9 : va_P D vwCl (wsB B cI cS I (va_up F 6 (rowF (cByP F (I 4) n p0 p1 p2) (F 6) 1 10))) H := by exact hP
              exact ih_38 (j + 1) (if cWorst (cByP F (I 4) n p0 p1 p2) p3 j < (cLike (cByP F (I 4) n p0 p1 p2) ((cByP F (I 4) n p0 p1 p2) (j + 1)) p3 9) then (cLike (cByP F (I 4) n p0 p1 p2) ((cByP F (I 4) n p0 p1 p2) (j + 1)) p3 9) else cWorst (cByP F (I 4) n p0 p1 p2) p3 j) (nI ((j + 1) + 1)) (by rw [cWorst]) rfl (by omega) (by omega) H locs hP9 hS ls (lv_sub hl [2, 3, 4, 5, 6, 1, 0] rfl)
        have hP9 : va_P D vwCl (wsB B cI cS I (va_up F 6 (rowF (cByP F (I 4) n p0 p1 p2) (F 6) 1 10))) H := by have hkn : k = 9 := (by omega); subst hkn; exact hP
        exact loop_38 ((9 - 0) + 1) 0 (0 : Int32) (1 : Int32) rfl rfl (by omega) (by omega) H locs hP9 hS ls (lv_sub hl [2, 3, 4, 5, 6, 1, 0] rfl)
      · have nc_1 : ¬ 9 < (k + 1) := fun h => c_1 ((nI_ltI (a := 9) (b := (k + 1)) (by omega) (by omega)).mpr h)
        refine lv_aload_n hx hb dX3_leftAtWorst_10 rfl (lv_at hl 0 rfl) ?_
        refine va_get (D := D) (ci := 3) (v := .ref (B 6)) (C := RX3) (T := TX3) (N := 8) hx hb hts inlX3 hown hK hP 0 rfl rfl 7 (by decide) (hts _ kw_27) (fun _ h9 => h9) rfl dX3_leftAtWorst_11 ?_
        refine lv_iload hx hb dX3_leftAtWorst_14 (lv_at hl 5 rfl) ?_
        refine lv_aload_n hx hb dX3_leftAtWorst_16 rfl (lv_at hl 0 rfl) ?_
        refine lv_iload_n hx hb dX3_leftAtWorst_17 rfl (lv_at hl 1 rfl) ?_
        refine lv_iload_n hx hb dX3_leftAtWorst_18 rfl (lv_at hl 2 rfl) ?_
        refine lv_iload_n hx hb dX3_leftAtWorst_19 rfl (lv_at hl 3 rfl) ?_
        refine lv_iload hx hb dX3_leftAtWorst_20 (lv_at hl 5 rfl) ?_
        refine rcVi (As := [.int p0, .int p1, .int p2, .int (nI (k + 1))]) (rest := [.int (nI (k + 1)), .ref (B 6)]) hx hb hml hown hts hKK hP (c_X3_comesIf l D cI cB cS hn h3 p0 p1 p2 (nI (k + 1))) (cwV2 4 hts kw_282 kw_3 kw_279 kw_280 kw_281 rfl rfl (by decide +kernel) ⟨Nat.le_of_ble_eq_true rfl, Nat.le_of_ble_eq_true rfl⟩) 0 rfl rfl rfl rfl hl.1 rfl (Nat.le_of_ble_eq_true rfl) ⟨Nat.zero_le _, Nat.zero_le _⟩ dX3_leftAtWorst_22 ?_
        refine topE (z := (cComes F (I 4) n p0 p1 p2 (nI (k + 1)))) rfl ?_
        refine va_iast (D := D) hx hb hK hP hD hS 6 0 rfl rfl (vp_in_nI (by omega) (by omega)) dX3_leftAtWorst_25 (fun H locs hP hD hS => ?_)
        rw [nI_clamp (n := (k + 1)) (by omega)] at hP hD
        have hP : va_P D vwCl (wsB B cI cS I (va_up F 6 (upd (rowF (cByP F (I 4) n p0 p1 p2) (F 6) 1 (k + 1)) (k + 1) (cComes F (I 4) n p0 p1 p2 (nI (k + 1)))))) H := hP
        have hD : va_D (FPw (wsB B cI cS I F)) (wsB B cI cS I (va_up F 6 (upd (rowF (cByP F (I 4) n p0 p1 p2) (F 6) 1 (k + 1)) (k + 1) (cComes F (I 4) n p0 p1 p2 (nI (k + 1)))))) := hD
        refine lv_iinc (v := (nI ((k + 1) + 1))) (lv' := [(5, .int (nI ((k + 1) + 1))), (0, .ref (B 0)), (1, .int p0), (2, .int p1), (3, .int p2), (4, .int p3)]) hx hb dX3_leftAtWorst_26 hl (k := 5) rfl (nI_add (k + 1) 1) (by decide) rfl (fun ls hl => ?_)
        refine lv_goto (tgt := 3) hx hb dX3_leftAtWorst_29 (by decide) ?_
        have hP9 : va_P D vwCl (wsB B cI cS I (va_up F 6 (rowF (cByP F (I 4) n p0 p1 p2) (F 6) 1 ((k + 1) + 1)))) H := by rw [← rowF_upd (by omega)]; exact hP
        exact ih_3 (k + 1) (nI ((k + 1) + 1)) rfl (by omega) (by omega) H locs hP9 hS ls (lv_sub hl [1, 2, 3, 4, 5, 0] rfl)
  have hP9 : va_P D vwCl (wsB B cI cS I (va_up F 6 (rowF (cByP F (I 4) n p0 p1 p2) (F 6) 1 (0 + 1)))) s.heap := by rw [show (0 + 1 : Nat) = 1 from rfl, rowF_0]; exact hP
  exact loop_3 ((9 - 0) + 1) 0 (1 : Int32) rfl (by omega) (by omega) s.heap [] hP9 hS ls (lv_sub hl [1, 2, 3, 4, 5, 0] rfl)
set_option maxHeartbeats 1000000 in
set_option maxRecDepth 100000 in
theorem c_X3_wet (l : Launch) (D : va_G) (cI cB cS : ClassId) {B : Nat → Nat} {I : Nat → Int32} {F : Nat → Nat → Int32} {n : Nat} (hn : n ≤ 6) (h3 : I 3 = nI n) (p0 p1 : Int32) : Met l yX3_wet (Wm yX3_wet cX3_wet 3 (some .int)) ({ frames := 2, cells := 0, slots := 0, locals := 44 }) (va_Pc [.ref (B 0), .int p0, .int p1] (PR D (TYS cI cB cS) (wsB B cI cS I F))) (QcV (some (.int (cWetS F (I 4) n p0 p1)))) 0 0 (fun _ => False) := by
  refine metR (by decide) [.ref (B 0), .int p0, .int p1] (Nat.le_of_ble_eq_true rfl) ?_
  intro p e s m args below meth c hx hb hml hr hlk hown hts hKK hP ls hl
  obtain ⟨hK, hN⟩ := id hKK
  have hl : lv_has ls 3 [(0, .ref (B 0)), (1, .int p0), (2, .int p1)] := hl
  refine lv_aload_n hx hb dX3_wet_0 rfl (lv_at hl 0 rfl) ?_
  refine lv_iload_n hx hb dX3_wet_1 rfl (lv_at hl 1 rfl) ?_
  refine rcVi (As := [.int p0]) (rest := []) hx hb hml hown hts hKK hP (c_X3_isStroke l D cI cB cS hn h3 p0) (cwV2 1 hts kw_266 kw_3 kw_263 kw_264 kw_265 rfl rfl (by decide +kernel) ⟨Nat.le_of_ble_eq_true rfl, Nat.le_of_ble_eq_true rfl⟩) 0 rfl rfl rfl rfl hl.1 rfl (Nat.le_of_ble_eq_true rfl) ⟨Nat.zero_le _, Nat.zero_le _⟩ dX3_wet_2 ?_
  refine lv_if_ne (tgt := 11) hx hb dX3_wet_5 (by decide) (fun c_1 => ?_) (fun c_1 => ?_)
  · have c_1 := b2_nz c_1
    obtain ⟨k, hk, rfl⟩ := okS_nat hn c_1
    have hkc : (nI k).toNatClampNeg = k := nI_clamp (by omega)
    refine lv_iload_n hx hb dX3_wet_11 rfl (lv_at hl 2 rfl) ?_
    refine rcSi (As := [.int p1]) (rest := []) hx hb hml hown hts hKK hP (c_X3_isMinute l D cI cB cS p1) (cwS2 1 hts kw_376 kw_3 kw_374 kw_375 rfl rfl (by decide +kernel) ⟨Nat.le_of_ble_eq_true rfl, Nat.le_of_ble_eq_true rfl⟩) rfl hl.1 rfl (Nat.le_of_ble_eq_true rfl) ⟨Nat.zero_le _, Nat.zero_le _⟩ dX3_wet_12 ?_
    refine lv_if_ne (tgt := 21) hx hb dX3_wet_15 (by decide) (fun c_2 => ?_) (fun c_2 => ?_)
    · have c_2 := b2_nz c_2
      refine lv_aload_n hx hb dX3_wet_21 rfl (lv_at hl 0 rfl) ?_
      refine va_get (D := D) (ci := 3) (v := .ref (B 3)) (C := RX3) (T := TX3) (N := 8) hx hb hts inlX3 hown hK hP 0 rfl rfl 2 (by decide) (hts _ kw_21) (fun _ h9 => h9) rfl dX3_wet_22 ?_
      refine lv_iload_n hx hb dX3_wet_25 rfl (lv_at hl 1 rfl) ?_
      refine rcVi (As := [.int (nI k)]) (rest := []) hx hb hml hown hts hKK hP (c_X1_isSanded l D cI cB cS (q := 3) rfl (nI k)) (cwV2 1 hts kw_270 kw_20 kw_267 kw_268 kw_269 rfl rfl (by decide +kernel) ⟨Nat.le_of_ble_eq_true rfl, Nat.le_of_ble_eq_true rfl⟩) 3 rfl rfl rfl rfl hl.1 rfl (Nat.le_of_ble_eq_true rfl) ⟨Nat.zero_le _, Nat.zero_le _⟩ dX3_wet_26 ?_
      refine lv_if_eq (tgt := 36) hx hb dX3_wet_29 (by decide) (fun c_3 => ?_) (fun c_3 => ?_)
      · have c_3 := b2_z c_3
        refine lv_aload_n hx hb dX3_wet_36 rfl (lv_at hl 0 rfl) ?_
        refine va_get (D := D) (ci := 3) (v := .ref (B 2)) (C := RX3) (T := TX3) (N := 8) hx hb hts inlX3 hown hK hP 0 rfl rfl 1 (by decide) (hts _ kw_17) (fun _ h9 => h9) rfl dX3_wet_37 ?_
        refine lv_iload_n hx hb dX3_wet_40 rfl (lv_at hl 1 rfl) ?_
        refine va_aldq (D := D) hx hb hK hP 2 2 rfl rfl (vp_in_nI (by omega) (by omega)) dX3_wet_41 ?_
        refine topV (z := .ref (B (16 + k))) (congrArg (fun j => Value.ref (B (16 + j))) (nI_clamp (n := k) (by omega))) ?_
        refine lv_iload_n hx hb dX3_wet_42 rfl (lv_at hl 2 rfl) ?_
        refine lv_aload_n hx hb dX3_wet_43 rfl (lv_at hl 0 rfl) ?_
        refine va_get (D := D) (ci := 3) (v := .ref (B 2)) (C := RX3) (T := TX3) (N := 8) hx hb hts inlX3 hown hK hP 0 rfl rfl 1 (by decide) (hts _ kw_17) (fun _ h9 => h9) rfl dX3_wet_44 ?_
        refine lv_iload_n hx hb dX3_wet_47 rfl (lv_at hl 1 rfl) ?_
        refine va_aldq (D := D) hx hb hK hP 2 2 rfl rfl (vp_in_nI (by omega) (by omega)) dX3_wet_48 ?_
        refine topV (z := .ref (B (16 + k))) (congrArg (fun j => Value.ref (B (16 + j))) (nI_clamp (n := k) (by omega))) ?_
        refine va_getN (D := D) (ci := 2) (v := .int ((F 19) k)) (C := RX2) (T := TX2) (N := 5) hx hb hts inlX2 hown hK hP (16 + k) (wsB_st (by omega)) rfl 4 (by decide) (nfF_12 hN) (fun _ h9 => h9) rfl dX3_wet_49 ?_
        refine rcVi (As := [.int p1, .int ((F 19) k)]) (rest := []) hx hb hml hown hts hKK hP (c_X2_wetAt l D cI cB cS (wsB_st (by omega)) p1 ((F 19) k)) (cwV2 2 hts kw_286 kw_29 kw_283 kw_284 kw_285 rfl rfl (by decide +kernel) ⟨Nat.le_of_ble_eq_true rfl, Nat.le_of_ble_eq_true rfl⟩) (16 + k) (wsB_st (by omega)) rfl rfl rfl hl.1 rfl (Nat.le_of_ble_eq_true rfl) ⟨Nat.zero_le _, Nat.zero_le _⟩ dX3_wet_52 ?_
        exact retRi hx hb hr hlk dX3_wet_55 (by grind [cWetS])
      · have c_3 := b2_nz c_3
        refine lv_iconst (v := (0 : Int32)) hx hb dX3_wet_32 (by decide) ?_
        refine lv_goto (tgt := 55) hx hb dX3_wet_33 (by decide) ?_
        exact retRi hx hb hr hlk dX3_wet_55 (by grind [cWetS])
    · have c_2 := b2_z c_2
      refine lv_bipush (v := (-102 : Int32)) hx hb dX3_wet_18 (by decide) ?_
      exact retRi hx hb hr hlk dX3_wet_20 (by grind [cWetS])
  · have c_1 := b2_z c_1
    refine lv_bipush (v := (-101 : Int32)) hx hb dX3_wet_8 (by decide) ?_
    exact retRi hx hb hr hlk dX3_wet_10 (by grind [cWetS])
set_option maxHeartbeats 1000000 in
set_option maxRecDepth 100000 in
theorem c_X3_reachesAny (l : Launch) (D : va_G) (cI cB cS : ClassId) {B : Nat → Nat} {I : Nat → Int32} {F : Nat → Nat → Int32} {n : Nat} (hn : n ≤ 6) (h3 : I 3 = nI n) {k : Nat} (hk : k < n) (p1 p2 : Int32) : Met l yX3_reachesAny (Wm yX3_reachesAny cX3_reachesAny 7 (some .boolean)) ({ frames := 3, cells := 0, slots := 0, locals := 66 }) (va_Pc [.ref (B 0), .int (nI k), .int p1, .int p2] (PR D (TYS cI cB cS) (wsB B cI cS I F))) (QcV (some (.int (b2 (cReach F (I 4) n p1 p2 k))))) 0 0 (fun _ => False) := by
  refine metR (by decide) [.ref (B 0), .int (nI k), .int p1, .int p2] (Nat.le_of_ble_eq_true rfl) ?_
  intro p e s m args below meth c hx hb hml hr hlk hown hts hKK hP ls hl
  obtain ⟨hK, hN⟩ := id hKK
  have hl : lv_has ls 7 [(0, .ref (B 0)), (1, .int (nI k)), (2, .int p1), (3, .int p2)] := hl
  refine lv_aload_n hx hb dX3_reachesAny_0 rfl (lv_at hl 0 rfl) ?_
  refine lv_iload_n hx hb dX3_reachesAny_1 rfl (lv_at hl 1 rfl) ?_
  refine lv_iload_n hx hb dX3_reachesAny_2 rfl (lv_at hl 2 rfl) ?_
  refine rcVi (As := [.int (nI k), .int p1]) (rest := []) hx hb hml hown hts hKK hP (c_X3_wet l D cI cB cS hn h3 (nI k) p1) (cwV2 2 hts kw_373 kw_3 kw_464 kw_371 kw_372 rfl rfl (by decide +kernel) ⟨Nat.le_of_ble_eq_true rfl, Nat.le_of_ble_eq_true rfl⟩) 0 rfl rfl rfl rfl hl.1 rfl (Nat.le_of_ble_eq_true rfl) ⟨Nat.zero_le _, Nat.zero_le _⟩ dX3_reachesAny_3 ?_
  refine topE (z := (cWetS F (I 4) n (nI k) p1)) rfl ?_
  refine lv_istore (lv' := [(4, .int (cWetS F (I 4) n (nI k) p1)), (0, .ref (B 0)), (1, .int (nI k)), (2, .int p1), (3, .int p2)]) hx hb dX3_reachesAny_6 hl (by decide) rfl (fun ls hl => ?_)
  refine lv_iconst (v := (0 : Int32)) hx hb dX3_reachesAny_8 (by decide) ?_
  refine lv_istore (lv' := [(5, .int (0 : Int32)), (4, .int (cWetS F (I 4) n (nI k) p1)), (0, .ref (B 0)), (1, .int (nI k)), (2, .int p1), (3, .int p2)]) hx hb dX3_reachesAny_9 hl (by decide) rfl (fun ls hl => ?_)
  have loop_11 : ∀ (z : Nat) (j : Nat) (x5 : Int32), x5 = nI j → (j ≤ 10) → (∀ c, c < j → ¬ ((p2 >>> (nI c &&& 31)) &&& 1 = 1 ∧ 0 < cGives (F 17 k) (F 18 k) (F 16 k) (9 - nI c) (cWetS F (I 4) n (nI k) p1))) → 10 - j < z → ∀ (ls : Array Slot), lv_has ls 7 [(0, .ref (B 0)), (1, .int (nI k)), (2, .int p1), (3, .int p2), (4, .int (cWetS F (I 4) n (nI k) p1)), (5, .int x5)] → W p l e ({ frames := 3, cells := 0, slots := 0, locals := 66 } : Room) s m args below meth c s.heap [] 0 0 (MQ below (QcV (some (.int (b2 (cReach F (I 4) n p1 p2 k))))) args s 0 0 (fun _ => False)) (F0 m 11 ls []) := by
    intro z
    induction z with
    | zero =>
      intro j x5 ex5 hj hno hz
      exact absurd hz (Nat.not_lt_zero _)
    | succ z ih_11 =>
      intro j x5 ex5 hj hno hz ls hl
      subst ex5
      refine lv_iload hx hb dX3_reachesAny_11 (lv_at hl 5 rfl) ?_
      refine lv_bipush (v := (10 : Int32)) hx hb dX3_reachesAny_13 (by decide) ?_
      refine lv_icmp_ge (tgt := 75) hx hb dX3_reachesAny_15 (by decide) (fun c_1 => ?_) (fun c_1 => ?_)
      · have nc_1 : 10 ≤ j := (nI_leI (a := 10) (b := j) (by omega) (by omega)).mp c_1
        refine lv_iconst (v := (0 : Int32)) hx hb dX3_reachesAny_75 (by decide) ?_
        exact retRz hx hb hr hlk dX3_reachesAny_76 (by exact b2_f (fun h => h (fun c hc => hno c (by omega))))
      · have nc_1 : ¬ 10 ≤ j := fun h => c_1 ((nI_leI (a := 10) (b := j) (by omega) (by omega)).mpr h)
        refine lv_iload_n hx hb dX3_reachesAny_18 rfl (lv_at hl 3 rfl) ?_
        refine lv_iload hx hb dX3_reachesAny_19 (lv_at hl 5 rfl) ?_
        refine lv_ishr hx hb dX3_reachesAny_21 ?_
        refine lv_iconst (v := (1 : Int32)) hx hb dX3_reachesAny_22 (by decide) ?_
        refine lv_iand hx hb dX3_reachesAny_23 ?_
        refine lv_iconst (v := (1 : Int32)) hx hb dX3_reachesAny_24 (by decide) ?_
        refine lv_icmp_ne (tgt := 32) hx hb dX3_reachesAny_25 (by decide) (fun c_2 => ?_) (fun c_2 => ?_)
        · refine lv_iconst (v := (0 : Int32)) hx hb dX3_reachesAny_32 (by decide) ?_
          refine lv_istore (lv' := [(6, .int (0 : Int32)), (0, .ref (B 0)), (1, .int (nI k)), (2, .int p1), (3, .int p2), (4, .int (cWetS F (I 4) n (nI k) p1)), (5, .int (nI j))]) hx hb dX3_reachesAny_33 hl (by decide) rfl (fun ls hl => ?_)
          refine lv_iload hx hb dX3_reachesAny_35 (lv_at hl 0 rfl) ?_
          refine lv_if_eq (tgt := 69) hx hb dX3_reachesAny_37 (by decide) (fun c_3 => ?_) (fun c_3 => ?_)
          · refine lv_iinc (v := (nI (j + 1))) (lv' := [(5, .int (nI (j + 1))), (6, .int (0 : Int32)), (0, .ref (B 0)), (1, .int (nI k)), (2, .int p1), (3, .int p2), (4, .int (cWetS F (I 4) n (nI k) p1))]) hx hb dX3_reachesAny_69 hl (k := 6) rfl (nI_add j 1) (by decide) rfl (fun ls hl => ?_)
            refine lv_goto (tgt := 11) hx hb dX3_reachesAny_72 (by decide) ?_
            exact ih_11 (j + 1) (nI (j + 1)) rfl (by omega) (by intro i hi; by_cases hik : i = j; (subst hik; grind); exact hno i (by omega)) (by omega) ls (lv_sub hl [2, 3, 4, 5, 6, 0] rfl)
          · exact absurd c_3 (by decide)
        · refine lv_iconst (v := (1 : Int32)) hx hb dX3_reachesAny_28 (by decide) ?_
          refine lv_goto (tgt := 33) hx hb dX3_reachesAny_29 (by decide) ?_
          refine lv_istore (lv' := [(6, .int (1 : Int32)), (0, .ref (B 0)), (1, .int (nI k)), (2, .int p1), (3, .int p2), (4, .int (cWetS F (I 4) n (nI k) p1)), (5, .int (nI j))]) hx hb dX3_reachesAny_33 hl (by decide) rfl (fun ls hl => ?_)
          refine lv_iload hx hb dX3_reachesAny_35 (lv_at hl 0 rfl) ?_
          refine lv_if_eq (tgt := 69) hx hb dX3_reachesAny_37 (by decide) (fun c_4 => ?_) (fun c_4 => ?_)
          · exact absurd c_4 (by decide)
          · refine lv_aload_n hx hb dX3_reachesAny_40 rfl (lv_at hl 1 rfl) ?_
            refine lv_iload_n hx hb dX3_reachesAny_41 rfl (lv_at hl 2 rfl) ?_
            refine rcVi (As := [.int (nI k)]) (rest := []) hx hb hml hown hts hKK hP (c_X3_isStroke l D cI cB cS hn h3 (nI k)) (cwV2 1 hts kw_266 kw_3 kw_263 kw_264 kw_265 rfl rfl (by decide +kernel) ⟨Nat.le_of_ble_eq_true rfl, Nat.le_of_ble_eq_true rfl⟩) 0 rfl rfl rfl rfl hl.1 rfl (Nat.le_of_ble_eq_true rfl) ⟨Nat.zero_le _, Nat.zero_le _⟩ dX3_reachesAny_42 ?_
            refine lv_if_eq (tgt := 69) hx hb dX3_reachesAny_45 (by decide) (fun c_5 => ?_) (fun c_5 => ?_)
            · have c_5 := b2_z c_5
              exact absurd ⟨nI_pos (by omega), fun h9 => absurd ((nI_leI (a := n) (b := k) (by omega) (by omega)).mp h9) (by omega)⟩ c_5
            · have c_5 := b2_nz c_5
              refine lv_aload_n hx hb dX3_reachesAny_48 rfl (lv_at hl 1 rfl) ?_
              refine va_get (D := D) (ci := 3) (v := .ref (B 2)) (C := RX3) (T := TX3) (N := 8) hx hb hts inlX3 hown hK hP 0 rfl rfl 1 (by decide) (hts _ kw_17) (fun _ h9 => h9) rfl dX3_reachesAny_49 ?_
              refine lv_iload_n hx hb dX3_reachesAny_52 rfl (lv_at hl 2 rfl) ?_
              refine va_aldq (D := D) hx hb hK hP 2 2 rfl rfl (vp_in_nI (by omega) (by omega)) dX3_reachesAny_53 ?_
              refine topV (z := .ref (B (16 + k))) (congrArg (fun j => Value.ref (B (16 + j))) (nI_clamp (n := k) (by omega))) ?_
              refine lv_bipush (v := (9 : Int32)) hx hb dX3_reachesAny_54 (by decide) ?_
              refine lv_iload hx hb dX3_reachesAny_56 (lv_at hl 6 rfl) ?_
              refine lv_isub hx hb dX3_reachesAny_58 ?_
              refine lv_iload hx hb dX3_reachesAny_59 (lv_at hl 5 rfl) ?_
              refine rcVi (As := [.int ((9 : Int32) - nI j), .int (cWetS F (I 4) n (nI k) p1)]) (rest := []) hx hb hml hown hts hKK hP (c_X2_givesTo l D cI cB cS (wsB_st (by omega)) ((9 : Int32) - nI j) (cWetS F (I 4) n (nI k) p1)) (cwV2 2 hts kw_291 kw_29 kw_288 kw_289 kw_290 rfl rfl (by decide +kernel) ⟨Nat.le_of_ble_eq_true rfl, Nat.le_of_ble_eq_true rfl⟩) (16 + k) (wsB_st (by omega)) rfl rfl rfl hl.1 rfl (Nat.le_of_ble_eq_true rfl) ⟨Nat.zero_le _, Nat.zero_le _⟩ dX3_reachesAny_61 ?_
              refine lv_if_le (tgt := 69) hx hb dX3_reachesAny_64 (by decide) (fun c_6 => ?_) (fun c_6 => ?_)
              · refine lv_iinc (v := (nI (j + 1))) (lv' := [(5, .int (nI (j + 1))), (6, .int (1 : Int32)), (0, .ref (B 0)), (1, .int (nI k)), (2, .int p1), (3, .int p2), (4, .int (cWetS F (I 4) n (nI k) p1))]) hx hb dX3_reachesAny_69 hl (k := 6) rfl (nI_add j 1) (by decide) rfl (fun ls hl => ?_)
                refine lv_goto (tgt := 11) hx hb dX3_reachesAny_72 (by decide) ?_
                exact ih_11 (j + 1) (nI (j + 1)) rfl (by omega) (by intro i hi; by_cases hik : i = j; (subst hik; grind); exact hno i (by omega)) (by omega) ls (lv_sub hl [2, 3, 4, 5, 6, 0] rfl)
              · refine lv_iconst (v := (1 : Int32)) hx hb dX3_reachesAny_67 (by decide) ?_
                exact retRz hx hb hr hlk dX3_reachesAny_68 (by exact b2_t (fun h => h j (by omega) (by grind)))
  exact loop_11 ((10 - 0) + 1) 0 (0 : Int32) rfl (by omega) (by intro i hi; exact absurd hi (by omega)) (by omega) ls (lv_sub hl [2, 3, 4, 5, 1, 0] rfl)
set_option maxHeartbeats 1000000 in
set_option maxRecDepth 100000 in
theorem c_X3_about (l : Launch) (D : va_G) (cI cB cS : ClassId) {B : Nat → Nat} {I : Nat → Int32} {F : Nat → Nat → Int32} {n : Nat} (hn : n ≤ 6) (h3 : I 3 = nI n) {fd : Nat} (hfd : fd ≤ 6) (h6 : I 6 = nI fd) (p0 p1 : Int32) : Met l yX3_about (Wm yX3_about cX3_about 3 (some .int)) ({ frames := 5, cells := 0, slots := 0, locals := 120 }) (va_Pc [.ref (B 0), .int p0, .int p1] (PR D (TYS cI cB cS) (wsB B cI cS I F))) (QcV (some (.int (cAbout F (I 4) n fd p0 p1)))) 0 0 (fun _ => False) := by
  refine metR (by decide) [.ref (B 0), .int p0, .int p1] (Nat.le_of_ble_eq_true rfl) ?_
  intro p e s m args below meth c hx hb hml hr hlk hown hts hKK hP ls hl
  obtain ⟨hK, hN⟩ := id hKK
  have hl : lv_has ls 3 [(0, .ref (B 0)), (1, .int p0), (2, .int p1)] := hl
  refine lv_aload_n hx hb dX3_about_0 rfl (lv_at hl 0 rfl) ?_
  refine lv_iload_n hx hb dX3_about_1 rfl (lv_at hl 1 rfl) ?_
  refine rcVi (As := [.int p0]) (rest := []) hx hb hml hown hts hKK hP (c_X3_isStroke l D cI cB cS hn h3 p0) (cwV2 1 hts kw_266 kw_3 kw_263 kw_264 kw_265 rfl rfl (by decide +kernel) ⟨Nat.le_of_ble_eq_true rfl, Nat.le_of_ble_eq_true rfl⟩) 0 rfl rfl rfl rfl hl.1 rfl (Nat.le_of_ble_eq_true rfl) ⟨Nat.zero_le _, Nat.zero_le _⟩ dX3_about_2 ?_
  refine lv_if_ne (tgt := 11) hx hb dX3_about_5 (by decide) (fun c_1 => ?_) (fun c_1 => ?_)
  · have c_1 := b2_nz c_1
    obtain ⟨k, hk, rfl⟩ := okS_nat hn c_1
    have hkc : (nI k).toNatClampNeg = k := nI_clamp (by omega)
    refine lv_iload_n hx hb dX3_about_11 rfl (lv_at hl 2 rfl) ?_
    by_cases e_2 : p1 = (0 : Int32)
    · refine topE e_2 ?_
      refine lv_tableIn (off := 40) (tgt := 52) hx hb dX3_about_12 (by decide) (by decide) rfl (by decide) ?_
      refine lv_aload_n hx hb dX3_about_52 rfl (lv_at hl 0 rfl) ?_
      refine va_get (D := D) (ci := 3) (v := .ref (B 2)) (C := RX3) (T := TX3) (N := 8) hx hb hts inlX3 hown hK hP 0 rfl rfl 1 (by decide) (hts _ kw_17) (fun _ h9 => h9) rfl dX3_about_53 ?_
      refine lv_iload_n hx hb dX3_about_56 rfl (lv_at hl 1 rfl) ?_
      refine va_aldq (D := D) hx hb hK hP 2 2 rfl rfl (vp_in_nI (by omega) (by omega)) dX3_about_57 ?_
      refine topV (z := .ref (B (16 + k))) (congrArg (fun j => Value.ref (B (16 + j))) (nI_clamp (n := k) (by omega))) ?_
      refine va_getN (D := D) (ci := 2) (v := .int ((F 16) k)) (C := RX2) (T := TX2) (N := 5) hx hb hts inlX2 hown hK hP (16 + k) (wsB_st (by omega)) rfl 1 (by decide) (nfF_9 hN) (fun _ h9 => h9) rfl dX3_about_58 ?_
      exact retRi hx hb hr hlk dX3_about_61 (by grind [cAbout, b2])
    by_cases e_3 : p1 = (1 : Int32)
    · refine topE e_3 ?_
      refine lv_tableIn (off := 50) (tgt := 62) hx hb dX3_about_12 (by decide) (by decide) rfl (by decide) ?_
      refine lv_aload_n hx hb dX3_about_62 rfl (lv_at hl 0 rfl) ?_
      refine va_get (D := D) (ci := 3) (v := .ref (B 2)) (C := RX3) (T := TX3) (N := 8) hx hb hts inlX3 hown hK hP 0 rfl rfl 1 (by decide) (hts _ kw_17) (fun _ h9 => h9) rfl dX3_about_63 ?_
      refine lv_iload_n hx hb dX3_about_66 rfl (lv_at hl 1 rfl) ?_
      refine va_aldq (D := D) hx hb hK hP 2 2 rfl rfl (vp_in_nI (by omega) (by omega)) dX3_about_67 ?_
      refine topV (z := .ref (B (16 + k))) (congrArg (fun j => Value.ref (B (16 + j))) (nI_clamp (n := k) (by omega))) ?_
      refine va_getN (D := D) (ci := 2) (v := .int ((F 17) k)) (C := RX2) (T := TX2) (N := 5) hx hb hts inlX2 hown hK hP (16 + k) (wsB_st (by omega)) rfl 2 (by decide) (nfF_10 hN) (fun _ h9 => h9) rfl dX3_about_68 ?_
      exact retRi hx hb hr hlk dX3_about_71 (by grind [cAbout, b2])
    by_cases e_4 : p1 = (2 : Int32)
    · refine topE e_4 ?_
      refine lv_tableIn (off := 60) (tgt := 72) hx hb dX3_about_12 (by decide) (by decide) rfl (by decide) ?_
      refine lv_aload_n hx hb dX3_about_72 rfl (lv_at hl 0 rfl) ?_
      refine va_get (D := D) (ci := 3) (v := .ref (B 2)) (C := RX3) (T := TX3) (N := 8) hx hb hts inlX3 hown hK hP 0 rfl rfl 1 (by decide) (hts _ kw_17) (fun _ h9 => h9) rfl dX3_about_73 ?_
      refine lv_iload_n hx hb dX3_about_76 rfl (lv_at hl 1 rfl) ?_
      refine va_aldq (D := D) hx hb hK hP 2 2 rfl rfl (vp_in_nI (by omega) (by omega)) dX3_about_77 ?_
      refine topV (z := .ref (B (16 + k))) (congrArg (fun j => Value.ref (B (16 + j))) (nI_clamp (n := k) (by omega))) ?_
      refine va_getN (D := D) (ci := 2) (v := .int ((F 18) k)) (C := RX2) (T := TX2) (N := 5) hx hb hts inlX2 hown hK hP (16 + k) (wsB_st (by omega)) rfl 3 (by decide) (nfF_11 hN) (fun _ h9 => h9) rfl dX3_about_78 ?_
      exact retRi hx hb hr hlk dX3_about_81 (by grind [cAbout, b2])
    by_cases e_5 : p1 = (3 : Int32)
    · refine topE e_5 ?_
      refine lv_tableIn (off := 70) (tgt := 82) hx hb dX3_about_12 (by decide) (by decide) rfl (by decide) ?_
      refine lv_aload_n hx hb dX3_about_82 rfl (lv_at hl 0 rfl) ?_
      refine va_get (D := D) (ci := 3) (v := .ref (B 2)) (C := RX3) (T := TX3) (N := 8) hx hb hts inlX3 hown hK hP 0 rfl rfl 1 (by decide) (hts _ kw_17) (fun _ h9 => h9) rfl dX3_about_83 ?_
      refine lv_iload_n hx hb dX3_about_86 rfl (lv_at hl 1 rfl) ?_
      refine va_aldq (D := D) hx hb hK hP 2 2 rfl rfl (vp_in_nI (by omega) (by omega)) dX3_about_87 ?_
      refine topV (z := .ref (B (16 + k))) (congrArg (fun j => Value.ref (B (16 + j))) (nI_clamp (n := k) (by omega))) ?_
      refine va_getN (D := D) (ci := 2) (v := .int ((F 19) k)) (C := RX2) (T := TX2) (N := 5) hx hb hts inlX2 hown hK hP (16 + k) (wsB_st (by omega)) rfl 4 (by decide) (nfF_12 hN) (fun _ h9 => h9) rfl dX3_about_88 ?_
      exact retRi hx hb hr hlk dX3_about_91 (by grind [cAbout, b2])
    by_cases e_6 : p1 = (4 : Int32)
    · refine topE e_6 ?_
      refine lv_tableIn (off := 80) (tgt := 92) hx hb dX3_about_12 (by decide) (by decide) rfl (by decide) ?_
      refine lv_aload_n hx hb dX3_about_92 rfl (lv_at hl 0 rfl) ?_
      refine va_get (D := D) (ci := 3) (v := .ref (B 3)) (C := RX3) (T := TX3) (N := 8) hx hb hts inlX3 hown hK hP 0 rfl rfl 2 (by decide) (hts _ kw_21) (fun _ h9 => h9) rfl dX3_about_93 ?_
      refine lv_iload_n hx hb dX3_about_96 rfl (lv_at hl 1 rfl) ?_
      refine rcVi (As := [.int (nI k)]) (rest := []) hx hb hml hown hts hKK hP (c_X1_isSanded l D cI cB cS (q := 3) rfl (nI k)) (cwV2 1 hts kw_270 kw_20 kw_267 kw_268 kw_269 rfl rfl (by decide +kernel) ⟨Nat.le_of_ble_eq_true rfl, Nat.le_of_ble_eq_true rfl⟩) 3 rfl rfl rfl rfl hl.1 rfl (Nat.le_of_ble_eq_true rfl) ⟨Nat.zero_le _, Nat.zero_le _⟩ dX3_about_97 ?_
      refine lv_if_eq (tgt := 107) hx hb dX3_about_100 (by decide) (fun c_7 => ?_) (fun c_7 => ?_)
      · have c_7 := b2_z c_7
        refine lv_iconst (v := (0 : Int32)) hx hb dX3_about_107 (by decide) ?_
        exact retRi hx hb hr hlk dX3_about_108 (by grind [cAbout, b2])
      · have c_7 := b2_nz c_7
        refine lv_iconst (v := (1 : Int32)) hx hb dX3_about_103 (by decide) ?_
        refine lv_goto (tgt := 108) hx hb dX3_about_104 (by decide) ?_
        exact retRi hx hb hr hlk dX3_about_108 (by grind [cAbout, b2])
    by_cases e_8 : p1 = (5 : Int32)
    · refine topE e_8 ?_
      refine lv_tableIn (off := 97) (tgt := 109) hx hb dX3_about_12 (by decide) (by decide) rfl (by decide) ?_
      refine lv_aload_n hx hb dX3_about_109 rfl (lv_at hl 0 rfl) ?_
      refine lv_iload_n hx hb dX3_about_110 rfl (lv_at hl 1 rfl) ?_
      refine rcVi (As := [.int (nI k)]) (rest := []) hx hb hml hown hts hKK hP (c_X3_heavy l D cI cB cS hn h3 hfd h6 (nI k)) (cwV2 1 hts kw_274 kw_3 kw_271 kw_272 kw_273 rfl rfl (by decide +kernel) ⟨Nat.le_of_ble_eq_true rfl, Nat.le_of_ble_eq_true rfl⟩) 0 rfl rfl rfl rfl hl.1 rfl (Nat.le_of_ble_eq_true rfl) ⟨Nat.zero_le _, Nat.zero_le _⟩ dX3_about_111 ?_
      refine topE (z := (cHeavy F (I 4) n fd (nI k))) rfl ?_
      exact retRi hx hb hr hlk dX3_about_114 (by grind [cAbout, b2])
    have t_9 := lv_neT e_2 (a := 0) rfl
    have t_10 := lv_neT e_3 (a := 1) rfl
    have t_11 := lv_neT e_4 (a := 2) rfl
    have t_12 := lv_neT e_5 (a := 3) rfl
    have t_13 := lv_neT e_6 (a := 4) rfl
    have t_14 := lv_neT e_8 (a := 5) rfl
    refine lv_tableOut (tgt := 115) hx hb dX3_about_12 (by omega) (by decide) ?_
    refine lv_bipush (v := (-102 : Int32)) hx hb dX3_about_115 (by decide) ?_
    exact retRi hx hb hr hlk dX3_about_117 (by grind [cAbout, b2])
  · have c_1 := b2_z c_1
    refine lv_bipush (v := (-101 : Int32)) hx hb dX3_about_8 (by decide) ?_
    exact retRi hx hb hr hlk dX3_about_10 (by grind [cAbout, b2])
set_option maxHeartbeats 1000000 in
set_option maxRecDepth 100000 in
theorem c_X3_as (l : Launch) (D : va_G) (cI cB cS : ClassId) {B : Nat → Nat} {I : Nat → Int32} {F : Nat → Nat → Int32} {n : Nat} (hn : n ≤ 6) (h3 : I 3 = nI n) (p0 p1 : Int32) : Met l yX3_as (Wm yX3_as cX3_as 3 (some .int)) ({ frames := 1, cells := 0, slots := 0, locals := 21 }) (va_Pc [.ref (B 0), .int p0, .int p1] (PR D (TYS cI cB cS) (wsB B cI cS I F))) (QcV (some (.int (cAs F n p0 p1)))) 0 0 (fun _ => False) := by
  refine metR (by decide) [.ref (B 0), .int p0, .int p1] (Nat.le_of_ble_eq_true rfl) ?_
  intro p e s m args below meth c hx hb hml hr hlk hown hts hKK hP ls hl
  obtain ⟨hK, hN⟩ := id hKK
  have hl : lv_has ls 3 [(0, .ref (B 0)), (1, .int p0), (2, .int p1)] := hl
  refine lv_aload_n hx hb dX3_as_0 rfl (lv_at hl 0 rfl) ?_
  refine lv_iload_n hx hb dX3_as_1 rfl (lv_at hl 1 rfl) ?_
  refine rcVi (As := [.int p0]) (rest := []) hx hb hml hown hts hKK hP (c_X3_isStroke l D cI cB cS hn h3 p0) (cwV2 1 hts kw_266 kw_3 kw_263 kw_264 kw_265 rfl rfl (by decide +kernel) ⟨Nat.le_of_ble_eq_true rfl, Nat.le_of_ble_eq_true rfl⟩) 0 rfl rfl rfl rfl hl.1 rfl (Nat.le_of_ble_eq_true rfl) ⟨Nat.zero_le _, Nat.zero_le _⟩ dX3_as_2 ?_
  refine lv_if_ne (tgt := 11) hx hb dX3_as_5 (by decide) (fun c_1 => ?_) (fun c_1 => ?_)
  · have c_1 := b2_nz c_1
    obtain ⟨k, hk, rfl⟩ := okS_nat hn c_1
    have hkc : (nI k).toNatClampNeg = k := nI_clamp (by omega)
    refine lv_iload_n hx hb dX3_as_11 rfl (lv_at hl 2 rfl) ?_
    refine rcSi (As := [.int p1]) (rest := []) hx hb hml hown hts hKK hP (c_X3_isKind l D cI cB cS p1) (cwS2 1 hts kw_337 kw_3 kw_335 kw_336 rfl rfl (by decide +kernel) ⟨Nat.le_of_ble_eq_true rfl, Nat.le_of_ble_eq_true rfl⟩) rfl hl.1 rfl (Nat.le_of_ble_eq_true rfl) ⟨Nat.zero_le _, Nat.zero_le _⟩ dX3_as_12 ?_
    refine lv_if_ne (tgt := 21) hx hb dX3_as_15 (by decide) (fun c_2 => ?_) (fun c_2 => ?_)
    · have c_2 := b2_nz c_2
      refine lv_aload_n hx hb dX3_as_21 rfl (lv_at hl 0 rfl) ?_
      refine va_get (D := D) (ci := 3) (v := .ref (B 2)) (C := RX3) (T := TX3) (N := 8) hx hb hts inlX3 hown hK hP 0 rfl rfl 1 (by decide) (hts _ kw_17) (fun _ h9 => h9) rfl dX3_as_22 ?_
      refine lv_iload_n hx hb dX3_as_25 rfl (lv_at hl 1 rfl) ?_
      refine va_aldq (D := D) hx hb hK hP 2 2 rfl rfl (vp_in_nI (by omega) (by omega)) dX3_as_26 ?_
      refine topV (z := .ref (B (16 + k))) (congrArg (fun j => Value.ref (B (16 + j))) (nI_clamp (n := k) (by omega))) ?_
      refine lv_iload_n hx hb dX3_as_27 rfl (lv_at hl 2 rfl) ?_
      refine rcVi (As := [.int p1]) (rest := []) hx hb hml hown hts hKK hP (c_X2_isA l D cI cB cS (wsB_st (by omega)) p1) (cwV2 1 hts kw_295 kw_29 kw_338 kw_293 kw_294 rfl rfl (by decide +kernel) ⟨Nat.le_of_ble_eq_true rfl, Nat.le_of_ble_eq_true rfl⟩) (16 + k) (wsB_st (by omega)) rfl rfl rfl hl.1 rfl (Nat.le_of_ble_eq_true rfl) ⟨Nat.zero_le _, Nat.zero_le _⟩ dX3_as_28 ?_
      refine lv_if_eq (tgt := 38) hx hb dX3_as_31 (by decide) (fun c_3 => ?_) (fun c_3 => ?_)
      · have c_3 := b2_z c_3
        refine lv_iconst (v := (-1 : Int32)) hx hb dX3_as_38 (by decide) ?_
        exact retRi hx hb hr hlk dX3_as_39 (by grind [cAs])
      · have c_3 := b2_nz c_3
        refine lv_iload_n hx hb dX3_as_34 rfl (lv_at hl 1 rfl) ?_
        refine lv_goto (tgt := 39) hx hb dX3_as_35 (by decide) ?_
        exact retRi hx hb hr hlk dX3_as_39 (by grind [cAs])
    · have c_2 := b2_z c_2
      refine lv_bipush (v := (-102 : Int32)) hx hb dX3_as_18 (by decide) ?_
      exact retRi hx hb hr hlk dX3_as_20 (by grind [cAs])
  · have c_1 := b2_z c_1
    refine lv_bipush (v := (-101 : Int32)) hx hb dX3_as_8 (by decide) ?_
    exact retRi hx hb hr hlk dX3_as_10 (by grind [cAs])
set_option maxHeartbeats 1000000 in
set_option maxRecDepth 100000 in
theorem c_X3_write (l : Launch) (D : va_G) (cI cB cS : ClassId) {B : Nat → Nat} {I : Nat → Int32} {F : Nat → Nat → Int32} {n : Nat} (hn : n ≤ 6) (h3 : I 3 = nI n) (p0 p1 p2 p3 : Int32) : Met l yX3_write (Wm yX3_write cX3_write 6 (some .int)) ({ frames := 2, cells := 0, slots := 0, locals := 45 }) (va_Pc [.ref (B 0), .int p0, .int p1, .int p2, .int p3] (PW D (TYS cI cB cS) (wsB B cI cS I F))) (QcW D (some (.int (cWrite n p0 p1 p2 p3))) (wsB B cI cS I F) (if okW p0 p1 p2 p3 ∧ 0 < n ∧ n < 6 then wsB B cI cS (upd I 3 (nI (n + 1))) (va_up (va_up (va_up (va_up F 16 (upd (F 16) n p0)) 17 (upd (F 17) n p1)) 18 (upd (F 18) n (if 10 - p1 < p2 then 10 - p1 else p2))) 19 (upd (F 19) n p3)) else wsB B cI cS I F)) 0 0 (FPw (wsB B cI cS I F)) := by
  refine metW (by decide) [.ref (B 0), .int p0, .int p1, .int p2, .int p3] (Nat.le_of_ble_eq_true rfl) ?_
  intro p e s m args below meth c hx hb hml hr hlk hown hts hKK hP hD hS ls hl
  obtain ⟨hK, hN⟩ := id hKK
  have hl : lv_has ls 6 [(0, .ref (B 0)), (1, .int p0), (2, .int p1), (3, .int p2), (4, .int p3)] := hl
  refine lv_iload_n hx hb dX3_write_0 rfl (lv_at hl 1 rfl) ?_
  refine rcSi (As := [.int p0]) (rest := []) hx hb hml hown hts hKK hP (c_X3_isKind l D cI cB cS p0) (cwS2 1 hts kw_337 kw_3 kw_335 kw_336 rfl rfl (by decide +kernel) ⟨Nat.le_of_ble_eq_true rfl, Nat.le_of_ble_eq_true rfl⟩) rfl hl.1 rfl (Nat.le_of_ble_eq_true rfl) ⟨Nat.zero_le _, Nat.zero_le _⟩ dX3_write_1 ?_
  refine lv_if_eq (tgt := 37) hx hb dX3_write_4 (by decide) (fun c_1 => ?_) (fun c_1 => ?_)
  · have c_1 := b2_z c_1
    refine lv_bipush (v := (-102 : Int32)) hx hb dX3_write_37 (by decide) ?_
    exact retWi hx hb hr hlk hP hS dX3_write_39 (by grind [cWrite]) (by first | exact (if_pos (by grind)).symm | exact (if_neg (by grind)).symm)
  · have c_1 := b2_nz c_1
    refine lv_iload_n hx hb dX3_write_7 rfl (lv_at hl 2 rfl) ?_
    refine rcSi (As := [.int p1]) (rest := []) hx hb hml hown hts hKK hP (c_X3_isCell l D cI cB cS p1) (cwS2 1 hts kw_349 kw_3 kw_347 kw_348 rfl rfl (by decide +kernel) ⟨Nat.le_of_ble_eq_true rfl, Nat.le_of_ble_eq_true rfl⟩) rfl hl.1 rfl (Nat.le_of_ble_eq_true rfl) ⟨Nat.zero_le _, Nat.zero_le _⟩ dX3_write_8 ?_
    refine lv_if_eq (tgt := 37) hx hb dX3_write_11 (by decide) (fun c_2 => ?_) (fun c_2 => ?_)
    · have c_2 := b2_z c_2
      refine lv_bipush (v := (-102 : Int32)) hx hb dX3_write_37 (by decide) ?_
      exact retWi hx hb hr hlk hP hS dX3_write_39 (by grind [cWrite]) (by first | exact (if_pos (by grind)).symm | exact (if_neg (by grind)).symm)
    · have c_2 := b2_nz c_2
      refine lv_iload_n hx hb dX3_write_14 rfl (lv_at hl 3 rfl) ?_
      refine lv_iconst (v := (1 : Int32)) hx hb dX3_write_15 (by decide) ?_
      refine lv_icmp_lt (tgt := 37) hx hb dX3_write_16 (by decide) (fun c_3 => ?_) (fun c_3 => ?_)
      · refine lv_bipush (v := (-102 : Int32)) hx hb dX3_write_37 (by decide) ?_
        exact retWi hx hb hr hlk hP hS dX3_write_39 (by grind [cWrite]) (by first | exact (if_pos (by grind)).symm | exact (if_neg (by grind)).symm)
      · refine lv_iload_n hx hb dX3_write_19 rfl (lv_at hl 3 rfl) ?_
        refine lv_iconst (v := (5 : Int32)) hx hb dX3_write_20 (by decide) ?_
        refine lv_icmp_gt (tgt := 37) hx hb dX3_write_21 (by decide) (fun c_4 => ?_) (fun c_4 => ?_)
        · refine lv_bipush (v := (-102 : Int32)) hx hb dX3_write_37 (by decide) ?_
          exact retWi hx hb hr hlk hP hS dX3_write_39 (by grind [cWrite]) (by first | exact (if_pos (by grind)).symm | exact (if_neg (by grind)).symm)
        · refine lv_iload hx hb dX3_write_24 (lv_at hl 4 rfl) ?_
          refine lv_iconst (v := (1 : Int32)) hx hb dX3_write_26 (by decide) ?_
          refine lv_icmp_lt (tgt := 37) hx hb dX3_write_27 (by decide) (fun c_5 => ?_) (fun c_5 => ?_)
          · refine lv_bipush (v := (-102 : Int32)) hx hb dX3_write_37 (by decide) ?_
            exact retWi hx hb hr hlk hP hS dX3_write_39 (by grind [cWrite]) (by first | exact (if_pos (by grind)).symm | exact (if_neg (by grind)).symm)
          · refine lv_iload hx hb dX3_write_30 (lv_at hl 4 rfl) ?_
            refine lv_bipush (v := (9 : Int32)) hx hb dX3_write_32 (by decide) ?_
            refine lv_icmp_le (tgt := 40) hx hb dX3_write_34 (by decide) (fun c_6 => ?_) (fun c_6 => ?_)
            · refine lv_aload_n hx hb dX3_write_40 rfl (lv_at hl 0 rfl) ?_
              refine rcVi (As := []) (rest := []) hx hb hml hown hts hKK hP (c_X3_hasLeaf l D cI cB cS hn h3 ) (cwV2 0 hts kw_353 kw_3 kw_350 kw_351 kw_352 rfl rfl (by decide +kernel) ⟨Nat.le_of_ble_eq_true rfl, Nat.le_of_ble_eq_true rfl⟩) 0 rfl rfl rfl rfl hl.1 rfl (Nat.le_of_ble_eq_true rfl) ⟨Nat.zero_le _, Nat.zero_le _⟩ dX3_write_41 ?_
              refine lv_if_ne (tgt := 50) hx hb dX3_write_44 (by decide) (fun c_7 => ?_) (fun c_7 => ?_)
              · have c_7 := b2_nz c_7
                refine lv_aload_n hx hb dX3_write_50 rfl (lv_at hl 0 rfl) ?_
                refine va_get (D := D) (ci := 3) (v := .ref (B 3)) (C := RX3) (T := TX3) (N := 8) hx hb hts inlX3 hown hK hP 0 rfl rfl 2 (by decide) (hts _ kw_21) (fun _ h9 => h9) rfl dX3_write_51 ?_
                refine va_getN (D := D) (ci := 1) (v := .int (I 3)) (C := RX1) (T := TX1) (N := 8) hx hb hts inlX1 hown hK hP 3 rfl rfl 0 (by decide) (nfF_1 hN) (fun _ h9 => h9) rfl dX3_write_54 ?_
                refine topE (z := (nI n)) h3 ?_
                refine lv_istore (lv' := [(5, .int (nI n)), (0, .ref (B 0)), (1, .int p0), (2, .int p1), (3, .int p2), (4, .int p3)]) hx hb dX3_write_57 hl (by decide) rfl (fun ls hl => ?_)
                refine lv_iload hx hb dX3_write_59 (lv_at hl 0 rfl) ?_
                refine lv_if_lt (tgt := 74) hx hb dX3_write_61 (by decide) (fun c_8 => ?_) (fun c_8 => ?_)
                · have nc_8 : n < 0 := (nI_ltI (a := n) (b := 0) (by omega) (by omega)).mp c_8
                  exfalso; omega
                · have nc_8 : ¬ n < 0 := fun h => c_8 ((nI_ltI (a := n) (b := 0) (by omega) (by omega)).mpr h)
                  refine lv_iload hx hb dX3_write_64 (lv_at hl 0 rfl) ?_
                  refine lv_aload_n hx hb dX3_write_66 rfl (lv_at hl 1 rfl) ?_
                  refine va_get (D := D) (ci := 3) (v := .ref (B 2)) (C := RX3) (T := TX3) (N := 8) hx hb hts inlX3 hown hK hP 0 rfl rfl 1 (by decide) (hts _ kw_17) (fun _ h9 => h9) rfl dX3_write_67 ?_
                  refine va_alen (D := D) hx hb hK hP 2 2 rfl rfl (v := (6 : Int32)) rfl dX3_write_70 ?_
                  refine lv_icmp_lt (tgt := 77) hx hb dX3_write_71 (by decide) (fun c_9 => ?_) (fun c_9 => ?_)
                  · have nc_9 : n < 6 := (nI_ltI (a := n) (b := 6) (by omega) (by omega)).mp c_9
                    refine lv_aload_n hx hb dX3_write_77 rfl (lv_at hl 1 rfl) ?_
                    refine va_get (D := D) (ci := 3) (v := .ref (B 2)) (C := RX3) (T := TX3) (N := 8) hx hb hts inlX3 hown hK hP 0 rfl rfl 1 (by decide) (hts _ kw_17) (fun _ h9 => h9) rfl dX3_write_78 ?_
                    refine lv_iload hx hb dX3_write_81 (lv_at hl 0 rfl) ?_
                    refine va_aldq (D := D) hx hb hK hP 2 2 rfl rfl (vp_in_nI (by omega) (by omega)) dX3_write_83 ?_
                    refine topV (z := .ref (B (16 + n))) (congrArg (fun j => Value.ref (B (16 + j))) (nI_clamp (n := n) (by omega))) ?_
                    refine lv_iload_n hx hb dX3_write_84 rfl (lv_at hl 2 rfl) ?_
                    refine lv_iload_n hx hb dX3_write_85 rfl (lv_at hl 3 rfl) ?_
                    refine lv_iload_n hx hb dX3_write_86 rfl (lv_at hl 4 rfl) ?_
                    refine lv_iload hx hb dX3_write_87 (lv_at hl 5 rfl) ?_
                    refine wcVv (As := [.int p0, .int p1, .int p2, .int p3]) (rest := []) hx hb hml hown hts hKK hP hD hS (c_X2_become l D cI cB cS (k := n) (by omega) p0 p1 p2 p3) (cwV2 4 hts kw_241 kw_29 kw_238 kw_239 kw_240 rfl rfl (by decide +kernel) ⟨Nat.le_of_ble_eq_true rfl, Nat.le_of_ble_eq_true rfl⟩) (16 + n) (wsB_st (by omega)) rfl rfl rfl hl.1 rfl (Nat.le_of_ble_eq_true rfl) ⟨Nat.zero_le _, Nat.zero_le _⟩ dX3_write_89 (fun H locs hP hS => ?_)
                    have hP : va_P D vwCl (wsB B cI cS I (va_up (va_up (va_up (va_up F 16 (upd (F 16) n p0)) 17 (upd (F 17) n p1)) 18 (upd (F 18) n (if (10 : Int32) - p1 < p2 then (10 : Int32) - p1 else p2))) 19 (upd (F 19) n p3))) H := hP
                    have hD : va_D (FPw (wsB B cI cS I F)) (wsB B cI cS I (va_up (va_up (va_up (va_up F 16 (upd (F 16) n p0)) 17 (upd (F 17) n p1)) 18 (upd (F 18) n (if (10 : Int32) - p1 < p2 then (10 : Int32) - p1 else p2))) 19 (upd (F 19) n p3))) := va_D_addr (ws := (wsB B cI cS I F)) rfl hD
                    refine lv_aload_n hx hb dX3_write_92 rfl (lv_at hl 1 rfl) ?_
                    refine va_get (D := D) (ci := 3) (v := .ref (B 3)) (C := RX3) (T := TX3) (N := 8) hx hb hts inlX3 hown hK hP 0 rfl rfl 2 (by decide) (hts _ kw_21) (fun _ h9 => h9) rfl dX3_write_93 ?_
                    refine lv_iload hx hb dX3_write_96 (lv_at hl 0 rfl) ?_
                    refine lv_iconst (v := (1 : Int32)) hx hb dX3_write_98 (by decide) ?_
                    refine lv_iadd hx hb dX3_write_99 ?_
                    refine topE (z := (nI (n + 1))) (nI_add n 1) ?_
                    refine va_putN (D := D) (ci := 1) (v := .int (nI (n + 1))) (ty := tyX1 0) (C := RX1) (T := TX1) (N := 8) hx hb hts inlX1 tyX1 tyX1_ok nmX1 hown hK hP hD hS 3 rfl rfl 0 (by decide) (nfF_1 hN) (fun _ h9 => h9) rfl (tyX1_ok 0 (by decide)) rfl rfl (Nat.le_of_ble_eq_true rfl) dX3_write_100 (fun H locs hP hD hS => ?_)
                    have hP : va_P D vwCl (wsB B cI cS (upd I 3 (nI (n + 1))) (va_up (va_up (va_up (va_up F 16 (upd (F 16) n p0)) 17 (upd (F 17) n p1)) 18 (upd (F 18) n (if (10 : Int32) - p1 < p2 then (10 : Int32) - p1 else p2))) 19 (upd (F 19) n p3))) H := hP
                    have hD : va_D (FPw (wsB B cI cS I F)) (wsB B cI cS (upd I 3 (nI (n + 1))) (va_up (va_up (va_up (va_up F 16 (upd (F 16) n p0)) 17 (upd (F 17) n p1)) 18 (upd (F 18) n (if (10 : Int32) - p1 < p2 then (10 : Int32) - p1 else p2))) 19 (upd (F 19) n p3))) := hD
                    refine lv_iload hx hb dX3_write_103 (lv_at hl 0 rfl) ?_
                    exact retWi hx hb hr hlk hP hS dX3_write_105 (by grind [cWrite]) (by first | exact (if_pos (by grind)).symm | exact (if_neg (by grind)).symm)
                  · have nc_9 : ¬ n < 6 := fun h => c_9 ((nI_ltI (a := n) (b := 6) (by omega) (by omega)).mpr h)
                    refine lv_bipush (v := (-104 : Int32)) hx hb dX3_write_74 (by decide) ?_
                    exact retWi hx hb hr hlk hP hS dX3_write_76 (by grind [cWrite]) (by first | exact (if_pos (by grind)).symm | exact (if_neg (by grind)).symm)
              · have c_7 := b2_z c_7
                refine lv_bipush (v := (-103 : Int32)) hx hb dX3_write_47 (by decide) ?_
                exact retWi hx hb hr hlk hP hS dX3_write_49 (by grind [cWrite]) (by first | exact (if_pos (by grind)).symm | exact (if_neg (by grind)).symm)
            · refine lv_bipush (v := (-102 : Int32)) hx hb dX3_write_37 (by decide) ?_
              exact retWi hx hb hr hlk hP hS dX3_write_39 (by grind [cWrite]) (by first | exact (if_pos (by grind)).symm | exact (if_neg (by grind)).symm)
set_option maxHeartbeats 1000000 in
set_option maxRecDepth 100000 in
theorem c_X3_sand (l : Launch) (D : va_G) (cI cB cS : ClassId) {B : Nat → Nat} {I : Nat → Int32} {F : Nat → Nat → Int32} {n : Nat} (hn : n ≤ 6) (h3 : I 3 = nI n) (p0 p1 : Int32) : Met l yX3_sand (Wm yX3_sand cX3_sand 4 (some .int)) ({ frames := 1, cells := 0, slots := 0, locals := 23 }) (va_Pc [.ref (B 0), .int p0, .int p1] (PW D (TYS cI cB cS) (wsB B cI cS I F))) (QcW D (some (.int (if okS n p0 then b2 (bitOn (I 4) p0) else -101))) (wsB B cI cS I F) (if okS n p0 then wsB B cI cS (upd I 4 (cPut (I 4) p0 p1)) F else wsB B cI cS I F)) 0 0 (FPw (wsB B cI cS I F)) := by
  refine metW (by decide) [.ref (B 0), .int p0, .int p1] (Nat.le_of_ble_eq_true rfl) ?_
  intro p e s m args below meth c hx hb hml hr hlk hown hts hKK hP hD hS ls hl
  obtain ⟨hK, hN⟩ := id hKK
  have hl : lv_has ls 4 [(0, .ref (B 0)), (1, .int p0), (2, .int p1)] := hl
  refine lv_aload_n hx hb dX3_sand_0 rfl (lv_at hl 0 rfl) ?_
  refine lv_iload_n hx hb dX3_sand_1 rfl (lv_at hl 1 rfl) ?_
  refine rcVi (As := [.int p0]) (rest := []) hx hb hml hown hts hKK hP (c_X3_isStroke l D cI cB cS hn h3 p0) (cwV2 1 hts kw_266 kw_3 kw_263 kw_264 kw_265 rfl rfl (by decide +kernel) ⟨Nat.le_of_ble_eq_true rfl, Nat.le_of_ble_eq_true rfl⟩) 0 rfl rfl rfl rfl hl.1 rfl (Nat.le_of_ble_eq_true rfl) ⟨Nat.zero_le _, Nat.zero_le _⟩ dX3_sand_2 ?_
  refine lv_if_ne (tgt := 11) hx hb dX3_sand_5 (by decide) (fun c_1 => ?_) (fun c_1 => ?_)
  · have c_1 := b2_nz c_1
    refine lv_aload_n hx hb dX3_sand_11 rfl (lv_at hl 0 rfl) ?_
    refine va_get (D := D) (ci := 3) (v := .ref (B 3)) (C := RX3) (T := TX3) (N := 8) hx hb hts inlX3 hown hK hP 0 rfl rfl 2 (by decide) (hts _ kw_21) (fun _ h9 => h9) rfl dX3_sand_12 ?_
    refine lv_iload_n hx hb dX3_sand_15 rfl (lv_at hl 1 rfl) ?_
    refine rcVi (As := [.int p0]) (rest := []) hx hb hml hown hts hKK hP (c_X1_isSanded l D cI cB cS (q := 3) rfl p0) (cwV2 1 hts kw_270 kw_20 kw_267 kw_268 kw_269 rfl rfl (by decide +kernel) ⟨Nat.le_of_ble_eq_true rfl, Nat.le_of_ble_eq_true rfl⟩) 3 rfl rfl rfl rfl hl.1 rfl (Nat.le_of_ble_eq_true rfl) ⟨Nat.zero_le _, Nat.zero_le _⟩ dX3_sand_16 ?_
    refine lv_if_eq (tgt := 26) hx hb dX3_sand_19 (by decide) (fun c_2 => ?_) (fun c_2 => ?_)
    · have c_2 := b2_z c_2
      refine lv_iconst (v := (0 : Int32)) hx hb dX3_sand_26 (by decide) ?_
      refine lv_istore_n (lv' := [(3, .int (0 : Int32)), (0, .ref (B 0)), (1, .int p0), (2, .int p1)]) hx hb dX3_sand_27 rfl hl (by decide) rfl (fun ls hl => ?_)
      refine lv_aload_n hx hb dX3_sand_28 rfl (lv_at hl 1 rfl) ?_
      refine va_get (D := D) (ci := 3) (v := .ref (B 3)) (C := RX3) (T := TX3) (N := 8) hx hb hts inlX3 hown hK hP 0 rfl rfl 2 (by decide) (hts _ kw_21) (fun _ h9 => h9) rfl dX3_sand_29 ?_
      refine lv_iload_n hx hb dX3_sand_32 rfl (lv_at hl 2 rfl) ?_
      refine lv_iload_n hx hb dX3_sand_33 rfl (lv_at hl 3 rfl) ?_
      refine wcVv (As := [.int p0, .int p1]) (rest := []) hx hb hml hown hts hKK hP hD hS (c_X1_putSanded l D cI cB cS hn h3 p0 p1) (cwV2 2 hts kw_365 kw_20 kw_362 kw_363 kw_364 rfl rfl (by decide +kernel) ⟨Nat.le_of_ble_eq_true rfl, Nat.le_of_ble_eq_true rfl⟩) 3 rfl rfl rfl rfl hl.1 rfl (Nat.le_of_ble_eq_true rfl) ⟨Nat.zero_le _, Nat.zero_le _⟩ dX3_sand_34 (fun H locs hP hS => ?_)
      have hP : va_P D vwCl (wsB B cI cS (upd I 4 (cPut (I 4) p0 p1)) F) H := hP
      have hD : va_D (FPw (wsB B cI cS I F)) (wsB B cI cS (upd I 4 (cPut (I 4) p0 p1)) F) := va_D_addr (ws := (wsB B cI cS I F)) rfl hD
      refine lv_iload_n hx hb dX3_sand_37 rfl (lv_at hl 0 rfl) ?_
      exact retWi hx hb hr hlk hP hS dX3_sand_38 (by grind [b2]) (by first | exact (if_pos (by grind)).symm | exact (if_neg (by grind)).symm)
    · have c_2 := b2_nz c_2
      refine lv_iconst (v := (1 : Int32)) hx hb dX3_sand_22 (by decide) ?_
      refine lv_goto (tgt := 27) hx hb dX3_sand_23 (by decide) ?_
      refine lv_istore_n (lv' := [(3, .int (1 : Int32)), (0, .ref (B 0)), (1, .int p0), (2, .int p1)]) hx hb dX3_sand_27 rfl hl (by decide) rfl (fun ls hl => ?_)
      refine lv_aload_n hx hb dX3_sand_28 rfl (lv_at hl 1 rfl) ?_
      refine va_get (D := D) (ci := 3) (v := .ref (B 3)) (C := RX3) (T := TX3) (N := 8) hx hb hts inlX3 hown hK hP 0 rfl rfl 2 (by decide) (hts _ kw_21) (fun _ h9 => h9) rfl dX3_sand_29 ?_
      refine lv_iload_n hx hb dX3_sand_32 rfl (lv_at hl 2 rfl) ?_
      refine lv_iload_n hx hb dX3_sand_33 rfl (lv_at hl 3 rfl) ?_
      refine wcVv (As := [.int p0, .int p1]) (rest := []) hx hb hml hown hts hKK hP hD hS (c_X1_putSanded l D cI cB cS hn h3 p0 p1) (cwV2 2 hts kw_365 kw_20 kw_362 kw_363 kw_364 rfl rfl (by decide +kernel) ⟨Nat.le_of_ble_eq_true rfl, Nat.le_of_ble_eq_true rfl⟩) 3 rfl rfl rfl rfl hl.1 rfl (Nat.le_of_ble_eq_true rfl) ⟨Nat.zero_le _, Nat.zero_le _⟩ dX3_sand_34 (fun H locs hP hS => ?_)
      have hP : va_P D vwCl (wsB B cI cS (upd I 4 (cPut (I 4) p0 p1)) F) H := hP
      have hD : va_D (FPw (wsB B cI cS I F)) (wsB B cI cS (upd I 4 (cPut (I 4) p0 p1)) F) := va_D_addr (ws := (wsB B cI cS I F)) rfl hD
      refine lv_iload_n hx hb dX3_sand_37 rfl (lv_at hl 0 rfl) ?_
      exact retWi hx hb hr hlk hP hS dX3_sand_38 (by grind [b2]) (by first | exact (if_pos (by grind)).symm | exact (if_neg (by grind)).symm)
  · have c_1 := b2_z c_1
    refine lv_bipush (v := (-101 : Int32)) hx hb dX3_sand_8 (by decide) ?_
    exact retWi hx hb hr hlk hP hS dX3_sand_10 (by grind [b2]) (by first | exact (if_pos (by grind)).symm | exact (if_neg (by grind)).symm)
set_option maxHeartbeats 1000000 in
set_option maxRecDepth 100000 in
theorem c_X3_ink (l : Launch) (D : va_G) (cI cB cS : ClassId) {B : Nat → Nat} {I : Nat → Int32} {F : Nat → Nat → Int32} {n : Nat} (hn : n ≤ 6) (h3 : I 3 = nI n) (p0 : Int32) : Met l yX3_ink (Wm yX3_ink cX3_ink 2 (some .int)) ({ frames := 2, cells := 0, slots := 0, locals := 41 }) (va_Pc [.ref (B 0), .int p0] (PR D (TYS cI cB cS) (wsB B cI cS I F))) (QcV (some (.int (cInk (F 8) n p0)))) 0 0 (fun _ => False) := by
  refine metR (by decide) [.ref (B 0), .int p0] (Nat.le_of_ble_eq_true rfl) ?_
  intro p e s m args below meth c hx hb hml hr hlk hown hts hKK hP ls hl
  obtain ⟨hK, hN⟩ := id hKK
  have hl : lv_has ls 2 [(0, .ref (B 0)), (1, .int p0)] := hl
  refine lv_aload_n hx hb dX3_ink_0 rfl (lv_at hl 0 rfl) ?_
  refine lv_iload_n hx hb dX3_ink_1 rfl (lv_at hl 1 rfl) ?_
  refine rcVi (As := [.int p0]) (rest := []) hx hb hml hown hts hKK hP (c_X3_isLand l D cI cB cS hn h3 p0) (cwV2 1 hts kw_391 kw_3 kw_388 kw_389 kw_390 rfl rfl (by decide +kernel) ⟨Nat.le_of_ble_eq_true rfl, Nat.le_of_ble_eq_true rfl⟩) 0 rfl rfl rfl rfl hl.1 rfl (Nat.le_of_ble_eq_true rfl) ⟨Nat.zero_le _, Nat.zero_le _⟩ dX3_ink_2 ?_
  refine lv_if_eq (tgt := 20) hx hb dX3_ink_5 (by decide) (fun c_1 => ?_) (fun c_1 => ?_)
  · have c_1 := b2_z c_1
    refine lv_bipush (v := (-101 : Int32)) hx hb dX3_ink_20 (by decide) ?_
    exact retRi hx hb hr hlk dX3_ink_22 (by grind [cInk])
  · have c_1 := b2_nz c_1
    obtain ⟨k, hk, rfl⟩ := okCell_nat c_1.2
    have hkc : (nI k).toNatClampNeg = k := nI_clamp (by omega)
    refine lv_aload_n hx hb dX3_ink_8 rfl (lv_at hl 0 rfl) ?_
    refine va_get (D := D) (ci := 3) (v := .ref (B 3)) (C := RX3) (T := TX3) (N := 8) hx hb hts inlX3 hown hK hP 0 rfl rfl 2 (by decide) (hts _ kw_21) (fun _ h9 => h9) rfl dX3_ink_9 ?_
    refine va_getN (D := D) (ci := 1) (v := .ref (B 8)) (C := RX1) (T := TX1) (N := 8) hx hb hts inlX1 hown hK hP 3 rfl rfl 4 (by decide) (nfF_5 hN) (fun _ h9 => h9) rfl dX3_ink_12 ?_
    refine lv_iload_n hx hb dX3_ink_15 rfl (lv_at hl 1 rfl) ?_
    refine va_iald (D := D) hx hb hK hP 8 0 rfl rfl (vp_in_nI (by omega) (by omega)) dX3_ink_16 ?_
    refine topE (z := ((F 8) k)) (congrArg _ (nI_clamp (n := k) (by omega))) ?_
    refine lv_goto (tgt := 22) hx hb dX3_ink_17 (by decide) ?_
    exact retRi hx hb hr hlk dX3_ink_22 (by grind [cInk])
set_option maxHeartbeats 1000000 in
set_option maxRecDepth 100000 in
theorem c_X3_comes (l : Launch) (D : va_G) (cI cB cS : ClassId) {B : Nat → Nat} {I : Nat → Int32} {F : Nat → Nat → Int32} {n : Nat} (hn : n ≤ 6) (h3 : I 3 = nI n) (p0 p1 : Int32) : Met l yX3_comes (Wm yX3_comes cX3_comes 3 (some .int)) ({ frames := 4, cells := 0, slots := 0, locals := 96 }) (va_Pc [.ref (B 0), .int p0, .int p1] (PR D (TYS cI cB cS) (wsB B cI cS I F))) (QcV (some (.int (cComesS F (I 4) n p0 p1)))) 0 0 (fun _ => False) := by
  refine metR (by decide) [.ref (B 0), .int p0, .int p1] (Nat.le_of_ble_eq_true rfl) ?_
  intro p e s m args below meth c hx hb hml hr hlk hown hts hKK hP ls hl
  obtain ⟨hK, hN⟩ := id hKK
  have hl : lv_has ls 3 [(0, .ref (B 0)), (1, .int p0), (2, .int p1)] := hl
  refine lv_aload_n hx hb dX3_comes_0 rfl (lv_at hl 0 rfl) ?_
  refine lv_iload_n hx hb dX3_comes_1 rfl (lv_at hl 1 rfl) ?_
  refine rcVi (As := [.int p0]) (rest := []) hx hb hml hown hts hKK hP (c_X3_isLand l D cI cB cS hn h3 p0) (cwV2 1 hts kw_391 kw_3 kw_388 kw_389 kw_390 rfl rfl (by decide +kernel) ⟨Nat.le_of_ble_eq_true rfl, Nat.le_of_ble_eq_true rfl⟩) 0 rfl rfl rfl rfl hl.1 rfl (Nat.le_of_ble_eq_true rfl) ⟨Nat.zero_le _, Nat.zero_le _⟩ dX3_comes_2 ?_
  refine lv_if_ne (tgt := 11) hx hb dX3_comes_5 (by decide) (fun c_1 => ?_) (fun c_1 => ?_)
  · have c_1 := b2_nz c_1
    refine lv_iload_n hx hb dX3_comes_11 rfl (lv_at hl 2 rfl) ?_
    refine rcSi (As := [.int p1]) (rest := []) hx hb hml hown hts hKK hP (c_X3_isMinute l D cI cB cS p1) (cwS2 1 hts kw_376 kw_3 kw_374 kw_375 rfl rfl (by decide +kernel) ⟨Nat.le_of_ble_eq_true rfl, Nat.le_of_ble_eq_true rfl⟩) rfl hl.1 rfl (Nat.le_of_ble_eq_true rfl) ⟨Nat.zero_le _, Nat.zero_le _⟩ dX3_comes_12 ?_
    refine lv_if_eq (tgt := 27) hx hb dX3_comes_15 (by decide) (fun c_2 => ?_) (fun c_2 => ?_)
    · have c_2 := b2_z c_2
      refine lv_bipush (v := (-102 : Int32)) hx hb dX3_comes_27 (by decide) ?_
      exact retRi hx hb hr hlk dX3_comes_29 (by grind [cComesS])
    · have c_2 := b2_nz c_2
      refine lv_aload_n hx hb dX3_comes_18 rfl (lv_at hl 0 rfl) ?_
      refine lv_iload_n hx hb dX3_comes_19 rfl (lv_at hl 1 rfl) ?_
      refine lv_iload_n hx hb dX3_comes_20 rfl (lv_at hl 2 rfl) ?_
      refine rcVi (As := [.int p0, .int p1]) (rest := []) hx hb hml hown hts hKK hP (c_X3_comesNow l D cI cB cS hn h3 p0 p1) (cwV2 2 hts kw_407 kw_3 kw_404 kw_405 kw_406 rfl rfl (by decide +kernel) ⟨Nat.le_of_ble_eq_true rfl, Nat.le_of_ble_eq_true rfl⟩) 0 rfl rfl rfl rfl hl.1 rfl (Nat.le_of_ble_eq_true rfl) ⟨Nat.zero_le _, Nat.zero_le _⟩ dX3_comes_21 ?_
      refine topE (z := (cNow F (I 4) n p0 p1)) rfl ?_
      refine lv_goto (tgt := 29) hx hb dX3_comes_24 (by decide) ?_
      exact retRi hx hb hr hlk dX3_comes_29 (by grind [cComesS])
  · have c_1 := b2_z c_1
    refine lv_bipush (v := (-101 : Int32)) hx hb dX3_comes_8 (by decide) ?_
    exact retRi hx hb hr hlk dX3_comes_10 (by grind [cComesS])
set_option maxHeartbeats 1000000 in
set_option maxRecDepth 100000 in
theorem c_X3_evening (l : Launch) (D : va_G) (cI cB cS : ClassId) {B : Nat → Nat} {I : Nat → Int32} {F : Nat → Nat → Int32} {n : Nat} (hn : n ≤ 6) (h3 : I 3 = nI n) (p0 : Int32) : Met l yX3_evening (Wm yX3_evening cX3_evening 2 (some .int)) ({ frames := 5, cells := 0, slots := 0, locals := 121 }) (va_Pc [.ref (B 0), .int p0] (PW D (TYS cI cB cS) (wsB B cI cS I F))) (QcW D (some (.int (if okMin p0 then (if 0 < n then sumN (fun c => cNow F (I 4) n (nI c) p0) 10 else -103) else -102))) (wsB B cI cS I F) (if okMin p0 ∧ 0 < n then wsB B cI cS (upd I 5 (I 5 + 1)) (va_up F 8 (rowN (cPress F (I 4) n p0 (F 8)) (F 8) 10)) else wsB B cI cS I F)) 0 0 (FPw (wsB B cI cS I F)) := by
  refine metW (by decide) [.ref (B 0), .int p0] (Nat.le_of_ble_eq_true rfl) ?_
  intro p e s m args below meth c hx hb hml hr hlk hown hts hKK hP hD hS ls hl
  obtain ⟨hK, hN⟩ := id hKK
  have hl : lv_has ls 2 [(0, .ref (B 0)), (1, .int p0)] := hl
  refine lv_iload_n hx hb dX3_evening_0 rfl (lv_at hl 1 rfl) ?_
  refine rcSi (As := [.int p0]) (rest := []) hx hb hml hown hts hKK hP (c_X3_isMinute l D cI cB cS p0) (cwS2 1 hts kw_376 kw_3 kw_374 kw_375 rfl rfl (by decide +kernel) ⟨Nat.le_of_ble_eq_true rfl, Nat.le_of_ble_eq_true rfl⟩) rfl hl.1 rfl (Nat.le_of_ble_eq_true rfl) ⟨Nat.zero_le _, Nat.zero_le _⟩ dX3_evening_1 ?_
  refine lv_if_ne (tgt := 10) hx hb dX3_evening_4 (by decide) (fun c_1 => ?_) (fun c_1 => ?_)
  · have c_1 := b2_nz c_1
    refine lv_aload_n hx hb dX3_evening_10 rfl (lv_at hl 0 rfl) ?_
    refine rcVi (As := []) (rest := []) hx hb hml hown hts hKK hP (c_X3_hasLeaf l D cI cB cS hn h3 ) (cwV2 0 hts kw_353 kw_3 kw_350 kw_351 kw_352 rfl rfl (by decide +kernel) ⟨Nat.le_of_ble_eq_true rfl, Nat.le_of_ble_eq_true rfl⟩) 0 rfl rfl rfl rfl hl.1 rfl (Nat.le_of_ble_eq_true rfl) ⟨Nat.zero_le _, Nat.zero_le _⟩ dX3_evening_11 ?_
    refine lv_if_ne (tgt := 20) hx hb dX3_evening_14 (by decide) (fun c_2 => ?_) (fun c_2 => ?_)
    · have c_2 := b2_nz c_2
      refine lv_aload_n hx hb dX3_evening_20 rfl (lv_at hl 0 rfl) ?_
      refine va_get (D := D) (ci := 3) (v := .ref (B 3)) (C := RX3) (T := TX3) (N := 8) hx hb hts inlX3 hown hK hP 0 rfl rfl 2 (by decide) (hts _ kw_21) (fun _ h9 => h9) rfl dX3_evening_21 ?_
      refine lv_dup hx hb dX3_evening_24 rfl ?_
      refine va_getN (D := D) (ci := 1) (v := .int (I 5)) (C := RX1) (T := TX1) (N := 8) hx hb hts inlX1 hown hK hP 3 rfl rfl 2 (by decide) (nfF_3 hN) (fun _ h9 => h9) rfl dX3_evening_25 ?_
      refine lv_iconst (v := (1 : Int32)) hx hb dX3_evening_28 (by decide) ?_
      refine lv_iadd hx hb dX3_evening_29 ?_
      refine va_putN (D := D) (ci := 1) (v := .int ((I 5) + (1 : Int32))) (ty := tyX1 2) (C := RX1) (T := TX1) (N := 8) hx hb hts inlX1 tyX1 tyX1_ok nmX1 hown hK hP hD hS 3 rfl rfl 2 (by decide) (nfF_3 hN) (fun _ h9 => h9) rfl (tyX1_ok 2 (by decide)) rfl rfl (Nat.le_of_ble_eq_true rfl) dX3_evening_30 (fun H locs hP hD hS => ?_)
      have hP : va_P D vwCl (wsB B cI cS (upd I 5 ((I 5) + (1 : Int32))) F) H := hP
      have hD : va_D (FPw (wsB B cI cS I F)) (wsB B cI cS (upd I 5 ((I 5) + (1 : Int32))) F) := hD
      refine lv_aload_n hx hb dX3_evening_33 rfl (lv_at hl 0 rfl) ?_
      refine lv_aload_n hx hb dX3_evening_34 rfl (lv_at hl 0 rfl) ?_
      refine va_get (D := D) (ci := 3) (v := .ref (B 3)) (C := RX3) (T := TX3) (N := 8) hx hb hts inlX3 hown hK hP 0 rfl rfl 2 (by decide) (hts _ kw_21) (fun _ h9 => h9) rfl dX3_evening_35 ?_
      refine va_getN (D := D) (ci := 1) (v := .ref (B 8)) (C := RX1) (T := TX1) (N := 8) hx hb hts inlX1 hown hK hP 3 rfl rfl 4 (by decide) (nfF_5 hN) (fun _ h9 => h9) rfl dX3_evening_38 ?_
      refine lv_iload_n hx hb dX3_evening_41 rfl (lv_at hl 1 rfl) ?_
      refine wcVi (As := [.ref (B 8), .int p0]) (rest := []) hx hb hml hown hts hKK hP hD hS (c_X3_pressOff_8 l D cI cB cS hn (show (upd I 5 ((I 5) + (1 : Int32))) 3 = nI n from h3) p0) (cwV2 2 hts kw_419 kw_3 kw_416 kw_417 kw_418 rfl rfl (by decide +kernel) ⟨Nat.le_of_ble_eq_true rfl, Nat.le_of_ble_eq_true rfl⟩) 0 rfl rfl rfl rfl hl.1 rfl (Nat.le_of_ble_eq_true rfl) ⟨Nat.zero_le _, Nat.zero_le _⟩ dX3_evening_42 (fun H locs hP hS => ?_)
      have hP : va_P D vwCl (wsB B cI cS (upd I 5 ((I 5) + (1 : Int32))) (va_up F 8 (rowN (cPress F (I 4) n p0 (F 8)) (F 8) 10))) H := hP
      have hD : va_D (FPw (wsB B cI cS I F)) (wsB B cI cS (upd I 5 ((I 5) + (1 : Int32))) (va_up F 8 (rowN (cPress F (I 4) n p0 (F 8)) (F 8) 10))) := va_D_addr (ws := (wsB B cI cS (upd I 5 ((I 5) + (1 : Int32))) F)) rfl hD
      refine topE (z := (sumN (fun c => cNow F (I 4) n (nI c) p0) 10)) rfl ?_
      exact retWi hx hb hr hlk hP hS dX3_evening_45 (by grind) (by first | exact (if_pos (by grind)).symm | exact (if_neg (by grind)).symm)
    · have c_2 := b2_z c_2
      refine lv_bipush (v := (-103 : Int32)) hx hb dX3_evening_17 (by decide) ?_
      exact retWi hx hb hr hlk hP hS dX3_evening_19 (by grind) (by first | exact (if_pos (by grind)).symm | exact (if_neg (by grind)).symm)
  · have c_1 := b2_z c_1
    refine lv_bipush (v := (-102 : Int32)) hx hb dX3_evening_7 (by decide) ?_
    exact retWi hx hb hr hlk hP hS dX3_evening_9 (by grind) (by first | exact (if_pos (by grind)).symm | exact (if_neg (by grind)).symm)
set_option maxHeartbeats 1000000 in
set_option maxRecDepth 100000 in
theorem c_X3_hills (l : Launch) (D : va_G) (cI cB cS : ClassId) {B : Nat → Nat} {I : Nat → Int32} {F : Nat → Nat → Int32} {n : Nat} (hn : n ≤ 6) (h3 : I 3 = nI n) (p0 : Int32) : Met l yX3_hills (Wm yX3_hills cX3_hills 6 (some .int)) ({ frames := 1, cells := 0, slots := 0, locals := 20 }) (va_Pc [.ref (B 0), .int p0] (PR D (TYS cI cB cS) (wsB B cI cS I F))) (QcV (some (.int (cHills (F 8) n p0)))) 0 0 (fun _ => False) := by
  refine metR (by decide) [.ref (B 0), .int p0] (Nat.le_of_ble_eq_true rfl) ?_
  intro p e s m args below meth c hx hb hml hr hlk hown hts hKK hP ls hl
  obtain ⟨hK, hN⟩ := id hKK
  have hl : lv_has ls 6 [(0, .ref (B 0)), (1, .int p0)] := hl
  refine lv_iload_n hx hb dX3_hills_0 rfl (lv_at hl 1 rfl) ?_
  refine lv_iconst (v := (1 : Int32)) hx hb dX3_hills_1 (by decide) ?_
  refine lv_icmp_lt (tgt := 11) hx hb dX3_hills_2 (by decide) (fun c_1 => ?_) (fun c_1 => ?_)
  · refine lv_bipush (v := (-102 : Int32)) hx hb dX3_hills_11 (by decide) ?_
    exact retRi hx hb hr hlk dX3_hills_13 (by grind [cHills])
  · refine lv_iload_n hx hb dX3_hills_5 rfl (lv_at hl 1 rfl) ?_
    refine lv_bipush (v := (99 : Int32)) hx hb dX3_hills_6 (by decide) ?_
    refine lv_icmp_le (tgt := 14) hx hb dX3_hills_8 (by decide) (fun c_2 => ?_) (fun c_2 => ?_)
    · refine lv_aload_n hx hb dX3_hills_14 rfl (lv_at hl 0 rfl) ?_
      refine rcVi (As := []) (rest := []) hx hb hml hown hts hKK hP (c_X3_hasLeaf l D cI cB cS hn h3 ) (cwV2 0 hts kw_353 kw_3 kw_350 kw_351 kw_352 rfl rfl (by decide +kernel) ⟨Nat.le_of_ble_eq_true rfl, Nat.le_of_ble_eq_true rfl⟩) 0 rfl rfl rfl rfl hl.1 rfl (Nat.le_of_ble_eq_true rfl) ⟨Nat.zero_le _, Nat.zero_le _⟩ dX3_hills_15 ?_
      refine lv_if_ne (tgt := 24) hx hb dX3_hills_18 (by decide) (fun c_3 => ?_) (fun c_3 => ?_)
      · have c_3 := b2_nz c_3
        refine lv_iconst (v := (0 : Int32)) hx hb dX3_hills_24 (by decide) ?_
        refine lv_istore_n (lv' := [(2, .int (0 : Int32)), (0, .ref (B 0)), (1, .int p0)]) hx hb dX3_hills_25 rfl hl (by decide) rfl (fun ls hl => ?_)
        refine lv_iconst (v := (0 : Int32)) hx hb dX3_hills_26 (by decide) ?_
        refine lv_istore_n (lv' := [(3, .int (0 : Int32)), (2, .int (0 : Int32)), (0, .ref (B 0)), (1, .int p0)]) hx hb dX3_hills_27 rfl hl (by decide) rfl (fun ls hl => ?_)
        refine lv_iconst (v := (0 : Int32)) hx hb dX3_hills_28 (by decide) ?_
        refine lv_istore (lv' := [(4, .int (0 : Int32)), (3, .int (0 : Int32)), (2, .int (0 : Int32)), (0, .ref (B 0)), (1, .int p0)]) hx hb dX3_hills_29 hl (by decide) rfl (fun ls hl => ?_)
        have loop_31 : ∀ (z : Nat) (k : Nat) (x2 : Int32) (x3 : Int32) (x4 : Int32), x2 = cHillN (F 8) p0 k → x3 = cIn (F 8) p0 k → x4 = nI k → (k ≤ 10) → 10 - k < z → ∀ (ls : Array Slot), lv_has ls 6 [(0, .ref (B 0)), (1, .int p0), (2, .int x2), (3, .int x3), (4, .int x4)] → W p l e ({ frames := 1, cells := 0, slots := 0, locals := 20 } : Room) s m args below meth c s.heap [] 0 0 (MQ below (QcV (some (.int (cHills (F 8) n p0)))) args s 0 0 (fun _ => False)) (F0 m 31 ls []) := by
          intro z
          induction z with
          | zero =>
            intro k x2 x3 x4 ex2 ex3 ex4 hk hz
            exact absurd hz (Nat.not_lt_zero _)
          | succ z ih_31 =>
            intro k x2 x3 x4 ex2 ex3 ex4 hk hz ls hl
            subst ex2
            subst ex3
            subst ex4
            refine lv_iload hx hb dX3_hills_31 (lv_at hl 4 rfl) ?_
            refine lv_bipush (v := (10 : Int32)) hx hb dX3_hills_33 (by decide) ?_
            refine lv_icmp_ge (tgt := 80) hx hb dX3_hills_35 (by decide) (fun c_4 => ?_) (fun c_4 => ?_)
            · have nc_4 : 10 ≤ k := (nI_leI (a := 10) (b := k) (by omega) (by omega)).mp c_4
              refine lv_iload_n hx hb dX3_hills_80 rfl (lv_at hl 2 rfl) ?_
              exact retRi hx hb hr hlk dX3_hills_81 (by have hkn : k = 10 := (by omega); subst hkn; grind [cHills])
            · have nc_4 : ¬ 10 ≤ k := fun h => c_4 ((nI_leI (a := 10) (b := k) (by omega) (by omega)).mpr h)
              refine lv_aload_n hx hb dX3_hills_38 rfl (lv_at hl 0 rfl) ?_
              refine va_get (D := D) (ci := 3) (v := .ref (B 3)) (C := RX3) (T := TX3) (N := 8) hx hb hts inlX3 hown hK hP 0 rfl rfl 2 (by decide) (hts _ kw_21) (fun _ h9 => h9) rfl dX3_hills_39 ?_
              refine va_getN (D := D) (ci := 1) (v := .ref (B 8)) (C := RX1) (T := TX1) (N := 8) hx hb hts inlX1 hown hK hP 3 rfl rfl 4 (by decide) (nfF_5 hN) (fun _ h9 => h9) rfl dX3_hills_42 ?_
              refine lv_iload hx hb dX3_hills_45 (lv_at hl 4 rfl) ?_
              refine va_iald (D := D) hx hb hK hP 8 0 rfl rfl (vp_in_nI (by omega) (by omega)) dX3_hills_47 ?_
              refine topE (z := ((F 8) k)) (congrArg _ (nI_clamp (n := k) (by omega))) ?_
              refine lv_iload_n hx hb dX3_hills_48 rfl (lv_at hl 1 rfl) ?_
              refine lv_icmp_lt (tgt := 56) hx hb dX3_hills_49 (by decide) (fun c_5 => ?_) (fun c_5 => ?_)
              · refine lv_iconst (v := (0 : Int32)) hx hb dX3_hills_56 (by decide) ?_
                refine lv_istore (lv' := [(5, .int (0 : Int32)), (0, .ref (B 0)), (1, .int p0), (2, .int (cHillN (F 8) p0 k)), (3, .int (cIn (F 8) p0 k)), (4, .int (nI k))]) hx hb dX3_hills_57 hl (by decide) rfl (fun ls hl => ?_)
                refine lv_iload hx hb dX3_hills_59 (lv_at hl 0 rfl) ?_
                refine lv_if_eq (tgt := 71) hx hb dX3_hills_61 (by decide) (fun c_6 => ?_) (fun c_6 => ?_)
                · refine lv_iload hx hb dX3_hills_71 (lv_at hl 0 rfl) ?_
                  refine lv_istore_n (lv' := [(3, .int (0 : Int32)), (5, .int (0 : Int32)), (0, .ref (B 0)), (1, .int p0), (2, .int (cHillN (F 8) p0 k)), (4, .int (nI k))]) hx hb dX3_hills_73 rfl hl (by decide) rfl (fun ls hl => ?_)
                  refine lv_iinc (v := (nI (k + 1))) (lv' := [(4, .int (nI (k + 1))), (3, .int (0 : Int32)), (5, .int (0 : Int32)), (0, .ref (B 0)), (1, .int p0), (2, .int (cHillN (F 8) p0 k))]) hx hb dX3_hills_74 hl (k := 5) rfl (nI_add k 1) (by decide) rfl (fun ls hl => ?_)
                  refine lv_goto (tgt := 31) hx hb dX3_hills_77 (by decide) ?_
                  exact ih_31 (k + 1) (cHillN (F 8) p0 k) (0 : Int32) (nI (k + 1)) (by grind [cHillN]) (by grind [cIn, b2]) rfl (by omega) (by omega) ls (lv_sub hl [3, 4, 5, 1, 0] rfl)
                · exact absurd c_6 (by decide)
              · refine lv_iconst (v := (1 : Int32)) hx hb dX3_hills_52 (by decide) ?_
                refine lv_goto (tgt := 57) hx hb dX3_hills_53 (by decide) ?_
                refine lv_istore (lv' := [(5, .int (1 : Int32)), (0, .ref (B 0)), (1, .int p0), (2, .int (cHillN (F 8) p0 k)), (3, .int (cIn (F 8) p0 k)), (4, .int (nI k))]) hx hb dX3_hills_57 hl (by decide) rfl (fun ls hl => ?_)
                refine lv_iload hx hb dX3_hills_59 (lv_at hl 0 rfl) ?_
                refine lv_if_eq (tgt := 71) hx hb dX3_hills_61 (by decide) (fun c_7 => ?_) (fun c_7 => ?_)
                · exact absurd c_7 (by decide)
                · refine lv_iload_n hx hb dX3_hills_64 rfl (lv_at hl 4 rfl) ?_
                  refine lv_if_ne (tgt := 71) hx hb dX3_hills_65 (by decide) (fun c_8 => ?_) (fun c_8 => ?_)
                  · refine lv_iload hx hb dX3_hills_71 (lv_at hl 0 rfl) ?_
                    refine lv_istore_n (lv' := [(3, .int (1 : Int32)), (5, .int (1 : Int32)), (0, .ref (B 0)), (1, .int p0), (2, .int (cHillN (F 8) p0 k)), (4, .int (nI k))]) hx hb dX3_hills_73 rfl hl (by decide) rfl (fun ls hl => ?_)
                    refine lv_iinc (v := (nI (k + 1))) (lv' := [(4, .int (nI (k + 1))), (3, .int (1 : Int32)), (5, .int (1 : Int32)), (0, .ref (B 0)), (1, .int p0), (2, .int (cHillN (F 8) p0 k))]) hx hb dX3_hills_74 hl (k := 5) rfl (nI_add k 1) (by decide) rfl (fun ls hl => ?_)
                    refine lv_goto (tgt := 31) hx hb dX3_hills_77 (by decide) ?_
                    exact ih_31 (k + 1) (cHillN (F 8) p0 k) (1 : Int32) (nI (k + 1)) (by grind [cHillN]) (by grind [cIn, b2]) rfl (by omega) (by omega) ls (lv_sub hl [3, 4, 5, 1, 0] rfl)
                  · refine lv_iinc (v := (cHillN (F 8) p0 k + (1 : Int32))) (lv' := [(2, .int (cHillN (F 8) p0 k + (1 : Int32))), (5, .int (1 : Int32)), (0, .ref (B 0)), (1, .int p0), (3, .int (cIn (F 8) p0 k)), (4, .int (nI k))]) hx hb dX3_hills_68 hl (k := 3) rfl rfl (by decide) rfl (fun ls hl => ?_)
                    refine lv_iload hx hb dX3_hills_71 (lv_at hl 1 rfl) ?_
                    refine lv_istore_n (lv' := [(3, .int (1 : Int32)), (2, .int (cHillN (F 8) p0 k + (1 : Int32))), (5, .int (1 : Int32)), (0, .ref (B 0)), (1, .int p0), (4, .int (nI k))]) hx hb dX3_hills_73 rfl hl (by decide) rfl (fun ls hl => ?_)
                    refine lv_iinc (v := (nI (k + 1))) (lv' := [(4, .int (nI (k + 1))), (3, .int (1 : Int32)), (2, .int (cHillN (F 8) p0 k + (1 : Int32))), (5, .int (1 : Int32)), (0, .ref (B 0)), (1, .int p0)]) hx hb dX3_hills_74 hl (k := 5) rfl (nI_add k 1) (by decide) rfl (fun ls hl => ?_)
                    refine lv_goto (tgt := 31) hx hb dX3_hills_77 (by decide) ?_
                    exact ih_31 (k + 1) (cHillN (F 8) p0 k + (1 : Int32)) (1 : Int32) (nI (k + 1)) (by grind [cHillN]) (by grind [cIn, b2]) rfl (by omega) (by omega) ls (lv_sub hl [4, 5, 2, 1, 0] rfl)
        exact loop_31 ((10 - 0) + 1) 0 (0 : Int32) (0 : Int32) (0 : Int32) rfl rfl rfl (by omega) (by omega) ls (lv_sub hl [3, 4, 2, 1, 0] rfl)
      · have c_3 := b2_z c_3
        refine lv_bipush (v := (-103 : Int32)) hx hb dX3_hills_21 (by decide) ?_
        exact retRi hx hb hr hlk dX3_hills_23 (by grind [cHills])
    · refine lv_bipush (v := (-102 : Int32)) hx hb dX3_hills_11 (by decide) ?_
      exact retRi hx hb hr hlk dX3_hills_13 (by grind [cHills])
set_option maxHeartbeats 1000000 in
set_option maxRecDepth 100000 in
theorem c_X3_close (l : Launch) (D : va_G) (cI cB cS : ClassId) {B : Nat → Nat} {I : Nat → Int32} {F : Nat → Nat → Int32} {n : Nat} (hn : n ≤ 6) (h3 : I 3 = nI n) (p0 p1 : Int32) : Met l yX3_close (Wm yX3_close cX3_close 4 (some .int)) ({ frames := 4, cells := 0, slots := 0, locals := 96 }) (va_Pc [.ref (B 0), .int p0, .int p1] (PR D (TYS cI cB cS) (wsB B cI cS I F))) (QcV (some (.int (cClose F (I 4) n p0 p1)))) 0 0 (fun _ => False) := by
  refine metR (by decide) [.ref (B 0), .int p0, .int p1] (Nat.le_of_ble_eq_true rfl) ?_
  intro p e s m args below meth c hx hb hml hr hlk hown hts hKK hP ls hl
  obtain ⟨hK, hN⟩ := id hKK
  have hl : lv_has ls 4 [(0, .ref (B 0)), (1, .int p0), (2, .int p1)] := hl
  refine lv_aload_n hx hb dX3_close_0 rfl (lv_at hl 0 rfl) ?_
  refine lv_iload_n hx hb dX3_close_1 rfl (lv_at hl 1 rfl) ?_
  refine rcVi (As := [.int p0]) (rest := []) hx hb hml hown hts hKK hP (c_X3_isLand l D cI cB cS hn h3 p0) (cwV2 1 hts kw_391 kw_3 kw_388 kw_389 kw_390 rfl rfl (by decide +kernel) ⟨Nat.le_of_ble_eq_true rfl, Nat.le_of_ble_eq_true rfl⟩) 0 rfl rfl rfl rfl hl.1 rfl (Nat.le_of_ble_eq_true rfl) ⟨Nat.zero_le _, Nat.zero_le _⟩ dX3_close_2 ?_
  refine lv_if_ne (tgt := 11) hx hb dX3_close_5 (by decide) (fun c_1 => ?_) (fun c_1 => ?_)
  · have c_1 := b2_nz c_1
    refine lv_iload_n hx hb dX3_close_11 rfl (lv_at hl 2 rfl) ?_
    refine rcSi (As := [.int p1]) (rest := []) hx hb hml hown hts hKK hP (c_X3_isMuch l D cI cB cS p1) (cwS2 1 hts kw_447 kw_3 kw_445 kw_446 rfl rfl (by decide +kernel) ⟨Nat.le_of_ble_eq_true rfl, Nat.le_of_ble_eq_true rfl⟩) rfl hl.1 rfl (Nat.le_of_ble_eq_true rfl) ⟨Nat.zero_le _, Nat.zero_le _⟩ dX3_close_12 ?_
    refine lv_if_ne (tgt := 21) hx hb dX3_close_15 (by decide) (fun c_2 => ?_) (fun c_2 => ?_)
    · have c_2 := b2_nz c_2
      refine lv_iconst (v := (0 : Int32)) hx hb dX3_close_21 (by decide) ?_
      refine lv_istore_n (lv' := [(3, .int (0 : Int32)), (0, .ref (B 0)), (1, .int p0), (2, .int p1)]) hx hb dX3_close_22 rfl hl (by decide) rfl (fun ls hl => ?_)
      have loop_23 : ∀ (z : Nat) (k : Nat) (x3 : Int32), x3 = nI k → (k ≤ 21) → (cFirst (fun k => cNow F (I 4) n p0 (nI k)) p1 (21 - k) k = cFirst (fun k => cNow F (I 4) n p0 (nI k)) p1 21 0) → 21 - k < z → ∀ (ls : Array Slot), lv_has ls 4 [(0, .ref (B 0)), (1, .int p0), (2, .int p1), (3, .int x3)] → W p l e ({ frames := 4, cells := 0, slots := 0, locals := 96 } : Room) s m args below meth c s.heap [] 0 0 (MQ below (QcV (some (.int (cClose F (I 4) n p0 p1)))) args s 0 0 (fun _ => False)) (F0 m 23 ls []) := by
        intro z
        induction z with
        | zero =>
          intro k x3 ex3 hk hF hz
          exact absurd hz (Nat.not_lt_zero _)
        | succ z ih_23 =>
          intro k x3 ex3 hk hF hz ls hl
          subst ex3
          refine lv_iload_n hx hb dX3_close_23 rfl (lv_at hl 3 rfl) ?_
          refine lv_bipush (v := (20 : Int32)) hx hb dX3_close_24 (by decide) ?_
          refine lv_icmp_gt (tgt := 47) hx hb dX3_close_26 (by decide) (fun c_3 => ?_) (fun c_3 => ?_)
          · have nc_3 : 20 < k := (nI_ltI (a := 20) (b := k) (by omega) (by omega)).mp c_3
            refine lv_iconst (v := (-1 : Int32)) hx hb dX3_close_47 (by decide) ?_
            exact retRi hx hb hr hlk dX3_close_48 (by have hkn : k = 21 := (by omega); subst hkn; have hq : (-1 : Int32) = _ := hF; rw [hq]; grind [cClose])
          · have nc_3 : ¬ 20 < k := fun h => c_3 ((nI_ltI (a := 20) (b := k) (by omega) (by omega)).mpr h)
            refine lv_aload_n hx hb dX3_close_29 rfl (lv_at hl 0 rfl) ?_
            refine lv_iload_n hx hb dX3_close_30 rfl (lv_at hl 1 rfl) ?_
            refine lv_iload_n hx hb dX3_close_31 rfl (lv_at hl 3 rfl) ?_
            refine rcVi (As := [.int p0, .int (nI k)]) (rest := []) hx hb hml hown hts hKK hP (c_X3_comesNow l D cI cB cS hn h3 p0 (nI k)) (cwV2 2 hts kw_407 kw_3 kw_404 kw_405 kw_406 rfl rfl (by decide +kernel) ⟨Nat.le_of_ble_eq_true rfl, Nat.le_of_ble_eq_true rfl⟩) 0 rfl rfl rfl rfl hl.1 rfl (Nat.le_of_ble_eq_true rfl) ⟨Nat.zero_le _, Nat.zero_le _⟩ dX3_close_32 ?_
            refine topE (z := (cNow F (I 4) n p0 (nI k))) rfl ?_
            refine lv_iload_n hx hb dX3_close_35 rfl (lv_at hl 2 rfl) ?_
            refine lv_icmp_ne (tgt := 41) hx hb dX3_close_36 (by decide) (fun c_4 => ?_) (fun c_4 => ?_)
            · refine lv_iinc (v := (nI (k + 1))) (lv' := [(3, .int (nI (k + 1))), (0, .ref (B 0)), (1, .int p0), (2, .int p1)]) hx hb dX3_close_41 hl (k := 3) rfl (nI_add k 1) (by decide) rfl (fun ls hl => ?_)
              refine lv_goto (tgt := 23) hx hb dX3_close_44 (by decide) ?_
              exact ih_23 (k + 1) (nI (k + 1)) rfl (by omega) (by exact (cFirst_step (by omega) hF).2 (by assumption)) (by omega) ls (lv_sub hl [1, 2, 3, 0] rfl)
            · refine lv_iload_n hx hb dX3_close_39 rfl (lv_at hl 3 rfl) ?_
              exact retRi hx hb hr hlk dX3_close_40 (by rw [(cFirst_step (by omega) hF).1 (by assumption)]; grind [cClose])
      exact loop_23 ((21 - 0) + 1) 0 (0 : Int32) rfl (by omega) (by rfl) (by omega) ls (lv_sub hl [1, 2, 3, 0] rfl)
    · have c_2 := b2_z c_2
      refine lv_bipush (v := (-102 : Int32)) hx hb dX3_close_18 (by decide) ?_
      exact retRi hx hb hr hlk dX3_close_20 (by grind [cClose])
  · have c_1 := b2_z c_1
    refine lv_bipush (v := (-101 : Int32)) hx hb dX3_close_8 (by decide) ?_
    exact retRi hx hb hr hlk dX3_close_10 (by grind [cClose])
