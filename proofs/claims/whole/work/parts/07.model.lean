/-! the reference: what its methods answer, in its own words -/
theorem b2_congr {P Q : Prop} [Decidable P] [Decidable Q] (h : P ↔ Q) : b2 P = b2 Q := by
  unfold b2
  by_cases hp : P
  · rw [if_pos hp, if_pos (h.mp hp)]
  · rw [if_neg hp, if_neg (fun q => hp (h.mpr q))]
theorem okCell_iff {x : Int32} : (¬ x < 0 ∧ ¬ (9 : Int32) < x) ↔ okCell x := by
  simp only [okCell, Int32.lt_iff_toInt_lt, Int32.le_iff_toInt_le]
  have e1 : (9 : Int32).toInt = 9 := rfl
  have e2 : (10 : Int32).toInt = 10 := rfl
  rw [e1, e2]
  omega
theorem okS_iff {n : Nat} {x : Int32} (hn : n ≤ 6) : (¬ x < 0 ∧ ¬ nI n - 1 < x) ↔ okS n x := by
  have e0 : (0 : Int32).toInt = 0 := rfl
  have e1 : (nI n).toInt = n := nI_toInt (by omega)
  have e2 : (nI n - 1).toInt = (n : Int) - 1 := by
    match n, hn with
    | 0, _ => decide
    | 1, _ => decide
    | 2, _ => decide
    | 3, _ => decide
    | 4, _ => decide
    | 5, _ => decide
    | 6, _ => decide
    | n + 7, h => omega
  simp only [okS, Int32.lt_iff_toInt_lt, Int32.le_iff_toInt_le]
  rw [e0, e1, e2]
  omega
theorem upd_upd {f : Nat → Int32} {k : Nat} {a b : Int32} : upd (upd f k a) k b = upd f k b := by
  funext c
  unfold upd
  split <;> rfl
theorem upd_self {f : Nat → Int32} {k : Nat} : upd f k (f k) = f := by
  funext c
  unfold upd
  split
  · rename_i h; rw [h]
  · rfl
def mFl (x : Int32) : Int32 := if 0 ≤ x then x else 0
def mWet (F : Nat → Nat → Int32) (sd : Int32) (k : Nat) (minute : Int32) : Int32 :=
  if minute - nI k < 0 then 0 else if bitOn sd (nI k) then 0
  else if F 2 k = 2 then mFl (F 5 k - (minute - nI k) / 2) else if F 2 k = 3 then mFl (F 5 k - 3 * (minute - nI k)) else if F 2 k = 4 then mFl (F 5 k + (3 - (minute - nI k))) else mFl (F 5 k - (minute - nI k))
def mOf (F : Nat → Nat → Int32) (sd : Int32) (k : Nat) (c minute : Int32) : Int32 :=
  if ¬ c < F 3 k ∧ ¬ F 3 k + F 4 k - 1 < c then mWet F sd k minute
  else if (F 2 k = 1 ∨ F 2 k = 4) ∧ (c = F 3 k - 1 ∨ c = F 3 k + F 4 k) then mWet F sd k minute / 2 else 0
def mTo (F : Nat → Nat → Int32) (sd : Int32) (n : Nat) (cell minute : Int32) : Int32 := sumN (fun k => mOf F sd k (9 - cell) minute) n
def mSize (x : Int32) : Int32 := sumN (fun k => (x >>> (nI k &&& 31)) &&& 1) 6
def mKind (c : Int32) : Int32 := if c = 98 then 1 else if c = 102 then 3 else if c = 113 then 2 else if c = 115 then 0 else if c = 116 then 4 else -1
def mLong (a b : Int32) : Int32 := if a + b ≤ 10 then b else 10 - a
abbrev mGood (f : Nat → Int32) (k : Nat) : Prop :=
  if k % 5 = 0 then ¬ mKind (f k) = -1 else if k % 5 = 1 then ¬ f k - 48 < 0 ∧ ¬ (9 : Int32) < f k - 48 else if k % 5 = 2 then ¬ f k - 48 < 1 ∧ ¬ (5 : Int32) < f k - 48
  else if k % 5 = 3 then ¬ f k - 48 < 1 ∧ ¬ (9 : Int32) < f k - 48 else f k = 44 ∧ k < 19
/-- the first place below sz, from k on, where P fails -/
def fltN (P : Nat → Prop) [DecidablePred P] : Nat → Nat → Nat
  | 0, k => k
  | z + 1, k => if P k then fltN P z (k + 1) else k
theorem fltN_step {P : Nat → Prop} [DecidablePred P] {sz k r : Nat} (hk : k < sz) (h : fltN P (sz - k) k = r) : (P k → fltN P (sz - (k + 1)) (k + 1) = r) ∧ (¬ P k → k = r) := by
  rw [show sz - k = sz - (k + 1) + 1 by omega, fltN] at h
  exact ⟨fun e => by rw [if_pos e] at h; exact h, fun e => by rw [if_neg e] at h; exact h⟩
def mHx (a : Int32) : Nat → Int32
  | 0 => a
  | v + 1 => nI (v + 1)
def mBits (P : Nat → Prop) [DecidablePred P] : Nat → Int32
  | 0 => 0
  | v + 1 => if P v then mBits P v ||| (1 <<< ((nI (v + 1) - 1) &&& 31)) else mBits P v ||| 0
abbrev mP5 (F : Nat → Nat → Int32) (k : Nat) (x : Int32) : Nat → Nat → Int32 := va_up F 5 (upd (F 5) k x)
abbrev mAllF (F : Nat → Nat → Int32) (sd : Int32) (n fd : Nat) : Prop := ∀ i, i < fd → mTo F sd n (F 10 i) (F 11 i) = F 12 i
def mHeavy (F : Nat → Nat → Int32) (sd : Int32) (n fd k : Nat) : Int32 := mBits (fun v => mAllF (mP5 F k (nI (v + 1))) sd n fd) 9
def mStroke (F : Nat → Nat → Int32) (sd : Int32) (n fd k : Nat) (what : Int32) : Int32 :=
  if what = 0 then F 2 k else if what = 1 then F 3 k else if what = 2 then F 4 k else if what = 3 then F 5 k else if what = 4 then (sd >>> (nI k &&& 31)) &&& 1 else mHeavy F sd n fd k
def mAbout (F : Nat → Nat → Int32) (sd : Int32) (n fd : Nat) (p0 p1 : Int32) : Int32 :=
  if okS n p0 then (if ¬ p1 < 0 ∧ ¬ (5 : Int32) < p1 then mStroke F sd n fd p0.toNatClampNeg p1 else -102) else -101
def mAs (F : Nat → Nat → Int32) (n : Nat) (p0 p1 : Int32) : Int32 :=
  if okS n p0 then (if okKind p1 then (if p1 = 0 ∨ F 2 p0.toNatClampNeg = p1 ∨ (p1 = 1 ∧ F 2 p0.toNatClampNeg = 4) then p0 else -1) else -102) else -101
def mWetS (F : Nat → Nat → Int32) (sd : Int32) (n : Nat) (p0 p1 : Int32) : Int32 := if okS n p0 then (if okMin p1 then mWet F sd p0.toNatClampNeg p1 else -102) else -101
def mComesS (F : Nat → Nat → Int32) (sd : Int32) (n : Nat) (p0 p1 : Int32) : Int32 := if 0 < n ∧ okCell p0 then (if okMin p1 then mTo F sd n p0 p1 else -102) else -101
abbrev mPress (F : Nat → Nat → Int32) (sd : Int32) (n : Nat) (minute : Int32) (f : Nat → Int32) (c : Nat) : Int32 := if f c + mTo F sd n (nI c) minute ≤ 99 then f c + mTo F sd n (nI c) minute else 99
def mHillN (f : Nat → Int32) (much : Int32) : Nat → Int32
  | 0 => 0
  | c + 1 => mHillN f much c + (if ¬ f c < much ∧ (c = 0 ∨ f (c - 1) < much) then 1 else 0)
def mHills (f : Nat → Int32) (n : Nat) (p0 : Int32) : Int32 := if ¬ p0 < 1 ∧ ¬ (99 : Int32) < p0 then (if 0 < n then mHillN f p0 10 else -103) else -102
def mClose (F : Nat → Nat → Int32) (sd : Int32) (n : Nat) (p0 p1 : Int32) : Int32 := if 0 < n ∧ okCell p0 then (if okMuch p1 then cFirst (fun k => mTo F sd n p0 (nI k)) p1 21 0 else -102) else -101
abbrev mDryAt (F : Nat → Nat → Int32) (sd : Int32) (n : Nat) (minute cells : Int32) : Prop := ∀ c, c < 10 → ¬ bitOn cells (nI c) ∨ mTo F sd n (nI c) minute = 0
def mWs (w : Int32) : Nat → Int32
  | 0 => w
  | s + 1 => w ||| nI s
def mSandB (F : Nat → Nat → Int32) (were : Int32) (n : Nat) (minute cells : Int32) : Nat → Int32
  | 0 => -1
  | s + 1 => if (nI s &&& were = 0 ∧ (mSandB F were n minute cells s = -1 ∨ mSize (nI s) < mSize (mSandB F were n minute cells s))) ∧ mDryAt F (were ||| nI s) n minute cells then nI s else mSandB F were n minute cells s
def mSand (F : Nat → Nat → Int32) (were : Int32) (n : Nat) (minute cells what : Int32) : Int32 := if what = 1 then mSandB F were n minute cells (2 ^ n) else mSize (mSandB F were n minute cells (2 ^ n))
theorem shl_n {n : Nat} (hn : n ≤ 6) : (1 : Int32) <<< (nI n &&& 31) = nI (2 ^ n) := by
  match n, hn with
  | 0, _ => decide
  | 1, _ => decide
  | 2, _ => decide
  | 3, _ => decide
  | 4, _ => decide
  | 5, _ => decide
  | 6, _ => decide
  | n + 7, h => omega
theorem two_n {n : Nat} (hn : n ≤ 6) : 2 ^ n ≤ 64 := Nat.le_trans (Nat.pow_le_pow_right (by decide) hn) (by decide)
def mToSand (F : Nat → Nat → Int32) (sd : Int32) (n : Nat) (p0 p1 p2 : Int32) : Int32 :=
  if okMin p0 ∧ (¬ p1 < 0 ∧ ¬ (1023 : Int32) < p1) ∧ (¬ p2 < 0 ∧ ¬ (1 : Int32) < p2) then (if 0 < n then mSand F sd n p0 p1 p2 else -103) else -102
def mDryN (f : Nat → Int32) (n : Nat) : Int32 := if 0 < n then sumN (fun c => if f c = 0 then 1 else 0) 10 else 0
set_option maxHeartbeats 1000000 in
set_option maxRecDepth 100000 in
theorem c_X4_within (l : Launch) (D : va_G) (cI cB cS : ClassId) {ws : va_W} (p0 p1 p2 : Int32) : Met l yX4_within (Wm yX4_within cX4_within 3 (some .boolean)) ({ frames := 0, cells := 0, slots := 0, locals := 0 }) (va_Pc [.int p0, .int p1, .int p2] (PR D (TYS cI cB cS) ws)) (QcV (some (.int (b2 (¬ p0 < p1 ∧ ¬ p2 < p0))))) 0 0 (fun _ => False) := by
  refine metR (by decide) [.int p0, .int p1, .int p2] (Nat.le_of_ble_eq_true rfl) ?_
  intro p e s m args below meth c hx hb hml hr hlk hown hts hKK hP ls hl
  obtain ⟨hK, hN⟩ := id hKK
  have hl : lv_has ls 3 [(0, .int p0), (1, .int p1), (2, .int p2)] := hl
  refine lv_iload_n hx hb dX4_within_0 rfl (lv_at hl 0 rfl) ?_
  refine lv_iload_n hx hb dX4_within_1 rfl (lv_at hl 1 rfl) ?_
  refine lv_icmp_lt (tgt := 14) hx hb dX4_within_2 (by decide) (fun c_1 => ?_) (fun c_1 => ?_)
  · refine lv_iconst (v := (0 : Int32)) hx hb dX4_within_14 (by decide) ?_
    exact retRz hx hb hr hlk dX4_within_15 (by grind [b2])
  · refine lv_iload_n hx hb dX4_within_5 rfl (lv_at hl 0 rfl) ?_
    refine lv_iload_n hx hb dX4_within_6 rfl (lv_at hl 2 rfl) ?_
    refine lv_icmp_gt (tgt := 14) hx hb dX4_within_7 (by decide) (fun c_2 => ?_) (fun c_2 => ?_)
    · refine lv_iconst (v := (0 : Int32)) hx hb dX4_within_14 (by decide) ?_
      exact retRz hx hb hr hlk dX4_within_15 (by grind [b2])
    · refine lv_iconst (v := (1 : Int32)) hx hb dX4_within_10 (by decide) ?_
      refine lv_goto (tgt := 15) hx hb dX4_within_11 (by decide) ?_
      exact retRz hx hb hr hlk dX4_within_15 (by grind [b2])
set_option maxHeartbeats 1000000 in
set_option maxRecDepth 100000 in
theorem c_X4_isIn (l : Launch) (D : va_G) (cI cB cS : ClassId) {ws : va_W} (p0 p1 : Int32) : Met l yX4_isIn (Wm yX4_isIn cX4_isIn 2 (some .boolean)) ({ frames := 0, cells := 0, slots := 0, locals := 0 }) (va_Pc [.int p0, .int p1] (PR D (TYS cI cB cS) ws)) (QcV (some (.int (b2 (bitOn p0 p1))))) 0 0 (fun _ => False) := by
  refine metR (by decide) [.int p0, .int p1] (Nat.le_of_ble_eq_true rfl) ?_
  intro p e s m args below meth c hx hb hml hr hlk hown hts hKK hP ls hl
  obtain ⟨hK, hN⟩ := id hKK
  have hl : lv_has ls 2 [(0, .int p0), (1, .int p1)] := hl
  refine lv_iload_n hx hb dX4_isIn_0 rfl (lv_at hl 0 rfl) ?_
  refine lv_iload_n hx hb dX4_isIn_1 rfl (lv_at hl 1 rfl) ?_
  refine lv_ishr hx hb dX4_isIn_2 ?_
  refine lv_iconst (v := (1 : Int32)) hx hb dX4_isIn_3 (by decide) ?_
  refine lv_iand hx hb dX4_isIn_4 ?_
  refine lv_iconst (v := (1 : Int32)) hx hb dX4_isIn_5 (by decide) ?_
  refine lv_icmp_ne (tgt := 13) hx hb dX4_isIn_6 (by decide) (fun c_1 => ?_) (fun c_1 => ?_)
  · refine lv_iconst (v := (0 : Int32)) hx hb dX4_isIn_13 (by decide) ?_
    exact retRz hx hb hr hlk dX4_isIn_14 (by grind [b2])
  · refine lv_iconst (v := (1 : Int32)) hx hb dX4_isIn_9 (by decide) ?_
    refine lv_goto (tgt := 14) hx hb dX4_isIn_10 (by decide) ?_
    exact retRz hx hb hr hlk dX4_isIn_14 (by grind [b2])
set_option maxHeartbeats 1000000 in
set_option maxRecDepth 100000 in
theorem c_X4_size (l : Launch) (D : va_G) (cI cB cS : ClassId) {ws : va_W} (p0 : Int32) : Met l yX4_size (Wm yX4_size cX4_size 3 (some .int)) ({ frames := 0, cells := 0, slots := 0, locals := 0 }) (va_Pc [.int p0] (PR D (TYS cI cB cS) ws)) (QcV (some (.int (mSize p0)))) 0 0 (fun _ => False) := by
  refine metR (by decide) [.int p0] (Nat.le_of_ble_eq_true rfl) ?_
  intro p e s m args below meth c hx hb hml hr hlk hown hts hKK hP ls hl
  obtain ⟨hK, hN⟩ := id hKK
  have hl : lv_has ls 3 [(0, .int p0)] := hl
  refine lv_iconst (v := (0 : Int32)) hx hb dX4_size_0 (by decide) ?_
  refine lv_istore_n (lv' := [(1, .int (0 : Int32)), (0, .int p0)]) hx hb dX4_size_1 rfl hl (by decide) rfl (fun ls hl => ?_)
  refine lv_iconst (v := (0 : Int32)) hx hb dX4_size_2 (by decide) ?_
  refine lv_istore_n (lv' := [(2, .int (0 : Int32)), (1, .int (0 : Int32)), (0, .int p0)]) hx hb dX4_size_3 rfl hl (by decide) rfl (fun ls hl => ?_)
  have loop_4 : ∀ (z : Nat) (k : Nat) (x1 : Int32) (x2 : Int32), x1 = sumN (fun k => (p0 >>> (nI k &&& 31)) &&& 1) k → x2 = nI k → (k ≤ 6) → 6 - k < z → ∀ (ls : Array Slot), lv_has ls 3 [(0, .int p0), (1, .int x1), (2, .int x2)] → W p l e ({ frames := 0, cells := 0, slots := 0, locals := 0 } : Room) s m args below meth c s.heap [] 0 0 (MQ below (QcV (some (.int (mSize p0)))) args s 0 0 (fun _ => False)) (F0 m 4 ls []) := by
    intro z
    induction z with
    | zero =>
      intro k x1 x2 ex1 ex2 hk hz
      exact absurd hz (Nat.not_lt_zero _)
    | succ z ih_4 =>
      intro k x1 x2 ex1 ex2 hk hz ls hl
      subst ex1
      subst ex2
      refine lv_iload_n hx hb dX4_size_4 rfl (lv_at hl 2 rfl) ?_
      refine lv_bipush (v := (6 : Int32)) hx hb dX4_size_5 (by decide) ?_
      refine lv_icmp_ge (tgt := 24) hx hb dX4_size_7 (by decide) (fun c_1 => ?_) (fun c_1 => ?_)
      · have nc_1 : 6 ≤ k := (nI_leI (a := 6) (b := k) (by omega) (by omega)).mp c_1
        refine lv_iload_n hx hb dX4_size_24 rfl (lv_at hl 1 rfl) ?_
        exact retRi hx hb hr hlk dX4_size_25 (by have hkn : k = 6 := (by omega); subst hkn; rfl)
      · have nc_1 : ¬ 6 ≤ k := fun h => c_1 ((nI_leI (a := 6) (b := k) (by omega) (by omega)).mpr h)
        refine lv_iload_n hx hb dX4_size_10 rfl (lv_at hl 1 rfl) ?_
        refine lv_iload_n hx hb dX4_size_11 rfl (lv_at hl 0 rfl) ?_
        refine lv_iload_n hx hb dX4_size_12 rfl (lv_at hl 2 rfl) ?_
        refine lv_ishr hx hb dX4_size_13 ?_
        refine lv_iconst (v := (1 : Int32)) hx hb dX4_size_14 (by decide) ?_
        refine lv_iand hx hb dX4_size_15 ?_
        refine lv_iadd hx hb dX4_size_16 ?_
        refine lv_istore_n (lv' := [(1, .int (sumN (fun k => (p0 >>> (nI k &&& 31)) &&& 1) k + ((p0 >>> (nI k &&& 31)) &&& (1 : Int32)))), (0, .int p0), (2, .int (nI k))]) hx hb dX4_size_17 rfl hl (by decide) rfl (fun ls hl => ?_)
        refine lv_iinc (v := (nI (k + 1))) (lv' := [(2, .int (nI (k + 1))), (1, .int (sumN (fun k => (p0 >>> (nI k &&& 31)) &&& 1) k + ((p0 >>> (nI k &&& 31)) &&& (1 : Int32)))), (0, .int p0)]) hx hb dX4_size_18 hl (k := 2) rfl (nI_add k 1) (by decide) rfl (fun ls hl => ?_)
        refine lv_goto (tgt := 4) hx hb dX4_size_21 (by decide) ?_
        exact ih_4 (k + 1) (sumN (fun k => (p0 >>> (nI k &&& 31)) &&& 1) k + ((p0 >>> (nI k &&& 31)) &&& (1 : Int32))) (nI (k + 1)) rfl rfl (by omega) (by omega) ls (lv_sub hl [2, 1, 0] rfl)
  exact loop_4 ((6 - 0) + 1) 0 (0 : Int32) (0 : Int32) rfl rfl (by omega) (by omega) ls (lv_sub hl [2, 1, 0] rfl)
set_option maxHeartbeats 1000000 in
set_option maxRecDepth 100000 in
theorem c_X4_kindBy (l : Launch) (D : va_G) (cI cB cS : ClassId) {ws : va_W} (p0 : Int32) : Met l yX4_kindBy (Wm yX4_kindBy cX4_kindBy 1 (some .int)) ({ frames := 0, cells := 0, slots := 0, locals := 0 }) (va_Pc [.int p0] (PR D (TYS cI cB cS) ws)) (QcV (some (.int (mKind p0)))) 0 0 (fun _ => False) := by
  refine metR (by decide) [.int p0] (Nat.le_of_ble_eq_true rfl) ?_
  intro p e s m args below meth c hx hb hml hr hlk hown hts hKK hP ls hl
  obtain ⟨hK, hN⟩ := id hKK
  have hl : lv_has ls 1 [(0, .int p0)] := hl
  refine lv_iload_n hx hb dX4_kindBy_0 rfl (lv_at hl 0 rfl) ?_
  by_cases e_1 : p0 = (98 : Int32)
  · refine topE e_1 ?_
    refine lv_lookup (off := 53) (tgt := 54) hx hb dX4_kindBy_1 (by decide +kernel) (by decide) (by decide) ?_
    refine lv_iconst (v := (1 : Int32)) hx hb dX4_kindBy_54 (by decide) ?_
    exact retRi hx hb hr hlk dX4_kindBy_55 (by grind [mKind])
  by_cases e_2 : p0 = (102 : Int32)
  · refine topE e_2 ?_
    refine lv_lookup (off := 57) (tgt := 58) hx hb dX4_kindBy_1 (by decide +kernel) (by decide) (by decide) ?_
    refine lv_iconst (v := (3 : Int32)) hx hb dX4_kindBy_58 (by decide) ?_
    exact retRi hx hb hr hlk dX4_kindBy_59 (by grind [mKind])
  by_cases e_3 : p0 = (113 : Int32)
  · refine topE e_3 ?_
    refine lv_lookup (off := 55) (tgt := 56) hx hb dX4_kindBy_1 (by decide +kernel) (by decide) (by decide) ?_
    refine lv_iconst (v := (2 : Int32)) hx hb dX4_kindBy_56 (by decide) ?_
    exact retRi hx hb hr hlk dX4_kindBy_57 (by grind [mKind])
  by_cases e_4 : p0 = (115 : Int32)
  · refine topE e_4 ?_
    refine lv_lookup (off := 51) (tgt := 52) hx hb dX4_kindBy_1 (by decide +kernel) (by decide) (by decide) ?_
    refine lv_iconst (v := (0 : Int32)) hx hb dX4_kindBy_52 (by decide) ?_
    exact retRi hx hb hr hlk dX4_kindBy_53 (by grind [mKind])
  by_cases e_5 : p0 = (116 : Int32)
  · refine topE e_5 ?_
    refine lv_lookup (off := 59) (tgt := 60) hx hb dX4_kindBy_1 (by decide +kernel) (by decide) (by decide) ?_
    refine lv_iconst (v := (4 : Int32)) hx hb dX4_kindBy_60 (by decide) ?_
    exact retRi hx hb hr hlk dX4_kindBy_61 (by grind [mKind])
  refine lv_lookup (off := 61) (tgt := 62) hx hb dX4_kindBy_1 (by decide +kernel) (by show Op.lookupswitch.offset [(98, 53), (102, 57), (113, 55), (115, 51), (116, 59)] 61 p0.toInt = 61; rw [lv_osw (a := 98) e_1 rfl]; rw [lv_osw (a := 102) e_2 rfl]; rw [lv_osw (a := 113) e_3 rfl]; rw [lv_osw (a := 115) e_4 rfl]; rw [lv_osw (a := 116) e_5 rfl]; rfl) (by decide) ?_
  refine lv_iconst (v := (-1 : Int32)) hx hb dX4_kindBy_62 (by decide) ?_
  exact retRi hx hb hr hlk dX4_kindBy_63 (by grind [mKind])
set_option maxHeartbeats 1000000 in
set_option maxRecDepth 100000 in
theorem c_X4_longAt (l : Launch) (D : va_G) (cI cB cS : ClassId) {ws : va_W} (p0 p1 : Int32) : Met l yX4_longAt (Wm yX4_longAt cX4_longAt 2 (some .int)) ({ frames := 0, cells := 0, slots := 0, locals := 0 }) (va_Pc [.int p0, .int p1] (PR D (TYS cI cB cS) ws)) (QcV (some (.int (mLong p0 p1)))) 0 0 (fun _ => False) := by
  refine metR (by decide) [.int p0, .int p1] (Nat.le_of_ble_eq_true rfl) ?_
  intro p e s m args below meth c hx hb hml hr hlk hown hts hKK hP ls hl
  obtain ⟨hK, hN⟩ := id hKK
  have hl : lv_has ls 2 [(0, .int p0), (1, .int p1)] := hl
  refine lv_iload_n hx hb dX4_longAt_0 rfl (lv_at hl 0 rfl) ?_
  refine lv_iload_n hx hb dX4_longAt_1 rfl (lv_at hl 1 rfl) ?_
  refine lv_iadd hx hb dX4_longAt_2 ?_
  refine lv_bipush (v := (10 : Int32)) hx hb dX4_longAt_3 (by decide) ?_
  refine lv_icmp_le (tgt := 15) hx hb dX4_longAt_5 (by decide) (fun c_1 => ?_) (fun c_1 => ?_)
  · refine lv_iload_n hx hb dX4_longAt_15 rfl (lv_at hl 1 rfl) ?_
    exact retRi hx hb hr hlk dX4_longAt_16 (by grind [mLong])
  · refine lv_bipush (v := (10 : Int32)) hx hb dX4_longAt_8 (by decide) ?_
    refine lv_iload_n hx hb dX4_longAt_10 rfl (lv_at hl 0 rfl) ?_
    refine lv_isub hx hb dX4_longAt_11 ?_
    refine lv_goto (tgt := 16) hx hb dX4_longAt_12 (by decide) ?_
    exact retRi hx hb hr hlk dX4_longAt_16 (by grind [mLong])
set_option maxHeartbeats 1000000 in
set_option maxRecDepth 100000 in
theorem c_X4_isMinute (l : Launch) (D : va_G) (cI cB cS : ClassId) {ws : va_W} (p0 : Int32) : Met l yX4_isMinute (Wm yX4_isMinute cX4_isMinute 1 (some .boolean)) ({ frames := 1, cells := 0, slots := 0, locals := 22 }) (va_Pc [.int p0] (PR D (TYS cI cB cS) ws)) (QcV (some (.int (b2 (okMin p0))))) 0 0 (fun _ => False) := by
  refine metR (by decide) [.int p0] (Nat.le_of_ble_eq_true rfl) ?_
  intro p e s m args below meth c hx hb hml hr hlk hown hts hKK hP ls hl
  obtain ⟨hK, hN⟩ := id hKK
  have hl : lv_has ls 1 [(0, .int p0)] := hl
  refine lv_iload_n hx hb dX4_isMinute_0 rfl (lv_at hl 0 rfl) ?_
  refine lv_iconst (v := (0 : Int32)) hx hb dX4_isMinute_1 (by decide) ?_
  refine lv_bipush (v := (20 : Int32)) hx hb dX4_isMinute_2 (by decide) ?_
  refine rcSi (As := [.int p0, .int (0 : Int32), .int (20 : Int32)]) (rest := []) hx hb hml hown hts hKK hP (c_X4_within l D cI cB cS p0 (0 : Int32) (20 : Int32)) (cwS2 3 hts kw_90 kw_6 kw_88 kw_89 rfl rfl (by decide +kernel) ⟨Nat.le_of_ble_eq_true rfl, Nat.le_of_ble_eq_true rfl⟩) rfl hl.1 rfl (Nat.le_of_ble_eq_true rfl) ⟨Nat.zero_le _, Nat.zero_le _⟩ dX4_isMinute_4 ?_
  refine topE (z := (b2 (okMin p0))) rfl ?_
  exact retRz hx hb hr hlk dX4_isMinute_7 rfl
set_option maxHeartbeats 1000000 in
set_option maxRecDepth 100000 in
theorem c_X4_isStroke (l : Launch) (D : va_G) (cI cB cS : ClassId) {A : Nat → Nat} {I : Nat → Int32} {J : Nat → Int64} {F : Nat → Nat → Int32} {n : Nat} (hn : n ≤ 6) (h1 : I 1 = nI n) (p0 : Int32) : Met l yX4_isStroke (Wm yX4_isStroke cX4_isStroke 2 (some .boolean)) ({ frames := 1, cells := 0, slots := 0, locals := 22 }) (va_Pc [.ref (A 0), .int p0] (PR D (TYS cI cB cS) (wsM A cI cB I J F))) (QcV (some (.int (b2 (okS n p0))))) 0 0 (fun _ => False) := by
  refine metR (by decide) [.ref (A 0), .int p0] (Nat.le_of_ble_eq_true rfl) ?_
  intro p e s m args below meth c hx hb hml hr hlk hown hts hKK hP ls hl
  obtain ⟨hK, hN⟩ := id hKK
  have hl : lv_has ls 2 [(0, .ref (A 0)), (1, .int p0)] := hl
  refine lv_iload_n hx hb dX4_isStroke_0 rfl (lv_at hl 1 rfl) ?_
  refine lv_iconst (v := (0 : Int32)) hx hb dX4_isStroke_1 (by decide) ?_
  refine lv_aload_n hx hb dX4_isStroke_2 rfl (lv_at hl 0 rfl) ?_
  refine va_get (D := D) (ci := 4) (v := .int (I 1)) (C := RX4) (T := TX4) (N := 29) hx hb hts inlX4 hown hK hP 0 rfl rfl 1 (by decide) (hts _ kw_251) (fun _ h9 => h9) rfl dX4_isStroke_3 ?_
  refine topE (z := (nI n)) h1 ?_
  refine lv_iconst (v := (1 : Int32)) hx hb dX4_isStroke_6 (by decide) ?_
  refine lv_isub hx hb dX4_isStroke_7 ?_
  refine rcSi (As := [.int p0, .int (0 : Int32), .int ((nI n) - (1 : Int32))]) (rest := []) hx hb hml hown hts hKK hP (c_X4_within l D cI cB cS p0 (0 : Int32) ((nI n) - (1 : Int32))) (cwS2 3 hts kw_90 kw_6 kw_88 kw_89 rfl rfl (by decide +kernel) ⟨Nat.le_of_ble_eq_true rfl, Nat.le_of_ble_eq_true rfl⟩) rfl hl.1 rfl (Nat.le_of_ble_eq_true rfl) ⟨Nat.zero_le _, Nat.zero_le _⟩ dX4_isStroke_8 ?_
  exact retRz hx hb hr hlk dX4_isStroke_11 (by exact b2_congr (okS_iff hn))
set_option maxHeartbeats 1000000 in
set_option maxRecDepth 100000 in
theorem c_X4_isCell (l : Launch) (D : va_G) (cI cB cS : ClassId) {A : Nat → Nat} {I : Nat → Int32} {J : Nat → Int64} {F : Nat → Nat → Int32} {n : Nat} (hn : n ≤ 6) (h1 : I 1 = nI n) (p0 : Int32) : Met l yX4_isCell (Wm yX4_isCell cX4_isCell 2 (some .boolean)) ({ frames := 1, cells := 0, slots := 0, locals := 22 }) (va_Pc [.ref (A 0), .int p0] (PR D (TYS cI cB cS) (wsM A cI cB I J F))) (QcV (some (.int (b2 (0 < n ∧ okCell p0))))) 0 0 (fun _ => False) := by
  refine metR (by decide) [.ref (A 0), .int p0] (Nat.le_of_ble_eq_true rfl) ?_
  intro p e s m args below meth c hx hb hml hr hlk hown hts hKK hP ls hl
  obtain ⟨hK, hN⟩ := id hKK
  have hl : lv_has ls 2 [(0, .ref (A 0)), (1, .int p0)] := hl
  refine lv_aload_n hx hb dX4_isCell_0 rfl (lv_at hl 0 rfl) ?_
  refine va_get (D := D) (ci := 4) (v := .int (I 1)) (C := RX4) (T := TX4) (N := 29) hx hb hts inlX4 hown hK hP 0 rfl rfl 1 (by decide) (hts _ kw_251) (fun _ h9 => h9) rfl dX4_isCell_1 ?_
  refine topE (z := (nI n)) h1 ?_
  refine lv_if_le (tgt := 21) hx hb dX4_isCell_4 (by decide) (fun c_1 => ?_) (fun c_1 => ?_)
  · have nc_1 : n ≤ 0 := (nI_leI (a := n) (b := 0) (by omega) (by omega)).mp c_1
    refine lv_iconst (v := (0 : Int32)) hx hb dX4_isCell_21 (by decide) ?_
    exact retRz hx hb hr hlk dX4_isCell_22 (by grind [b2])
  · have nc_1 : ¬ n ≤ 0 := fun h => c_1 ((nI_leI (a := n) (b := 0) (by omega) (by omega)).mpr h)
    refine lv_iload_n hx hb dX4_isCell_7 rfl (lv_at hl 1 rfl) ?_
    refine lv_iconst (v := (0 : Int32)) hx hb dX4_isCell_8 (by decide) ?_
    refine lv_bipush (v := (9 : Int32)) hx hb dX4_isCell_9 (by decide) ?_
    refine rcSi (As := [.int p0, .int (0 : Int32), .int (9 : Int32)]) (rest := []) hx hb hml hown hts hKK hP (c_X4_within l D cI cB cS p0 (0 : Int32) (9 : Int32)) (cwS2 3 hts kw_90 kw_6 kw_88 kw_89 rfl rfl (by decide +kernel) ⟨Nat.le_of_ble_eq_true rfl, Nat.le_of_ble_eq_true rfl⟩) rfl hl.1 rfl (Nat.le_of_ble_eq_true rfl) ⟨Nat.zero_le _, Nat.zero_le _⟩ dX4_isCell_11 ?_
    refine topE (z := (b2 (okCell p0))) (b2_congr okCell_iff) ?_
    refine lv_if_eq (tgt := 21) hx hb dX4_isCell_14 (by decide) (fun c_2 => ?_) (fun c_2 => ?_)
    · have c_2 := b2_z c_2
      refine lv_iconst (v := (0 : Int32)) hx hb dX4_isCell_21 (by decide) ?_
      exact retRz hx hb hr hlk dX4_isCell_22 (by grind [b2])
    · have c_2 := b2_nz c_2
      refine lv_iconst (v := (1 : Int32)) hx hb dX4_isCell_17 (by decide) ?_
      refine lv_goto (tgt := 22) hx hb dX4_isCell_18 (by decide) ?_
      exact retRz hx hb hr hlk dX4_isCell_22 (by grind [b2])
set_option maxHeartbeats 1000000 in
set_option maxRecDepth 100000 in
theorem c_X4_blank (l : Launch) (D : va_G) (cI cB cS : ClassId) {A : Nat → Nat} {I : Nat → Int32} {J : Nat → Int64} {F : Nat → Nat → Int32} : Met l yX4_blank (Wm yX4_blank cX4_blank 2 (some .int)) ({ frames := 0, cells := 0, slots := 0, locals := 0 }) (va_Pc [.ref (A 0)] (PW D (TYS cI cB cS) (wsM A cI cB I J F))) (QcW D (some (.int (I 13))) (wsM A cI cB I J F) (wsM A cI cB (upd I 13 0) J F)) 0 0 (FPw (wsM A cI cB I J F)) := by
  refine metW (by decide) [.ref (A 0)] (Nat.le_of_ble_eq_true rfl) ?_
  intro p e s m args below meth c hx hb hml hr hlk hown hts hKK hP hD hS ls hl
  obtain ⟨hK, hN⟩ := id hKK
  have hl : lv_has ls 2 [(0, .ref (A 0))] := hl
  refine lv_aload_n hx hb dX4_blank_0 rfl (lv_at hl 0 rfl) ?_
  refine va_get (D := D) (ci := 4) (v := .int (I 13)) (C := RX4) (T := TX4) (N := 29) hx hb hts inlX4 hown hK hP 0 rfl rfl 13 (by decide) (hts _ kw_87) (fun _ h9 => h9) rfl dX4_blank_1 ?_
  refine lv_istore_n (lv' := [(1, .int (I 13)), (0, .ref (A 0))]) hx hb dX4_blank_4 rfl hl (by decide) rfl (fun ls hl => ?_)
  refine lv_aload_n hx hb dX4_blank_5 rfl (lv_at hl 1 rfl) ?_
  refine lv_iconst (v := (0 : Int32)) hx hb dX4_blank_6 (by decide) ?_
  refine va_put (D := D) (ci := 4) (v := .int (0 : Int32)) (ty := tyX4 13) (C := RX4) (T := TX4) (N := 29) hx hb hts inlX4 tyX4 tyX4_ok nmX4 hown hK hP hD hS 0 rfl rfl 13 (by decide) (hts _ kw_87) (fun _ h9 => h9) rfl (tyX4_ok 13 (by decide)) rfl rfl (Nat.le_of_ble_eq_true rfl) dX4_blank_7 (fun H locs hP hD hS => ?_)
  have hP : va_P D vwCl (wsM A cI cB (upd I 13 (0 : Int32)) J F) H := hP
  have hD : va_D (FPw (wsM A cI cB I J F)) (wsM A cI cB (upd I 13 (0 : Int32)) J F) := hD
  refine lv_iload_n hx hb dX4_blank_10 rfl (lv_at hl 0 rfl) ?_
  exact retWi hx hb hr hlk hP hS dX4_blank_11 rfl rfl
set_option maxHeartbeats 1000000 in
set_option maxRecDepth 100000 in
theorem c_X4_forget (l : Launch) (D : va_G) (cI cB cS : ClassId) {A : Nat → Nat} {I : Nat → Int32} {J : Nat → Int64} {F : Nat → Nat → Int32} : Met l yX4_forget (Wm yX4_forget cX4_forget 2 (some .int)) ({ frames := 0, cells := 0, slots := 0, locals := 0 }) (va_Pc [.ref (A 0)] (PW D (TYS cI cB cS) (wsM A cI cB I J F))) (QcW D (some (.int (I 9))) (wsM A cI cB I J F) (wsM A cI cB (upd I 9 0) J F)) 0 0 (FPw (wsM A cI cB I J F)) := by
  refine metW (by decide) [.ref (A 0)] (Nat.le_of_ble_eq_true rfl) ?_
  intro p e s m args below meth c hx hb hml hr hlk hown hts hKK hP hD hS ls hl
  obtain ⟨hK, hN⟩ := id hKK
  have hl : lv_has ls 2 [(0, .ref (A 0))] := hl
  refine lv_aload_n hx hb dX4_forget_0 rfl (lv_at hl 0 rfl) ?_
  refine va_get (D := D) (ci := 4) (v := .int (I 9)) (C := RX4) (T := TX4) (N := 29) hx hb hts inlX4 hown hK hP 0 rfl rfl 9 (by decide) (hts _ kw_255) (fun _ h9 => h9) rfl dX4_forget_1 ?_
  refine lv_istore_n (lv' := [(1, .int (I 9)), (0, .ref (A 0))]) hx hb dX4_forget_4 rfl hl (by decide) rfl (fun ls hl => ?_)
  refine lv_aload_n hx hb dX4_forget_5 rfl (lv_at hl 1 rfl) ?_
  refine lv_iconst (v := (0 : Int32)) hx hb dX4_forget_6 (by decide) ?_
  refine va_put (D := D) (ci := 4) (v := .int (0 : Int32)) (ty := tyX4 9) (C := RX4) (T := TX4) (N := 29) hx hb hts inlX4 tyX4 tyX4_ok nmX4 hown hK hP hD hS 0 rfl rfl 9 (by decide) (hts _ kw_255) (fun _ h9 => h9) rfl (tyX4_ok 9 (by decide)) rfl rfl (Nat.le_of_ble_eq_true rfl) dX4_forget_7 (fun H locs hP hD hS => ?_)
  have hP : va_P D vwCl (wsM A cI cB (upd I 9 (0 : Int32)) J F) H := hP
  have hD : va_D (FPw (wsM A cI cB I J F)) (wsM A cI cB (upd I 9 (0 : Int32)) J F) := hD
  refine lv_iload_n hx hb dX4_forget_10 rfl (lv_at hl 0 rfl) ?_
  exact retWi hx hb hr hlk hP hS dX4_forget_11 rfl rfl
set_option maxHeartbeats 1000000 in
set_option maxRecDepth 100000 in
theorem c_X4_wetAt (l : Launch) (D : va_G) (cI cB cS : ClassId) {A : Nat → Nat} {I : Nat → Int32} {J : Nat → Int64} {F : Nat → Nat → Int32} {n : Nat} (hn : n ≤ 6) (h1 : I 1 = nI n) {k : Nat} (hk : k < 6) (p1 : Int32) : Met l yX4_wetAt (Wm yX4_wetAt cX4_wetAt 5 (some .int)) ({ frames := 1, cells := 0, slots := 0, locals := 21 }) (va_Pc [.ref (A 0), .int (nI k), .int p1] (PR D (TYS cI cB cS) (wsM A cI cB I J F))) (QcV (some (.int (mWet F (I 6) k p1)))) 0 0 (fun _ => False) := by
  refine metR (by decide) [.ref (A 0), .int (nI k), .int p1] (Nat.le_of_ble_eq_true rfl) ?_
  intro p e s m args below meth c hx hb hml hr hlk hown hts hKK hP ls hl
  obtain ⟨hK, hN⟩ := id hKK
  have hl : lv_has ls 5 [(0, .ref (A 0)), (1, .int (nI k)), (2, .int p1)] := hl
  refine lv_iload_n hx hb dX4_wetAt_0 rfl (lv_at hl 2 rfl) ?_
  refine lv_iload_n hx hb dX4_wetAt_1 rfl (lv_at hl 1 rfl) ?_
  refine lv_isub hx hb dX4_wetAt_2 ?_
  refine lv_istore_n (lv' := [(3, .int (p1 - (nI k))), (0, .ref (A 0)), (1, .int (nI k)), (2, .int p1)]) hx hb dX4_wetAt_3 rfl hl (by decide) rfl (fun ls hl => ?_)
  refine lv_iload_n hx hb dX4_wetAt_4 rfl (lv_at hl 0 rfl) ?_
  refine lv_if_lt (tgt := 19) hx hb dX4_wetAt_5 (by decide) (fun c_1 => ?_) (fun c_1 => ?_)
  · refine lv_iconst (v := (0 : Int32)) hx hb dX4_wetAt_19 (by decide) ?_
    exact retRi hx hb hr hlk dX4_wetAt_20 (by grind [mWet, mFl])
  · refine lv_aload_n hx hb dX4_wetAt_8 rfl (lv_at hl 1 rfl) ?_
    refine va_get (D := D) (ci := 4) (v := .int (I 6)) (C := RX4) (T := TX4) (N := 29) hx hb hts inlX4 hown hK hP 0 rfl rfl 6 (by decide) (hts _ kw_253) (fun _ h9 => h9) rfl dX4_wetAt_9 ?_
    refine lv_iload_n hx hb dX4_wetAt_12 rfl (lv_at hl 2 rfl) ?_
    refine rcSi (As := [.int (I 6), .int (nI k)]) (rest := []) hx hb hml hown hts hKK hP (c_X4_isIn l D cI cB cS (I 6) (nI k)) (cwS2 2 hts kw_330 kw_6 kw_328 kw_329 rfl rfl (by decide +kernel) ⟨Nat.le_of_ble_eq_true rfl, Nat.le_of_ble_eq_true rfl⟩) rfl hl.1 rfl (Nat.le_of_ble_eq_true rfl) ⟨Nat.zero_le _, Nat.zero_le _⟩ dX4_wetAt_13 ?_
    refine lv_if_eq (tgt := 21) hx hb dX4_wetAt_16 (by decide) (fun c_2 => ?_) (fun c_2 => ?_)
    · have c_2 := b2_z c_2
      refine lv_aload_n hx hb dX4_wetAt_21 rfl (lv_at hl 1 rfl) ?_
      refine va_get (D := D) (ci := 4) (v := .ref (A 5)) (C := RX4) (T := TX4) (N := 29) hx hb hts inlX4 hown hK hP 0 rfl rfl 5 (by decide) (hts _ kw_62) (fun _ h9 => h9) rfl dX4_wetAt_22 ?_
      refine lv_iload_n hx hb dX4_wetAt_25 rfl (lv_at hl 2 rfl) ?_
      refine va_iald (D := D) hx hb hK hP 4 0 rfl rfl (vp_in_nI (by omega) (by omega)) dX4_wetAt_26 ?_
      refine topE (z := ((F 5) k)) (congrArg _ (nI_clamp (n := k) (by omega))) ?_
      refine lv_istore (lv' := [(4, .int ((F 5) k)), (3, .int (p1 - (nI k))), (0, .ref (A 0)), (1, .int (nI k)), (2, .int p1)]) hx hb dX4_wetAt_27 hl (by decide) rfl (fun ls hl => ?_)
      refine lv_aload_n hx hb dX4_wetAt_29 rfl (lv_at hl 2 rfl) ?_
      refine va_get (D := D) (ci := 4) (v := .ref (A 2)) (C := RX4) (T := TX4) (N := 29) hx hb hts inlX4 hown hK hP 0 rfl rfl 2 (by decide) (hts _ kw_59) (fun _ h9 => h9) rfl dX4_wetAt_30 ?_
      refine lv_iload_n hx hb dX4_wetAt_33 rfl (lv_at hl 3 rfl) ?_
      refine va_iald (D := D) hx hb hK hP 1 0 rfl rfl (vp_in_nI (by omega) (by omega)) dX4_wetAt_34 ?_
      refine topE (z := ((F 2) k)) (congrArg _ (nI_clamp (n := k) (by omega))) ?_
      by_cases e_3 : ((F 2) k) = (2 : Int32)
      · refine topE e_3 ?_
        refine lv_tableIn (off := 25) (tgt := 60) hx hb dX4_wetAt_35 (by decide) (by decide) rfl (by decide) ?_
        refine lv_iload hx hb dX4_wetAt_60 (lv_at hl 0 rfl) ?_
        refine lv_iload_n hx hb dX4_wetAt_62 rfl (lv_at hl 1 rfl) ?_
        refine lv_iconst (v := (2 : Int32)) hx hb dX4_wetAt_63 (by decide) ?_
        refine lv_idiv hx hb dX4_wetAt_64 (by decide) ?_
        refine lv_isub hx hb dX4_wetAt_65 ?_
        refine lv_istore (lv' := [(4, .int (((F 5) k) - ((p1 - (nI k)) / (2 : Int32)))), (3, .int (p1 - (nI k))), (0, .ref (A 0)), (1, .int (nI k)), (2, .int p1)]) hx hb dX4_wetAt_66 hl (by decide) rfl (fun ls hl => ?_)
        refine lv_goto (tgt := 99) hx hb dX4_wetAt_68 (by decide) ?_
        refine lv_iload hx hb dX4_wetAt_99 (lv_at hl 0 rfl) ?_
        refine lv_if_ge (tgt := 108) hx hb dX4_wetAt_101 (by decide) (fun c_4 => ?_) (fun c_4 => ?_)
        · refine lv_iload hx hb dX4_wetAt_108 (lv_at hl 0 rfl) ?_
          exact retRi hx hb hr hlk dX4_wetAt_110 (by grind [mWet, mFl])
        · refine lv_iconst (v := (0 : Int32)) hx hb dX4_wetAt_104 (by decide) ?_
          refine lv_goto (tgt := 110) hx hb dX4_wetAt_105 (by decide) ?_
          exact retRi hx hb hr hlk dX4_wetAt_110 (by grind [mWet, mFl])
      by_cases e_5 : ((F 2) k) = (3 : Int32)
      · refine topE e_5 ?_
        refine lv_tableIn (off := 36) (tgt := 71) hx hb dX4_wetAt_35 (by decide) (by decide) rfl (by decide) ?_
        refine lv_iload hx hb dX4_wetAt_71 (lv_at hl 0 rfl) ?_
        refine lv_iconst (v := (3 : Int32)) hx hb dX4_wetAt_73 (by decide) ?_
        refine lv_iload_n hx hb dX4_wetAt_74 rfl (lv_at hl 1 rfl) ?_
        refine lv_imul hx hb dX4_wetAt_75 ?_
        refine lv_isub hx hb dX4_wetAt_76 ?_
        refine lv_istore (lv' := [(4, .int (((F 5) k) - ((3 : Int32) * (p1 - (nI k))))), (3, .int (p1 - (nI k))), (0, .ref (A 0)), (1, .int (nI k)), (2, .int p1)]) hx hb dX4_wetAt_77 hl (by decide) rfl (fun ls hl => ?_)
        refine lv_goto (tgt := 99) hx hb dX4_wetAt_79 (by decide) ?_
        refine lv_iload hx hb dX4_wetAt_99 (lv_at hl 0 rfl) ?_
        refine lv_if_ge (tgt := 108) hx hb dX4_wetAt_101 (by decide) (fun c_6 => ?_) (fun c_6 => ?_)
        · refine lv_iload hx hb dX4_wetAt_108 (lv_at hl 0 rfl) ?_
          exact retRi hx hb hr hlk dX4_wetAt_110 (by grind [mWet, mFl])
        · refine lv_iconst (v := (0 : Int32)) hx hb dX4_wetAt_104 (by decide) ?_
          refine lv_goto (tgt := 110) hx hb dX4_wetAt_105 (by decide) ?_
          exact retRi hx hb hr hlk dX4_wetAt_110 (by grind [mWet, mFl])
      by_cases e_7 : ((F 2) k) = (4 : Int32)
      · refine topE e_7 ?_
        refine lv_tableIn (off := 47) (tgt := 82) hx hb dX4_wetAt_35 (by decide) (by decide) rfl (by decide) ?_
        refine lv_iload hx hb dX4_wetAt_82 (lv_at hl 0 rfl) ?_
        refine lv_iconst (v := (3 : Int32)) hx hb dX4_wetAt_84 (by decide) ?_
        refine lv_iload_n hx hb dX4_wetAt_85 rfl (lv_at hl 1 rfl) ?_
        refine lv_isub hx hb dX4_wetAt_86 ?_
        refine lv_iadd hx hb dX4_wetAt_87 ?_
        refine lv_istore (lv' := [(4, .int (((F 5) k) + ((3 : Int32) - (p1 - (nI k))))), (3, .int (p1 - (nI k))), (0, .ref (A 0)), (1, .int (nI k)), (2, .int p1)]) hx hb dX4_wetAt_88 hl (by decide) rfl (fun ls hl => ?_)
        refine lv_goto (tgt := 99) hx hb dX4_wetAt_90 (by decide) ?_
        refine lv_iload hx hb dX4_wetAt_99 (lv_at hl 0 rfl) ?_
        refine lv_if_ge (tgt := 108) hx hb dX4_wetAt_101 (by decide) (fun c_8 => ?_) (fun c_8 => ?_)
        · refine lv_iload hx hb dX4_wetAt_108 (lv_at hl 0 rfl) ?_
          exact retRi hx hb hr hlk dX4_wetAt_110 (by grind [mWet, mFl])
        · refine lv_iconst (v := (0 : Int32)) hx hb dX4_wetAt_104 (by decide) ?_
          refine lv_goto (tgt := 110) hx hb dX4_wetAt_105 (by decide) ?_
          exact retRi hx hb hr hlk dX4_wetAt_110 (by grind [mWet, mFl])
      have t_9 := lv_neT e_3 (a := 2) rfl
      have t_10 := lv_neT e_5 (a := 3) rfl
      have t_11 := lv_neT e_7 (a := 4) rfl
      refine lv_tableOut (tgt := 93) hx hb dX4_wetAt_35 (by omega) (by decide) ?_
      refine lv_iload hx hb dX4_wetAt_93 (lv_at hl 0 rfl) ?_
      refine lv_iload_n hx hb dX4_wetAt_95 rfl (lv_at hl 1 rfl) ?_
      refine lv_isub hx hb dX4_wetAt_96 ?_
      refine lv_istore (lv' := [(4, .int (((F 5) k) - (p1 - (nI k)))), (3, .int (p1 - (nI k))), (0, .ref (A 0)), (1, .int (nI k)), (2, .int p1)]) hx hb dX4_wetAt_97 hl (by decide) rfl (fun ls hl => ?_)
      refine lv_iload hx hb dX4_wetAt_99 (lv_at hl 0 rfl) ?_
      refine lv_if_ge (tgt := 108) hx hb dX4_wetAt_101 (by decide) (fun c_12 => ?_) (fun c_12 => ?_)
      · refine lv_iload hx hb dX4_wetAt_108 (lv_at hl 0 rfl) ?_
        exact retRi hx hb hr hlk dX4_wetAt_110 (by grind [mWet, mFl])
      · refine lv_iconst (v := (0 : Int32)) hx hb dX4_wetAt_104 (by decide) ?_
        refine lv_goto (tgt := 110) hx hb dX4_wetAt_105 (by decide) ?_
        exact retRi hx hb hr hlk dX4_wetAt_110 (by grind [mWet, mFl])
    · have c_2 := b2_nz c_2
      refine lv_iconst (v := (0 : Int32)) hx hb dX4_wetAt_19 (by decide) ?_
      exact retRi hx hb hr hlk dX4_wetAt_20 (by grind [mWet, mFl])
set_option maxHeartbeats 1000000 in
set_option maxRecDepth 100000 in
theorem c_X4_comesOf (l : Launch) (D : va_G) (cI cB cS : ClassId) {A : Nat → Nat} {I : Nat → Int32} {J : Nat → Int64} {F : Nat → Nat → Int32} {n : Nat} (hn : n ≤ 6) (h1 : I 1 = nI n) {k : Nat} (hk : k < 6) (p1 p2 : Int32) : Met l yX4_comesOf (Wm yX4_comesOf cX4_comesOf 8 (some .int)) ({ frames := 2, cells := 0, slots := 0, locals := 45 }) (va_Pc [.ref (A 0), .int (nI k), .int p1, .int p2] (PR D (TYS cI cB cS) (wsM A cI cB I J F))) (QcV (some (.int (mOf F (I 6) k p1 p2)))) 0 0 (fun _ => False) := by
  refine metR (by decide) [.ref (A 0), .int (nI k), .int p1, .int p2] (Nat.le_of_ble_eq_true rfl) ?_
  intro p e s m args below meth c hx hb hml hr hlk hown hts hKK hP ls hl
  obtain ⟨hK, hN⟩ := id hKK
  have hl : lv_has ls 8 [(0, .ref (A 0)), (1, .int (nI k)), (2, .int p1), (3, .int p2)] := hl
  refine lv_aload_n hx hb dX4_comesOf_0 rfl (lv_at hl 0 rfl) ?_
  refine va_get (D := D) (ci := 4) (v := .ref (A 3)) (C := RX4) (T := TX4) (N := 29) hx hb hts inlX4 hown hK hP 0 rfl rfl 3 (by decide) (hts _ kw_60) (fun _ h9 => h9) rfl dX4_comesOf_1 ?_
  refine lv_iload_n hx hb dX4_comesOf_4 rfl (lv_at hl 1 rfl) ?_
  refine va_iald (D := D) hx hb hK hP 2 0 rfl rfl (vp_in_nI (by omega) (by omega)) dX4_comesOf_5 ?_
  refine topE (z := ((F 3) k)) (congrArg _ (nI_clamp (n := k) (by omega))) ?_
  refine lv_istore (lv' := [(4, .int ((F 3) k)), (0, .ref (A 0)), (1, .int (nI k)), (2, .int p1), (3, .int p2)]) hx hb dX4_comesOf_6 hl (by decide) rfl (fun ls hl => ?_)
  refine lv_iload hx hb dX4_comesOf_8 (lv_at hl 0 rfl) ?_
  refine lv_aload_n hx hb dX4_comesOf_10 rfl (lv_at hl 1 rfl) ?_
  refine va_get (D := D) (ci := 4) (v := .ref (A 4)) (C := RX4) (T := TX4) (N := 29) hx hb hts inlX4 hown hK hP 0 rfl rfl 4 (by decide) (hts _ kw_61) (fun _ h9 => h9) rfl dX4_comesOf_11 ?_
  refine lv_iload_n hx hb dX4_comesOf_14 rfl (lv_at hl 2 rfl) ?_
  refine va_iald (D := D) hx hb hK hP 3 0 rfl rfl (vp_in_nI (by omega) (by omega)) dX4_comesOf_15 ?_
  refine topE (z := ((F 4) k)) (congrArg _ (nI_clamp (n := k) (by omega))) ?_
  refine lv_iadd hx hb dX4_comesOf_16 ?_
  refine lv_istore (lv' := [(5, .int (((F 3) k) + ((F 4) k))), (4, .int ((F 3) k)), (0, .ref (A 0)), (1, .int (nI k)), (2, .int p1), (3, .int p2)]) hx hb dX4_comesOf_17 hl (by decide) rfl (fun ls hl => ?_)
  refine lv_aload_n hx hb dX4_comesOf_19 rfl (lv_at hl 2 rfl) ?_
  refine lv_iload_n hx hb dX4_comesOf_20 rfl (lv_at hl 3 rfl) ?_
  refine lv_iload_n hx hb dX4_comesOf_21 rfl (lv_at hl 5 rfl) ?_
  refine rcVi (As := [.int (nI k), .int p2]) (rest := []) hx hb hml hown hts hKK hP (c_X4_wetAt l D cI cB cS hn h1 (k := k) (by omega) p2) (cwV2 2 hts kw_327 kw_6 kw_324 kw_325 kw_326 rfl rfl (by decide +kernel) ⟨Nat.le_of_ble_eq_true rfl, Nat.le_of_ble_eq_true rfl⟩) 0 rfl rfl rfl rfl hl.1 rfl (Nat.le_of_ble_eq_true rfl) ⟨Nat.zero_le _, Nat.zero_le _⟩ dX4_comesOf_22 ?_
  refine topE (z := (mWet F (I 6) k p2)) rfl ?_
  refine lv_istore (lv' := [(6, .int (mWet F (I 6) k p2)), (5, .int (((F 3) k) + ((F 4) k))), (4, .int ((F 3) k)), (0, .ref (A 0)), (1, .int (nI k)), (2, .int p1), (3, .int p2)]) hx hb dX4_comesOf_25 hl (by decide) rfl (fun ls hl => ?_)
  refine lv_aload_n hx hb dX4_comesOf_27 rfl (lv_at hl 3 rfl) ?_
  refine va_get (D := D) (ci := 4) (v := .ref (A 2)) (C := RX4) (T := TX4) (N := 29) hx hb hts inlX4 hown hK hP 0 rfl rfl 2 (by decide) (hts _ kw_59) (fun _ h9 => h9) rfl dX4_comesOf_28 ?_
  refine lv_iload_n hx hb dX4_comesOf_31 rfl (lv_at hl 4 rfl) ?_
  refine va_iald (D := D) hx hb hK hP 1 0 rfl rfl (vp_in_nI (by omega) (by omega)) dX4_comesOf_32 ?_
  refine topE (z := ((F 2) k)) (congrArg _ (nI_clamp (n := k) (by omega))) ?_
  refine lv_iconst (v := (1 : Int32)) hx hb dX4_comesOf_33 (by decide) ?_
  refine lv_icmp_eq (tgt := 47) hx hb dX4_comesOf_34 (by decide) (fun c_1 => ?_) (fun c_1 => ?_)
  · refine lv_iconst (v := (1 : Int32)) hx hb dX4_comesOf_47 (by decide) ?_
    refine lv_goto (tgt := 52) hx hb dX4_comesOf_48 (by decide) ?_
    refine lv_istore (lv' := [(7, .int (1 : Int32)), (6, .int (mWet F (I 6) k p2)), (5, .int (((F 3) k) + ((F 4) k))), (4, .int ((F 3) k)), (0, .ref (A 0)), (1, .int (nI k)), (2, .int p1), (3, .int p2)]) hx hb dX4_comesOf_52 hl (by decide) rfl (fun ls hl => ?_)
    refine lv_iload_n hx hb dX4_comesOf_54 rfl (lv_at hl 6 rfl) ?_
    refine lv_iload hx hb dX4_comesOf_55 (lv_at hl 3 rfl) ?_
    refine lv_iload hx hb dX4_comesOf_57 (lv_at hl 2 rfl) ?_
    refine lv_iconst (v := (1 : Int32)) hx hb dX4_comesOf_59 (by decide) ?_
    refine lv_isub hx hb dX4_comesOf_60 ?_
    refine rcSi (As := [.int p1, .int ((F 3) k), .int ((((F 3) k) + ((F 4) k)) - (1 : Int32))]) (rest := []) hx hb hml hown hts hKK hP (c_X4_within l D cI cB cS p1 ((F 3) k) ((((F 3) k) + ((F 4) k)) - (1 : Int32))) (cwS2 3 hts kw_90 kw_6 kw_88 kw_89 rfl rfl (by decide +kernel) ⟨Nat.le_of_ble_eq_true rfl, Nat.le_of_ble_eq_true rfl⟩) rfl hl.1 rfl (Nat.le_of_ble_eq_true rfl) ⟨Nat.zero_le _, Nat.zero_le _⟩ dX4_comesOf_61 ?_
    refine lv_if_eq (tgt := 72) hx hb dX4_comesOf_64 (by decide) (fun c_2 => ?_) (fun c_2 => ?_)
    · have c_2 := b2_z c_2
      refine lv_iload hx hb dX4_comesOf_72 (lv_at hl 0 rfl) ?_
      refine lv_if_eq (tgt := 98) hx hb dX4_comesOf_74 (by decide) (fun c_3 => ?_) (fun c_3 => ?_)
      · exact absurd c_3 (by decide)
      · refine lv_iload_n hx hb dX4_comesOf_77 rfl (lv_at hl 6 rfl) ?_
        refine lv_iload hx hb dX4_comesOf_78 (lv_at hl 3 rfl) ?_
        refine lv_iconst (v := (1 : Int32)) hx hb dX4_comesOf_80 (by decide) ?_
        refine lv_isub hx hb dX4_comesOf_81 ?_
        refine lv_icmp_eq (tgt := 91) hx hb dX4_comesOf_82 (by decide) (fun c_4 => ?_) (fun c_4 => ?_)
        · refine lv_iload hx hb dX4_comesOf_91 (lv_at hl 1 rfl) ?_
          refine lv_iconst (v := (2 : Int32)) hx hb dX4_comesOf_93 (by decide) ?_
          refine lv_idiv hx hb dX4_comesOf_94 (by decide) ?_
          refine lv_goto (tgt := 99) hx hb dX4_comesOf_95 (by decide) ?_
          exact retRi hx hb hr hlk dX4_comesOf_99 (by grind [mOf])
        · refine lv_iload_n hx hb dX4_comesOf_85 rfl (lv_at hl 6 rfl) ?_
          refine lv_iload hx hb dX4_comesOf_86 (lv_at hl 2 rfl) ?_
          refine lv_icmp_ne (tgt := 98) hx hb dX4_comesOf_88 (by decide) (fun c_5 => ?_) (fun c_5 => ?_)
          · refine lv_iconst (v := (0 : Int32)) hx hb dX4_comesOf_98 (by decide) ?_
            exact retRi hx hb hr hlk dX4_comesOf_99 (by grind [mOf])
          · refine lv_iload hx hb dX4_comesOf_91 (lv_at hl 1 rfl) ?_
            refine lv_iconst (v := (2 : Int32)) hx hb dX4_comesOf_93 (by decide) ?_
            refine lv_idiv hx hb dX4_comesOf_94 (by decide) ?_
            refine lv_goto (tgt := 99) hx hb dX4_comesOf_95 (by decide) ?_
            exact retRi hx hb hr hlk dX4_comesOf_99 (by grind [mOf])
    · have c_2 := b2_nz c_2
      refine lv_iload hx hb dX4_comesOf_67 (lv_at hl 1 rfl) ?_
      refine lv_goto (tgt := 99) hx hb dX4_comesOf_69 (by decide) ?_
      exact retRi hx hb hr hlk dX4_comesOf_99 (by grind [mOf])
  · refine lv_aload_n hx hb dX4_comesOf_37 rfl (lv_at hl 3 rfl) ?_
    refine va_get (D := D) (ci := 4) (v := .ref (A 2)) (C := RX4) (T := TX4) (N := 29) hx hb hts inlX4 hown hK hP 0 rfl rfl 2 (by decide) (hts _ kw_59) (fun _ h9 => h9) rfl dX4_comesOf_38 ?_
    refine lv_iload_n hx hb dX4_comesOf_41 rfl (lv_at hl 4 rfl) ?_
    refine va_iald (D := D) hx hb hK hP 1 0 rfl rfl (vp_in_nI (by omega) (by omega)) dX4_comesOf_42 ?_
    refine topE (z := ((F 2) k)) (congrArg _ (nI_clamp (n := k) (by omega))) ?_
    refine lv_iconst (v := (4 : Int32)) hx hb dX4_comesOf_43 (by decide) ?_
    refine lv_icmp_ne (tgt := 51) hx hb dX4_comesOf_44 (by decide) (fun c_6 => ?_) (fun c_6 => ?_)
    · refine lv_iconst (v := (0 : Int32)) hx hb dX4_comesOf_51 (by decide) ?_
      refine lv_istore (lv' := [(7, .int (0 : Int32)), (6, .int (mWet F (I 6) k p2)), (5, .int (((F 3) k) + ((F 4) k))), (4, .int ((F 3) k)), (0, .ref (A 0)), (1, .int (nI k)), (2, .int p1), (3, .int p2)]) hx hb dX4_comesOf_52 hl (by decide) rfl (fun ls hl => ?_)
      refine lv_iload_n hx hb dX4_comesOf_54 rfl (lv_at hl 6 rfl) ?_
      refine lv_iload hx hb dX4_comesOf_55 (lv_at hl 3 rfl) ?_
      refine lv_iload hx hb dX4_comesOf_57 (lv_at hl 2 rfl) ?_
      refine lv_iconst (v := (1 : Int32)) hx hb dX4_comesOf_59 (by decide) ?_
      refine lv_isub hx hb dX4_comesOf_60 ?_
      refine rcSi (As := [.int p1, .int ((F 3) k), .int ((((F 3) k) + ((F 4) k)) - (1 : Int32))]) (rest := []) hx hb hml hown hts hKK hP (c_X4_within l D cI cB cS p1 ((F 3) k) ((((F 3) k) + ((F 4) k)) - (1 : Int32))) (cwS2 3 hts kw_90 kw_6 kw_88 kw_89 rfl rfl (by decide +kernel) ⟨Nat.le_of_ble_eq_true rfl, Nat.le_of_ble_eq_true rfl⟩) rfl hl.1 rfl (Nat.le_of_ble_eq_true rfl) ⟨Nat.zero_le _, Nat.zero_le _⟩ dX4_comesOf_61 ?_
      refine lv_if_eq (tgt := 72) hx hb dX4_comesOf_64 (by decide) (fun c_7 => ?_) (fun c_7 => ?_)
      · have c_7 := b2_z c_7
        refine lv_iload hx hb dX4_comesOf_72 (lv_at hl 0 rfl) ?_
        refine lv_if_eq (tgt := 98) hx hb dX4_comesOf_74 (by decide) (fun c_8 => ?_) (fun c_8 => ?_)
        · refine lv_iconst (v := (0 : Int32)) hx hb dX4_comesOf_98 (by decide) ?_
          exact retRi hx hb hr hlk dX4_comesOf_99 (by grind [mOf])
        · exact absurd c_8 (by decide)
      · have c_7 := b2_nz c_7
        refine lv_iload hx hb dX4_comesOf_67 (lv_at hl 1 rfl) ?_
        refine lv_goto (tgt := 99) hx hb dX4_comesOf_69 (by decide) ?_
        exact retRi hx hb hr hlk dX4_comesOf_99 (by grind [mOf])
    · refine lv_iconst (v := (1 : Int32)) hx hb dX4_comesOf_47 (by decide) ?_
      refine lv_goto (tgt := 52) hx hb dX4_comesOf_48 (by decide) ?_
      refine lv_istore (lv' := [(7, .int (1 : Int32)), (6, .int (mWet F (I 6) k p2)), (5, .int (((F 3) k) + ((F 4) k))), (4, .int ((F 3) k)), (0, .ref (A 0)), (1, .int (nI k)), (2, .int p1), (3, .int p2)]) hx hb dX4_comesOf_52 hl (by decide) rfl (fun ls hl => ?_)
      refine lv_iload_n hx hb dX4_comesOf_54 rfl (lv_at hl 6 rfl) ?_
      refine lv_iload hx hb dX4_comesOf_55 (lv_at hl 3 rfl) ?_
      refine lv_iload hx hb dX4_comesOf_57 (lv_at hl 2 rfl) ?_
      refine lv_iconst (v := (1 : Int32)) hx hb dX4_comesOf_59 (by decide) ?_
      refine lv_isub hx hb dX4_comesOf_60 ?_
      refine rcSi (As := [.int p1, .int ((F 3) k), .int ((((F 3) k) + ((F 4) k)) - (1 : Int32))]) (rest := []) hx hb hml hown hts hKK hP (c_X4_within l D cI cB cS p1 ((F 3) k) ((((F 3) k) + ((F 4) k)) - (1 : Int32))) (cwS2 3 hts kw_90 kw_6 kw_88 kw_89 rfl rfl (by decide +kernel) ⟨Nat.le_of_ble_eq_true rfl, Nat.le_of_ble_eq_true rfl⟩) rfl hl.1 rfl (Nat.le_of_ble_eq_true rfl) ⟨Nat.zero_le _, Nat.zero_le _⟩ dX4_comesOf_61 ?_
      refine lv_if_eq (tgt := 72) hx hb dX4_comesOf_64 (by decide) (fun c_9 => ?_) (fun c_9 => ?_)
      · have c_9 := b2_z c_9
        refine lv_iload hx hb dX4_comesOf_72 (lv_at hl 0 rfl) ?_
        refine lv_if_eq (tgt := 98) hx hb dX4_comesOf_74 (by decide) (fun c_10 => ?_) (fun c_10 => ?_)
        · exact absurd c_10 (by decide)
        · refine lv_iload_n hx hb dX4_comesOf_77 rfl (lv_at hl 6 rfl) ?_
          refine lv_iload hx hb dX4_comesOf_78 (lv_at hl 3 rfl) ?_
          refine lv_iconst (v := (1 : Int32)) hx hb dX4_comesOf_80 (by decide) ?_
          refine lv_isub hx hb dX4_comesOf_81 ?_
          refine lv_icmp_eq (tgt := 91) hx hb dX4_comesOf_82 (by decide) (fun c_11 => ?_) (fun c_11 => ?_)
          · refine lv_iload hx hb dX4_comesOf_91 (lv_at hl 1 rfl) ?_
            refine lv_iconst (v := (2 : Int32)) hx hb dX4_comesOf_93 (by decide) ?_
            refine lv_idiv hx hb dX4_comesOf_94 (by decide) ?_
            refine lv_goto (tgt := 99) hx hb dX4_comesOf_95 (by decide) ?_
            exact retRi hx hb hr hlk dX4_comesOf_99 (by grind [mOf])
          · refine lv_iload_n hx hb dX4_comesOf_85 rfl (lv_at hl 6 rfl) ?_
            refine lv_iload hx hb dX4_comesOf_86 (lv_at hl 2 rfl) ?_
            refine lv_icmp_ne (tgt := 98) hx hb dX4_comesOf_88 (by decide) (fun c_12 => ?_) (fun c_12 => ?_)
            · refine lv_iconst (v := (0 : Int32)) hx hb dX4_comesOf_98 (by decide) ?_
              exact retRi hx hb hr hlk dX4_comesOf_99 (by grind [mOf])
            · refine lv_iload hx hb dX4_comesOf_91 (lv_at hl 1 rfl) ?_
              refine lv_iconst (v := (2 : Int32)) hx hb dX4_comesOf_93 (by decide) ?_
              refine lv_idiv hx hb dX4_comesOf_94 (by decide) ?_
              refine lv_goto (tgt := 99) hx hb dX4_comesOf_95 (by decide) ?_
              exact retRi hx hb hr hlk dX4_comesOf_99 (by grind [mOf])
      · have c_9 := b2_nz c_9
        refine lv_iload hx hb dX4_comesOf_67 (lv_at hl 1 rfl) ?_
        refine lv_goto (tgt := 99) hx hb dX4_comesOf_69 (by decide) ?_
        exact retRi hx hb hr hlk dX4_comesOf_99 (by grind [mOf])
set_option maxHeartbeats 1000000 in
set_option maxRecDepth 100000 in
theorem c_X4_comesTo (l : Launch) (D : va_G) (cI cB cS : ClassId) {A : Nat → Nat} {I : Nat → Int32} {J : Nat → Int64} {F : Nat → Nat → Int32} {n : Nat} (hn : n ≤ 6) (h1 : I 1 = nI n) (p0 p1 : Int32) : Met l yX4_comesTo (Wm yX4_comesTo cX4_comesTo 5 (some .int)) ({ frames := 3, cells := 0, slots := 0, locals := 72 }) (va_Pc [.ref (A 0), .int p0, .int p1] (PR D (TYS cI cB cS) (wsM A cI cB I J F))) (QcV (some (.int (mTo F (I 6) n p0 p1)))) 0 0 (fun _ => False) := by
  refine metR (by decide) [.ref (A 0), .int p0, .int p1] (Nat.le_of_ble_eq_true rfl) ?_
  intro p e s m args below meth c hx hb hml hr hlk hown hts hKK hP ls hl
  obtain ⟨hK, hN⟩ := id hKK
  have hl : lv_has ls 5 [(0, .ref (A 0)), (1, .int p0), (2, .int p1)] := hl
  refine lv_iconst (v := (0 : Int32)) hx hb dX4_comesTo_0 (by decide) ?_
  refine lv_istore_n (lv' := [(3, .int (0 : Int32)), (0, .ref (A 0)), (1, .int p0), (2, .int p1)]) hx hb dX4_comesTo_1 rfl hl (by decide) rfl (fun ls hl => ?_)
  refine lv_iconst (v := (0 : Int32)) hx hb dX4_comesTo_2 (by decide) ?_
  refine lv_istore (lv' := [(4, .int (0 : Int32)), (3, .int (0 : Int32)), (0, .ref (A 0)), (1, .int p0), (2, .int p1)]) hx hb dX4_comesTo_3 hl (by decide) rfl (fun ls hl => ?_)
  have loop_5 : ∀ (z : Nat) (k : Nat) (x3 : Int32) (x4 : Int32), x3 = sumN (fun k => mOf F (I 6) k (9 - p0) p1) k → x4 = nI k → (k ≤ n) → n - k < z → ∀ (ls : Array Slot), lv_has ls 5 [(0, .ref (A 0)), (1, .int p0), (2, .int p1), (3, .int x3), (4, .int x4)] → W p l e ({ frames := 3, cells := 0, slots := 0, locals := 72 } : Room) s m args below meth c s.heap [] 0 0 (MQ below (QcV (some (.int (mTo F (I 6) n p0 p1)))) args s 0 0 (fun _ => False)) (F0 m 5 ls []) := by
    intro z
    induction z with
    | zero =>
      intro k x3 x4 ex3 ex4 hk hz
      exact absurd hz (Nat.not_lt_zero _)
    | succ z ih_5 =>
      intro k x3 x4 ex3 ex4 hk hz ls hl
      subst ex3
      subst ex4
      refine lv_iload hx hb dX4_comesTo_5 (lv_at hl 4 rfl) ?_
      refine lv_aload_n hx hb dX4_comesTo_7 rfl (lv_at hl 0 rfl) ?_
      refine va_get (D := D) (ci := 4) (v := .int (I 1)) (C := RX4) (T := TX4) (N := 29) hx hb hts inlX4 hown hK hP 0 rfl rfl 1 (by decide) (hts _ kw_251) (fun _ h9 => h9) rfl dX4_comesTo_8 ?_
      refine topE (z := (nI n)) h1 ?_
      refine lv_icmp_ge (tgt := 34) hx hb dX4_comesTo_11 (by decide) (fun c_1 => ?_) (fun c_1 => ?_)
      · have nc_1 : n ≤ k := (nI_leI (a := n) (b := k) (by omega) (by omega)).mp c_1
        refine lv_iload_n hx hb dX4_comesTo_34 rfl (lv_at hl 3 rfl) ?_
        exact retRi hx hb hr hlk dX4_comesTo_35 (by have hkn : k = n := (by omega); subst hkn; rfl)
      · have nc_1 : ¬ n ≤ k := fun h => c_1 ((nI_leI (a := n) (b := k) (by omega) (by omega)).mpr h)
        refine lv_iload_n hx hb dX4_comesTo_14 rfl (lv_at hl 3 rfl) ?_
        refine lv_aload_n hx hb dX4_comesTo_15 rfl (lv_at hl 0 rfl) ?_
        refine lv_iload hx hb dX4_comesTo_16 (lv_at hl 4 rfl) ?_
        refine lv_bipush (v := (9 : Int32)) hx hb dX4_comesTo_18 (by decide) ?_
        refine lv_iload_n hx hb dX4_comesTo_20 rfl (lv_at hl 1 rfl) ?_
        refine lv_isub hx hb dX4_comesTo_21 ?_
        refine lv_iload_n hx hb dX4_comesTo_22 rfl (lv_at hl 2 rfl) ?_
        refine rcVi (As := [.int (nI k), .int ((9 : Int32) - p0), .int p1]) (rest := [.int (sumN (fun k => mOf F (I 6) k (9 - p0) p1) k)]) hx hb hml hown hts hKK hP (c_X4_comesOf l D cI cB cS hn h1 (k := k) (by omega) ((9 : Int32) - p0) p1) (cwV2 3 hts kw_323 kw_6 kw_320 kw_321 kw_322 rfl rfl (by decide +kernel) ⟨Nat.le_of_ble_eq_true rfl, Nat.le_of_ble_eq_true rfl⟩) 0 rfl rfl rfl rfl hl.1 rfl (Nat.le_of_ble_eq_true rfl) ⟨Nat.zero_le _, Nat.zero_le _⟩ dX4_comesTo_23 ?_
        refine topE (z := (mOf F (I 6) k ((9 : Int32) - p0) p1)) rfl ?_
        refine lv_iadd hx hb dX4_comesTo_26 ?_
        refine lv_istore_n (lv' := [(3, .int (sumN (fun k => mOf F (I 6) k (9 - p0) p1) k + (mOf F (I 6) k ((9 : Int32) - p0) p1))), (0, .ref (A 0)), (1, .int p0), (2, .int p1), (4, .int (nI k))]) hx hb dX4_comesTo_27 rfl hl (by decide) rfl (fun ls hl => ?_)
        refine lv_iinc (v := (nI (k + 1))) (lv' := [(4, .int (nI (k + 1))), (3, .int (sumN (fun k => mOf F (I 6) k (9 - p0) p1) k + (mOf F (I 6) k ((9 : Int32) - p0) p1))), (0, .ref (A 0)), (1, .int p0), (2, .int p1)]) hx hb dX4_comesTo_28 hl (k := 4) rfl (nI_add k 1) (by decide) rfl (fun ls hl => ?_)
        refine lv_goto (tgt := 5) hx hb dX4_comesTo_31 (by decide) ?_
        exact ih_5 (k + 1) (sumN (fun k => mOf F (I 6) k (9 - p0) p1) k + (mOf F (I 6) k ((9 : Int32) - p0) p1)) (nI (k + 1)) rfl rfl (by omega) (by omega) ls (lv_sub hl [2, 3, 4, 1, 0] rfl)
  exact loop_5 ((n - 0) + 1) 0 (0 : Int32) (0 : Int32) rfl rfl (by omega) (by omega) ls (lv_sub hl [2, 3, 4, 1, 0] rfl)
set_option maxHeartbeats 1000000 in
set_option maxRecDepth 100000 in
theorem c_X4_isFound (l : Launch) (D : va_G) (cI cB cS : ClassId) {A : Nat → Nat} {I : Nat → Int32} {J : Nat → Int64} {F : Nat → Nat → Int32} {n : Nat} (hn : n ≤ 6) (h1 : I 1 = nI n) {fd : Nat} (hfd : fd ≤ 6) (h9 : I 9 = nI fd) : Met l yX4_isFound (Wm yX4_isFound cX4_isFound 3 (some .boolean)) ({ frames := 4, cells := 0, slots := 0, locals := 96 }) (va_Pc [.ref (A 0)] (PR D (TYS cI cB cS) (wsM A cI cB I J F))) (QcV (some (.int (b2 (mAllF F (I 6) n fd))))) 0 0 (fun _ => False) := by
  refine metR (by decide) [.ref (A 0)] (Nat.le_of_ble_eq_true rfl) ?_
  intro p e s m args below meth c hx hb hml hr hlk hown hts hKK hP ls hl
  obtain ⟨hK, hN⟩ := id hKK
  have hl : lv_has ls 3 [(0, .ref (A 0))] := hl
  refine lv_iconst (v := (1 : Int32)) hx hb dX4_isFound_0 (by decide) ?_
  refine lv_istore_n (lv' := [(1, .int (1 : Int32)), (0, .ref (A 0))]) hx hb dX4_isFound_1 rfl hl (by decide) rfl (fun ls hl => ?_)
  refine lv_iconst (v := (0 : Int32)) hx hb dX4_isFound_2 (by decide) ?_
  refine lv_istore_n (lv' := [(2, .int (0 : Int32)), (1, .int (1 : Int32)), (0, .ref (A 0))]) hx hb dX4_isFound_3 rfl hl (by decide) rfl (fun ls hl => ?_)
  have loop_4 : ∀ (z : Nat) (k : Nat) (x1 : Int32) (x2 : Int32), x1 = b2 (∀ i, i < k → mTo F (I 6) n (F 10 i) (F 11 i) = F 12 i) → x2 = nI k → (k ≤ fd) → fd - k < z → ∀ (ls : Array Slot), lv_has ls 3 [(0, .ref (A 0)), (1, .int x1), (2, .int x2)] → W p l e ({ frames := 4, cells := 0, slots := 0, locals := 96 } : Room) s m args below meth c s.heap [] 0 0 (MQ below (QcV (some (.int (b2 (mAllF F (I 6) n fd))))) args s 0 0 (fun _ => False)) (F0 m 4 ls []) := by
    intro z
    induction z with
    | zero =>
      intro k x1 x2 ex1 ex2 hk hz
      exact absurd hz (Nat.not_lt_zero _)
    | succ z ih_4 =>
      intro k x1 x2 ex1 ex2 hk hz ls hl
      subst ex1
      subst ex2
      refine lv_iload_n hx hb dX4_isFound_4 rfl (lv_at hl 2 rfl) ?_
      refine lv_aload_n hx hb dX4_isFound_5 rfl (lv_at hl 0 rfl) ?_
      refine va_get (D := D) (ci := 4) (v := .int (I 9)) (C := RX4) (T := TX4) (N := 29) hx hb hts inlX4 hown hK hP 0 rfl rfl 9 (by decide) (hts _ kw_255) (fun _ h9 => h9) rfl dX4_isFound_6 ?_
      refine topE (z := (nI fd)) h9 ?_
      refine lv_icmp_ge (tgt := 53) hx hb dX4_isFound_9 (by decide) (fun c_1 => ?_) (fun c_1 => ?_)
      · have nc_1 : fd ≤ k := (nI_leI (a := fd) (b := k) (by omega) (by omega)).mp c_1
        refine lv_iload_n hx hb dX4_isFound_53 rfl (lv_at hl 1 rfl) ?_
        exact retRz hx hb hr hlk dX4_isFound_54 (by have hkn : k = fd := (by omega); subst hkn; rfl)
      · have nc_1 : ¬ fd ≤ k := fun h => c_1 ((nI_leI (a := fd) (b := k) (by omega) (by omega)).mpr h)
        refine lv_iload_n hx hb dX4_isFound_12 rfl (lv_at hl 1 rfl) ?_
        refine lv_if_eq (tgt := 45) hx hb dX4_isFound_13 (by decide) (fun c_2 => ?_) (fun c_2 => ?_)
        · have c_2 := b2_z c_2
          refine lv_iconst (v := (0 : Int32)) hx hb dX4_isFound_45 (by decide) ?_
          refine lv_istore_n (lv' := [(1, .int (0 : Int32)), (0, .ref (A 0)), (2, .int (nI k))]) hx hb dX4_isFound_46 rfl hl (by decide) rfl (fun ls hl => ?_)
          refine lv_iinc (v := (nI (k + 1))) (lv' := [(2, .int (nI (k + 1))), (1, .int (0 : Int32)), (0, .ref (A 0))]) hx hb dX4_isFound_47 hl (k := 2) rfl (nI_add k 1) (by decide) rfl (fun ls hl => ?_)
          refine lv_goto (tgt := 4) hx hb dX4_isFound_50 (by decide) ?_
          exact ih_4 (k + 1) (0 : Int32) (nI (k + 1)) (by first | exact b2_f (fun h => absurd (fun i hi => h i (Nat.lt_succ_of_lt hi)) c_2) | exact b2_f (fun h => absurd (h k (by omega)) c_2)) rfl (by omega) (by omega) ls (lv_sub hl [2, 1, 0] rfl)
        · have c_2 := b2_nz c_2
          refine lv_aload_n hx hb dX4_isFound_16 rfl (lv_at hl 0 rfl) ?_
          refine lv_aload_n hx hb dX4_isFound_17 rfl (lv_at hl 0 rfl) ?_
          refine va_get (D := D) (ci := 4) (v := .ref (A 10)) (C := RX4) (T := TX4) (N := 29) hx hb hts inlX4 hown hK hP 0 rfl rfl 10 (by decide) (hts _ kw_64) (fun _ h9 => h9) rfl dX4_isFound_18 ?_
          refine lv_iload_n hx hb dX4_isFound_21 rfl (lv_at hl 2 rfl) ?_
          refine va_iald (D := D) hx hb hK hP 6 0 rfl rfl (vp_in_nI (by omega) (by omega)) dX4_isFound_22 ?_
          refine topE (z := ((F 10) k)) (congrArg _ (nI_clamp (n := k) (by omega))) ?_
          refine lv_aload_n hx hb dX4_isFound_23 rfl (lv_at hl 0 rfl) ?_
          refine va_get (D := D) (ci := 4) (v := .ref (A 11)) (C := RX4) (T := TX4) (N := 29) hx hb hts inlX4 hown hK hP 0 rfl rfl 11 (by decide) (hts _ kw_65) (fun _ h9 => h9) rfl dX4_isFound_24 ?_
          refine lv_iload_n hx hb dX4_isFound_27 rfl (lv_at hl 2 rfl) ?_
          refine va_iald (D := D) hx hb hK hP 7 0 rfl rfl (vp_in_nI (by omega) (by omega)) dX4_isFound_28 ?_
          refine topE (z := ((F 11) k)) (congrArg _ (nI_clamp (n := k) (by omega))) ?_
          refine rcVi (As := [.int ((F 10) k), .int ((F 11) k)]) (rest := []) hx hb hml hown hts hKK hP (c_X4_comesTo l D cI cB cS hn h1 ((F 10) k) ((F 11) k)) (cwV2 2 hts kw_319 kw_6 kw_316 kw_317 kw_318 rfl rfl (by decide +kernel) ⟨Nat.le_of_ble_eq_true rfl, Nat.le_of_ble_eq_true rfl⟩) 0 rfl rfl rfl rfl hl.1 rfl (Nat.le_of_ble_eq_true rfl) ⟨Nat.zero_le _, Nat.zero_le _⟩ dX4_isFound_29 ?_
          refine topE (z := (mTo F (I 6) n ((F 10) k) ((F 11) k))) rfl ?_
          refine lv_aload_n hx hb dX4_isFound_32 rfl (lv_at hl 0 rfl) ?_
          refine va_get (D := D) (ci := 4) (v := .ref (A 12)) (C := RX4) (T := TX4) (N := 29) hx hb hts inlX4 hown hK hP 0 rfl rfl 12 (by decide) (hts _ kw_66) (fun _ h9 => h9) rfl dX4_isFound_33 ?_
          refine lv_iload_n hx hb dX4_isFound_36 rfl (lv_at hl 2 rfl) ?_
          refine va_iald (D := D) hx hb hK hP 8 0 rfl rfl (vp_in_nI (by omega) (by omega)) dX4_isFound_37 ?_
          refine topE (z := ((F 12) k)) (congrArg _ (nI_clamp (n := k) (by omega))) ?_
          refine lv_icmp_ne (tgt := 45) hx hb dX4_isFound_38 (by decide) (fun c_3 => ?_) (fun c_3 => ?_)
          · refine lv_iconst (v := (0 : Int32)) hx hb dX4_isFound_45 (by decide) ?_
            refine lv_istore_n (lv' := [(1, .int (0 : Int32)), (0, .ref (A 0)), (2, .int (nI k))]) hx hb dX4_isFound_46 rfl hl (by decide) rfl (fun ls hl => ?_)
            refine lv_iinc (v := (nI (k + 1))) (lv' := [(2, .int (nI (k + 1))), (1, .int (0 : Int32)), (0, .ref (A 0))]) hx hb dX4_isFound_47 hl (k := 2) rfl (nI_add k 1) (by decide) rfl (fun ls hl => ?_)
            refine lv_goto (tgt := 4) hx hb dX4_isFound_50 (by decide) ?_
            exact ih_4 (k + 1) (0 : Int32) (nI (k + 1)) (by first | exact b2_f (fun h => absurd (fun i hi => h i (Nat.lt_succ_of_lt hi)) c_3) | exact b2_f (fun h => absurd (h k (by omega)) c_3)) rfl (by omega) (by omega) ls (lv_sub hl [2, 1, 0] rfl)
          · refine lv_iconst (v := (1 : Int32)) hx hb dX4_isFound_41 (by decide) ?_
            refine lv_goto (tgt := 46) hx hb dX4_isFound_42 (by decide) ?_
            refine lv_istore_n (lv' := [(1, .int (1 : Int32)), (0, .ref (A 0)), (2, .int (nI k))]) hx hb dX4_isFound_46 rfl hl (by decide) rfl (fun ls hl => ?_)
            refine lv_iinc (v := (nI (k + 1))) (lv' := [(2, .int (nI (k + 1))), (1, .int (1 : Int32)), (0, .ref (A 0))]) hx hb dX4_isFound_47 hl (k := 2) rfl (nI_add k 1) (by decide) rfl (fun ls hl => ?_)
            refine lv_goto (tgt := 4) hx hb dX4_isFound_50 (by decide) ?_
            exact ih_4 (k + 1) (1 : Int32) (nI (k + 1)) (by exact b2_t (fun i hi => by by_cases hik : i = k; (subst hik; assumption); exact c_2 i (by omega))) rfl (by omega) (by omega) ls (lv_sub hl [2, 1, 0] rfl)
  exact loop_4 ((fd - 0) + 1) 0 (1 : Int32) (0 : Int32) (by exact b2_t (fun i hi => absurd hi (by omega))) rfl (by omega) (by omega) ls (lv_sub hl [2, 1, 0] rfl)
set_option maxHeartbeats 1000000 in
set_option maxRecDepth 100000 in
theorem c_X4_heavyOf (l : Launch) (D : va_G) (cI cB cS : ClassId) {A : Nat → Nat} {I : Nat → Int32} {J : Nat → Int64} {F : Nat → Nat → Int32} {n : Nat} (hn : n ≤ 6) (h1 : I 1 = nI n) {fd : Nat} (hfd : fd ≤ 6) (h9 : I 9 = nI fd) {k : Nat} (hk : k < 6) : Met l yX4_heavyOf (Wm yX4_heavyOf cX4_heavyOf 5 (some .int)) ({ frames := 5, cells := 0, slots := 0, locals := 118 }) (va_Pc [.ref (A 0), .int (nI k)] (PW D (TYS cI cB cS) (wsM A cI cB I J F))) (QcW D (some (.int (mHeavy F (I 6) n fd k))) (wsM A cI cB I J F) (wsM A cI cB I J F)) 0 0 (FPw (wsM A cI cB I J F)) := by
  refine metW (by decide) [.ref (A 0), .int (nI k)] (Nat.le_of_ble_eq_true rfl) ?_
  intro p e s m args below meth c hx hb hml hr hlk hown hts hKK hP hD hS ls hl
  obtain ⟨hK, hN⟩ := id hKK
  have hl : lv_has ls 5 [(0, .ref (A 0)), (1, .int (nI k))] := hl
  refine lv_aload_n hx hb dX4_heavyOf_0 rfl (lv_at hl 0 rfl) ?_
  refine va_get (D := D) (ci := 4) (v := .ref (A 5)) (C := RX4) (T := TX4) (N := 29) hx hb hts inlX4 hown hK hP 0 rfl rfl 5 (by decide) (hts _ kw_62) (fun _ h9 => h9) rfl dX4_heavyOf_1 ?_
  refine lv_iload_n hx hb dX4_heavyOf_4 rfl (lv_at hl 1 rfl) ?_
  refine va_iald (D := D) hx hb hK hP 4 0 rfl rfl (vp_in_nI (by omega) (by omega)) dX4_heavyOf_5 ?_
  refine topE (z := ((F 5) k)) (congrArg _ (nI_clamp (n := k) (by omega))) ?_
  refine lv_istore_n (lv' := [(2, .int ((F 5) k)), (0, .ref (A 0)), (1, .int (nI k))]) hx hb dX4_heavyOf_6 rfl hl (by decide) rfl (fun ls hl => ?_)
  refine lv_iconst (v := (0 : Int32)) hx hb dX4_heavyOf_7 (by decide) ?_
  refine lv_istore_n (lv' := [(3, .int (0 : Int32)), (2, .int ((F 5) k)), (0, .ref (A 0)), (1, .int (nI k))]) hx hb dX4_heavyOf_8 rfl hl (by decide) rfl (fun ls hl => ?_)
  refine lv_iconst (v := (1 : Int32)) hx hb dX4_heavyOf_9 (by decide) ?_
  refine lv_istore (lv' := [(4, .int (1 : Int32)), (3, .int (0 : Int32)), (2, .int ((F 5) k)), (0, .ref (A 0)), (1, .int (nI k))]) hx hb dX4_heavyOf_10 hl (by decide) rfl (fun ls hl => ?_)
  have loop_12 : ∀ (z : Nat) (v : Nat) (x3 : Int32) (x4 : Int32), x3 = mBits (fun v => mAllF (mP5 F k (nI (v + 1))) (I 6) n fd) v → x4 = nI (v + 1) → (v ≤ 9) → 9 - v < z → ∀ (H : Heap) (locs : List Loc), va_P D vwCl (wsM A cI cB I J (va_up F 5 (upd (F 5) k (mHx (F 5 k) v)))) H → va_S (FPw (wsM A cI cB I J F)) s.heap H locs → ∀ (ls : Array Slot), lv_has ls 5 [(0, .ref (A 0)), (1, .int (nI k)), (2, .int ((F 5) k)), (3, .int x3), (4, .int x4)] → W p l e ({ frames := 5, cells := 0, slots := 0, locals := 118 } : Room) s m args below meth c H locs 0 0 (MQ below (QcW D (some (.int (mHeavy F (I 6) n fd k))) (wsM A cI cB I J F) (wsM A cI cB I J F)) args s 0 0 (FPw (wsM A cI cB I J F))) (F0 m 12 ls []) := by
    intro z
    induction z with
    | zero =>
      intro v x3 x4 ex3 ex4 hv hz
      exact absurd hz (Nat.not_lt_zero _)
    | succ z ih_12 =>
      intro v x3 x4 ex3 ex4 hv hz H locs hP hS ls hl
      subst ex3
      subst ex4
      have hD := va_D_addr (ws := (wsM A cI cB I J F)) (ws' := (wsM A cI cB I J (va_up F 5 (upd (F 5) k (mHx (F 5 k) v))))) rfl hD
      refine lv_iload hx hb dX4_heavyOf_12 (lv_at hl 4 rfl) ?_
      refine lv_bipush (v := (9 : Int32)) hx hb dX4_heavyOf_14 (by decide) ?_
      refine lv_icmp_gt (tgt := 53) hx hb dX4_heavyOf_16 (by decide) (fun c_1 => ?_) (fun c_1 => ?_)
      · have nc_1 : 9 < (v + 1) := (nI_ltI (a := 9) (b := (v + 1)) (by omega) (by omega)).mp c_1
        refine lv_aload_n hx hb dX4_heavyOf_53 rfl (lv_at hl 0 rfl) ?_
        refine va_get (D := D) (ci := 4) (v := .ref (A 5)) (C := RX4) (T := TX4) (N := 29) hx hb hts inlX4 hown hK hP 0 rfl rfl 5 (by decide) (hts _ kw_62) (fun _ h9 => h9) rfl dX4_heavyOf_54 ?_
        refine lv_iload_n hx hb dX4_heavyOf_57 rfl (lv_at hl 1 rfl) ?_
        refine lv_iload_n hx hb dX4_heavyOf_58 rfl (lv_at hl 2 rfl) ?_
        refine va_iast (D := D) hx hb hK hP hD hS 4 0 rfl rfl (vp_in_nI (by omega) (by omega)) dX4_heavyOf_59 (fun H locs hP hD hS => ?_)
        rw [nI_clamp (n := k) (by omega)] at hP hD
        have hP : va_P D vwCl (wsM A cI cB I J (va_up F 5 (upd (upd (F 5) k (mHx (F 5 k) v)) k ((F 5) k)))) H := hP
        have hD : va_D (FPw (wsM A cI cB I J F)) (wsM A cI cB I J (va_up F 5 (upd (upd (F 5) k (mHx (F 5 k) v)) k ((F 5) k)))) := hD
        refine lv_iload_n hx hb dX4_heavyOf_60 rfl (lv_at hl 3 rfl) ?_
        exact retWi hx hb hr hlk hP hS dX4_heavyOf_61 (by have hvn : v = 9 := (by omega); subst hvn; rfl) (by rw [upd_upd, upd_self]; rfl)
      · have nc_1 : ¬ 9 < (v + 1) := fun h => c_1 ((nI_ltI (a := 9) (b := (v + 1)) (by omega) (by omega)).mpr h)
        refine lv_aload_n hx hb dX4_heavyOf_19 rfl (lv_at hl 0 rfl) ?_
        refine va_get (D := D) (ci := 4) (v := .ref (A 5)) (C := RX4) (T := TX4) (N := 29) hx hb hts inlX4 hown hK hP 0 rfl rfl 5 (by decide) (hts _ kw_62) (fun _ h9 => h9) rfl dX4_heavyOf_20 ?_
        refine lv_iload_n hx hb dX4_heavyOf_23 rfl (lv_at hl 1 rfl) ?_
        refine lv_iload hx hb dX4_heavyOf_24 (lv_at hl 4 rfl) ?_
        refine va_iast (D := D) hx hb hK hP hD hS 4 0 rfl rfl (vp_in_nI (by omega) (by omega)) dX4_heavyOf_26 (fun H locs hP hD hS => ?_)
        rw [nI_clamp (n := k) (by omega)] at hP hD
        have hP : va_P D vwCl (wsM A cI cB I J (va_up F 5 (upd (upd (F 5) k (mHx (F 5 k) v)) k (nI (v + 1))))) H := hP
        have hD : va_D (FPw (wsM A cI cB I J F)) (wsM A cI cB I J (va_up F 5 (upd (upd (F 5) k (mHx (F 5 k) v)) k (nI (v + 1))))) := hD
        rw [upd_upd] at hP hD
        refine lv_iload_n hx hb dX4_heavyOf_27 rfl (lv_at hl 3 rfl) ?_
        refine lv_aload_n hx hb dX4_heavyOf_28 rfl (lv_at hl 0 rfl) ?_
        refine rcVi (As := []) (rest := [.int (mBits (fun v => mAllF (mP5 F k (nI (v + 1))) (I 6) n fd) v)]) hx hb hml hown hts hKK hP (c_X4_isFound l D cI cB cS hn h1 hfd h9 ) (cwV2 0 hts kw_315 kw_6 kw_312 kw_313 kw_314 rfl rfl (by decide +kernel) ⟨Nat.le_of_ble_eq_true rfl, Nat.le_of_ble_eq_true rfl⟩) 0 rfl rfl rfl rfl hl.1 rfl (Nat.le_of_ble_eq_true rfl) ⟨Nat.zero_le _, Nat.zero_le _⟩ dX4_heavyOf_29 ?_
        refine topE (z := (b2 (mAllF (va_up F 5 (upd (F 5) k (nI (v + 1)))) (I 6) n fd))) rfl ?_
        refine lv_if_eq (tgt := 44) hx hb dX4_heavyOf_32 (by decide) (fun c_2 => ?_) (fun c_2 => ?_)
        · have c_2 := b2_z c_2
          refine lv_iconst (v := (0 : Int32)) hx hb dX4_heavyOf_44 (by decide) ?_
          refine lv_ior hx hb dX4_heavyOf_45 ?_
          refine lv_istore_n (lv' := [(3, .int (mBits (fun v => mAllF (mP5 F k (nI (v + 1))) (I 6) n fd) v ||| (0 : Int32))), (0, .ref (A 0)), (1, .int (nI k)), (2, .int ((F 5) k)), (4, .int (nI (v + 1)))]) hx hb dX4_heavyOf_46 rfl hl (by decide) rfl (fun ls hl => ?_)
          refine lv_iinc (v := (nI ((v + 1) + 1))) (lv' := [(4, .int (nI ((v + 1) + 1))), (3, .int (mBits (fun v => mAllF (mP5 F k (nI (v + 1))) (I 6) n fd) v ||| (0 : Int32))), (0, .ref (A 0)), (1, .int (nI k)), (2, .int ((F 5) k))]) hx hb dX4_heavyOf_47 hl (k := 4) rfl (nI_add (v + 1) 1) (by decide) rfl (fun ls hl => ?_)
          refine lv_goto (tgt := 12) hx hb dX4_heavyOf_50 (by decide) ?_
          have hP9 : va_P D vwCl (wsM A cI cB I J (va_up F 5 (upd (F 5) k (mHx (F 5 k) (v + 1))))) H := by exact hP
          exact ih_12 (v + 1) (mBits (fun v => mAllF (mP5 F k (nI (v + 1))) (I 6) n fd) v ||| (0 : Int32)) (nI ((v + 1) + 1)) (by rw [mBits, if_neg c_2]) rfl (by omega) (by omega) H locs hP9 hS ls (lv_sub hl [2, 3, 4, 1, 0] rfl)
        · have c_2 := b2_nz c_2
          refine lv_iconst (v := (1 : Int32)) hx hb dX4_heavyOf_35 (by decide) ?_
          refine lv_iload hx hb dX4_heavyOf_36 (lv_at hl 4 rfl) ?_
          refine lv_iconst (v := (1 : Int32)) hx hb dX4_heavyOf_38 (by decide) ?_
          refine lv_isub hx hb dX4_heavyOf_39 ?_
          refine lv_ishl hx hb dX4_heavyOf_40 ?_
          refine lv_goto (tgt := 45) hx hb dX4_heavyOf_41 (by decide) ?_
          refine lv_ior hx hb dX4_heavyOf_45 ?_
          refine lv_istore_n (lv' := [(3, .int (mBits (fun v => mAllF (mP5 F k (nI (v + 1))) (I 6) n fd) v ||| ((1 : Int32) <<< ((nI (v + 1) - (1 : Int32)) &&& 31)))), (0, .ref (A 0)), (1, .int (nI k)), (2, .int ((F 5) k)), (4, .int (nI (v + 1)))]) hx hb dX4_heavyOf_46 rfl hl (by decide) rfl (fun ls hl => ?_)
          refine lv_iinc (v := (nI ((v + 1) + 1))) (lv' := [(4, .int (nI ((v + 1) + 1))), (3, .int (mBits (fun v => mAllF (mP5 F k (nI (v + 1))) (I 6) n fd) v ||| ((1 : Int32) <<< ((nI (v + 1) - (1 : Int32)) &&& 31)))), (0, .ref (A 0)), (1, .int (nI k)), (2, .int ((F 5) k))]) hx hb dX4_heavyOf_47 hl (k := 4) rfl (nI_add (v + 1) 1) (by decide) rfl (fun ls hl => ?_)
          refine lv_goto (tgt := 12) hx hb dX4_heavyOf_50 (by decide) ?_
          have hP9 : va_P D vwCl (wsM A cI cB I J (va_up F 5 (upd (F 5) k (mHx (F 5 k) (v + 1))))) H := by exact hP
          exact ih_12 (v + 1) (mBits (fun v => mAllF (mP5 F k (nI (v + 1))) (I 6) n fd) v ||| ((1 : Int32) <<< ((nI (v + 1) - (1 : Int32)) &&& 31))) (nI ((v + 1) + 1)) (by rw [mBits, if_pos c_2]) rfl (by omega) (by omega) H locs hP9 hS ls (lv_sub hl [2, 3, 4, 1, 0] rfl)
  have hP9 : va_P D vwCl (wsM A cI cB I J (va_up F 5 (upd (F 5) k (mHx (F 5 k) 0)))) s.heap := by rw [show mHx (F 5 k) 0 = F 5 k from rfl, upd_self]; exact hP
  exact loop_12 ((9 - 0) + 1) 0 (0 : Int32) (1 : Int32) rfl rfl (by omega) (by omega) s.heap [] hP9 hS ls (lv_sub hl [3, 4, 2, 1, 0] rfl)
set_option maxHeartbeats 1000000 in
set_option maxRecDepth 100000 in
theorem c_X4_strokeNow (l : Launch) (D : va_G) (cI cB cS : ClassId) {A : Nat → Nat} {I : Nat → Int32} {J : Nat → Int64} {F : Nat → Nat → Int32} {n : Nat} (hn : n ≤ 6) (h1 : I 1 = nI n) {fd : Nat} (hfd : fd ≤ 6) (h9 : I 9 = nI fd) {k : Nat} (hk : k < 6) (p1 : Int32) : Met l yX4_strokeNow (Wm yX4_strokeNow cX4_strokeNow 3 (some .int)) ({ frames := 6, cells := 0, slots := 0, locals := 142 }) (va_Pc [.ref (A 0), .int (nI k), .int p1] (PW D (TYS cI cB cS) (wsM A cI cB I J F))) (QcW D (some (.int (mStroke F (I 6) n fd k p1))) (wsM A cI cB I J F) (wsM A cI cB I J F)) 0 0 (FPw (wsM A cI cB I J F)) := by
  refine metW (by decide) [.ref (A 0), .int (nI k), .int p1] (Nat.le_of_ble_eq_true rfl) ?_
  intro p e s m args below meth c hx hb hml hr hlk hown hts hKK hP hD hS ls hl
  obtain ⟨hK, hN⟩ := id hKK
  have hl : lv_has ls 3 [(0, .ref (A 0)), (1, .int (nI k)), (2, .int p1)] := hl
  refine lv_iload_n hx hb dX4_strokeNow_0 rfl (lv_at hl 2 rfl) ?_
  by_cases e_1 : p1 = (0 : Int32)
  · refine topE e_1 ?_
    refine lv_tableIn (off := 35) (tgt := 36) hx hb dX4_strokeNow_1 (by decide) (by decide) rfl (by decide) ?_
    refine lv_aload_n hx hb dX4_strokeNow_36 rfl (lv_at hl 0 rfl) ?_
    refine va_get (D := D) (ci := 4) (v := .ref (A 2)) (C := RX4) (T := TX4) (N := 29) hx hb hts inlX4 hown hK hP 0 rfl rfl 2 (by decide) (hts _ kw_59) (fun _ h9 => h9) rfl dX4_strokeNow_37 ?_
    refine lv_iload_n hx hb dX4_strokeNow_40 rfl (lv_at hl 1 rfl) ?_
    refine va_iald (D := D) hx hb hK hP 1 0 rfl rfl (vp_in_nI (by omega) (by omega)) dX4_strokeNow_41 ?_
    refine topE (z := ((F 2) k)) (congrArg _ (nI_clamp (n := k) (by omega))) ?_
    exact retWi hx hb hr hlk hP hS dX4_strokeNow_42 (by grind [mStroke]) rfl
  by_cases e_2 : p1 = (1 : Int32)
  · refine topE e_2 ?_
    refine lv_tableIn (off := 42) (tgt := 43) hx hb dX4_strokeNow_1 (by decide) (by decide) rfl (by decide) ?_
    refine lv_aload_n hx hb dX4_strokeNow_43 rfl (lv_at hl 0 rfl) ?_
    refine va_get (D := D) (ci := 4) (v := .ref (A 3)) (C := RX4) (T := TX4) (N := 29) hx hb hts inlX4 hown hK hP 0 rfl rfl 3 (by decide) (hts _ kw_60) (fun _ h9 => h9) rfl dX4_strokeNow_44 ?_
    refine lv_iload_n hx hb dX4_strokeNow_47 rfl (lv_at hl 1 rfl) ?_
    refine va_iald (D := D) hx hb hK hP 2 0 rfl rfl (vp_in_nI (by omega) (by omega)) dX4_strokeNow_48 ?_
    refine topE (z := ((F 3) k)) (congrArg _ (nI_clamp (n := k) (by omega))) ?_
    exact retWi hx hb hr hlk hP hS dX4_strokeNow_49 (by grind [mStroke]) rfl
  by_cases e_3 : p1 = (2 : Int32)
  · refine topE e_3 ?_
    refine lv_tableIn (off := 49) (tgt := 50) hx hb dX4_strokeNow_1 (by decide) (by decide) rfl (by decide) ?_
    refine lv_aload_n hx hb dX4_strokeNow_50 rfl (lv_at hl 0 rfl) ?_
    refine va_get (D := D) (ci := 4) (v := .ref (A 4)) (C := RX4) (T := TX4) (N := 29) hx hb hts inlX4 hown hK hP 0 rfl rfl 4 (by decide) (hts _ kw_61) (fun _ h9 => h9) rfl dX4_strokeNow_51 ?_
    refine lv_iload_n hx hb dX4_strokeNow_54 rfl (lv_at hl 1 rfl) ?_
    refine va_iald (D := D) hx hb hK hP 3 0 rfl rfl (vp_in_nI (by omega) (by omega)) dX4_strokeNow_55 ?_
    refine topE (z := ((F 4) k)) (congrArg _ (nI_clamp (n := k) (by omega))) ?_
    exact retWi hx hb hr hlk hP hS dX4_strokeNow_56 (by grind [mStroke]) rfl
  by_cases e_4 : p1 = (3 : Int32)
  · refine topE e_4 ?_
    refine lv_tableIn (off := 56) (tgt := 57) hx hb dX4_strokeNow_1 (by decide) (by decide) rfl (by decide) ?_
    refine lv_aload_n hx hb dX4_strokeNow_57 rfl (lv_at hl 0 rfl) ?_
    refine va_get (D := D) (ci := 4) (v := .ref (A 5)) (C := RX4) (T := TX4) (N := 29) hx hb hts inlX4 hown hK hP 0 rfl rfl 5 (by decide) (hts _ kw_62) (fun _ h9 => h9) rfl dX4_strokeNow_58 ?_
    refine lv_iload_n hx hb dX4_strokeNow_61 rfl (lv_at hl 1 rfl) ?_
    refine va_iald (D := D) hx hb hK hP 4 0 rfl rfl (vp_in_nI (by omega) (by omega)) dX4_strokeNow_62 ?_
    refine topE (z := ((F 5) k)) (congrArg _ (nI_clamp (n := k) (by omega))) ?_
    exact retWi hx hb hr hlk hP hS dX4_strokeNow_63 (by grind [mStroke]) rfl
  by_cases e_5 : p1 = (4 : Int32)
  · refine topE e_5 ?_
    refine lv_tableIn (off := 63) (tgt := 64) hx hb dX4_strokeNow_1 (by decide) (by decide) rfl (by decide) ?_
    refine lv_aload_n hx hb dX4_strokeNow_64 rfl (lv_at hl 0 rfl) ?_
    refine va_get (D := D) (ci := 4) (v := .int (I 6)) (C := RX4) (T := TX4) (N := 29) hx hb hts inlX4 hown hK hP 0 rfl rfl 6 (by decide) (hts _ kw_253) (fun _ h9 => h9) rfl dX4_strokeNow_65 ?_
    refine lv_iload_n hx hb dX4_strokeNow_68 rfl (lv_at hl 1 rfl) ?_
    refine lv_ishr hx hb dX4_strokeNow_69 ?_
    refine lv_iconst (v := (1 : Int32)) hx hb dX4_strokeNow_70 (by decide) ?_
    refine lv_iand hx hb dX4_strokeNow_71 ?_
    exact retWi hx hb hr hlk hP hS dX4_strokeNow_72 (by grind [mStroke]) rfl
  have t_6 := lv_neT e_1 (a := 0) rfl
  have t_7 := lv_neT e_2 (a := 1) rfl
  have t_8 := lv_neT e_3 (a := 2) rfl
  have t_9 := lv_neT e_4 (a := 3) rfl
  have t_10 := lv_neT e_5 (a := 4) rfl
  refine lv_tableOut (tgt := 73) hx hb dX4_strokeNow_1 (by omega) (by decide) ?_
  refine lv_aload_n hx hb dX4_strokeNow_73 rfl (lv_at hl 0 rfl) ?_
  refine lv_iload_n hx hb dX4_strokeNow_74 rfl (lv_at hl 1 rfl) ?_
  refine wcVi (As := [.int (nI k)]) (rest := []) hx hb hml hown hts hKK hP hD hS (c_X4_heavyOf l D cI cB cS hn h1 hfd h9 (k := k) (by omega)) (cwV2 1 hts kw_311 kw_6 kw_308 kw_309 kw_310 rfl rfl (by decide +kernel) ⟨Nat.le_of_ble_eq_true rfl, Nat.le_of_ble_eq_true rfl⟩) 0 rfl rfl rfl rfl hl.1 rfl (Nat.le_of_ble_eq_true rfl) ⟨Nat.zero_le _, Nat.zero_le _⟩ dX4_strokeNow_75 (fun H locs hP hS => ?_)
  have hP : va_P D vwCl (wsM A cI cB I J F) H := hP
  have hD : va_D (FPw (wsM A cI cB I J F)) (wsM A cI cB I J F) := va_D_addr (ws := (wsM A cI cB I J F)) rfl hD
  refine topE (z := (mHeavy F (I 6) n fd k)) rfl ?_
  exact retWi hx hb hr hlk hP hS dX4_strokeNow_78 (by grind [mStroke]) rfl
set_option maxHeartbeats 1000000 in
set_option maxRecDepth 100000 in
theorem c_X4_about (l : Launch) (D : va_G) (cI cB cS : ClassId) {A : Nat → Nat} {I : Nat → Int32} {J : Nat → Int64} {F : Nat → Nat → Int32} {n : Nat} (hn : n ≤ 6) (h1 : I 1 = nI n) {fd : Nat} (hfd : fd ≤ 6) (h9 : I 9 = nI fd) (p0 p1 : Int32) : Met l yX4_about (Wm yX4_about cX4_about 3 (some .int)) ({ frames := 7, cells := 0, slots := 0, locals := 164 }) (va_Pc [.ref (A 0), .int p0, .int p1] (PW D (TYS cI cB cS) (wsM A cI cB I J F))) (QcW D (some (.int (mAbout F (I 6) n fd p0 p1))) (wsM A cI cB I J F) (wsM A cI cB I J F)) 0 0 (FPw (wsM A cI cB I J F)) := by
  refine metW (by decide) [.ref (A 0), .int p0, .int p1] (Nat.le_of_ble_eq_true rfl) ?_
  intro p e s m args below meth c hx hb hml hr hlk hown hts hKK hP hD hS ls hl
  obtain ⟨hK, hN⟩ := id hKK
  have hl : lv_has ls 3 [(0, .ref (A 0)), (1, .int p0), (2, .int p1)] := hl
  refine lv_aload_n hx hb dX4_about_0 rfl (lv_at hl 0 rfl) ?_
  refine lv_iload_n hx hb dX4_about_1 rfl (lv_at hl 1 rfl) ?_
  refine rcVi (As := [.int p0]) (rest := []) hx hb hml hown hts hKK hP (c_X4_isStroke l D cI cB cS hn h1 p0) (cwV2 1 hts kw_303 kw_6 kw_300 kw_301 kw_302 rfl rfl (by decide +kernel) ⟨Nat.le_of_ble_eq_true rfl, Nat.le_of_ble_eq_true rfl⟩) 0 rfl rfl rfl rfl hl.1 rfl (Nat.le_of_ble_eq_true rfl) ⟨Nat.zero_le _, Nat.zero_le _⟩ dX4_about_2 ?_
  refine lv_if_ne (tgt := 13) hx hb dX4_about_5 (by decide) (fun c_1 => ?_) (fun c_1 => ?_)
  · have c_1 := b2_nz c_1
    obtain ⟨k, hk, rfl⟩ := okS_nat hn c_1
    have hkc : (nI k).toNatClampNeg = k := nI_clamp (by omega)
    refine lv_iload_n hx hb dX4_about_13 rfl (lv_at hl 2 rfl) ?_
    refine lv_iconst (v := (0 : Int32)) hx hb dX4_about_14 (by decide) ?_
    refine lv_iconst (v := (5 : Int32)) hx hb dX4_about_15 (by decide) ?_
    refine rcSi (As := [.int p1, .int (0 : Int32), .int (5 : Int32)]) (rest := []) hx hb hml hown hts hKK hP (c_X4_within l D cI cB cS p1 (0 : Int32) (5 : Int32)) (cwS2 3 hts kw_90 kw_6 kw_88 kw_89 rfl rfl (by decide +kernel) ⟨Nat.le_of_ble_eq_true rfl, Nat.le_of_ble_eq_true rfl⟩) rfl hl.1 rfl (Nat.le_of_ble_eq_true rfl) ⟨Nat.zero_le _, Nat.zero_le _⟩ dX4_about_16 ?_
    refine lv_if_eq (tgt := 31) hx hb dX4_about_19 (by decide) (fun c_2 => ?_) (fun c_2 => ?_)
    · have c_2 := b2_z c_2
      refine lv_bipush (v := (-102 : Int32)) hx hb dX4_about_31 (by decide) ?_
      exact retWi hx hb hr hlk hP hS dX4_about_33 (by grind [mAbout]) rfl
    · have c_2 := b2_nz c_2
      refine lv_aload_n hx hb dX4_about_22 rfl (lv_at hl 0 rfl) ?_
      refine lv_iload_n hx hb dX4_about_23 rfl (lv_at hl 1 rfl) ?_
      refine lv_iload_n hx hb dX4_about_24 rfl (lv_at hl 2 rfl) ?_
      refine wcVi (As := [.int (nI k), .int p1]) (rest := []) hx hb hml hown hts hKK hP hD hS (c_X4_strokeNow l D cI cB cS hn h1 hfd h9 (k := k) (by omega) p1) (cwV2 2 hts kw_307 kw_6 kw_304 kw_305 kw_306 rfl rfl (by decide +kernel) ⟨Nat.le_of_ble_eq_true rfl, Nat.le_of_ble_eq_true rfl⟩) 0 rfl rfl rfl rfl hl.1 rfl (Nat.le_of_ble_eq_true rfl) ⟨Nat.zero_le _, Nat.zero_le _⟩ dX4_about_25 (fun H locs hP hS => ?_)
      have hP : va_P D vwCl (wsM A cI cB I J F) H := hP
      have hD : va_D (FPw (wsM A cI cB I J F)) (wsM A cI cB I J F) := va_D_addr (ws := (wsM A cI cB I J F)) rfl hD
      refine topE (z := (mStroke F (I 6) n fd k p1)) rfl ?_
      refine lv_goto (tgt := 33) hx hb dX4_about_28 (by decide) ?_
      exact retWi hx hb hr hlk hP hS dX4_about_33 (by grind [mAbout]) rfl
  · have c_1 := b2_z c_1
    refine lv_bipush (v := (-101 : Int32)) hx hb dX4_about_8 (by decide) ?_
    refine lv_goto (tgt := 33) hx hb dX4_about_10 (by decide) ?_
    exact retWi hx hb hr hlk hP hS dX4_about_33 (by grind [mAbout]) rfl
set_option maxHeartbeats 1000000 in
set_option maxRecDepth 100000 in
theorem c_X4_as (l : Launch) (D : va_G) (cI cB cS : ClassId) {A : Nat → Nat} {I : Nat → Int32} {J : Nat → Int64} {F : Nat → Nat → Int32} {n : Nat} (hn : n ≤ 6) (h1 : I 1 = nI n) (p0 p1 : Int32) : Met l yX4_as (Wm yX4_as cX4_as 4 (some .int)) ({ frames := 2, cells := 0, slots := 0, locals := 43 }) (va_Pc [.ref (A 0), .int p0, .int p1] (PR D (TYS cI cB cS) (wsM A cI cB I J F))) (QcV (some (.int (mAs F n p0 p1)))) 0 0 (fun _ => False) := by
  refine metR (by decide) [.ref (A 0), .int p0, .int p1] (Nat.le_of_ble_eq_true rfl) ?_
  intro p e s m args below meth c hx hb hml hr hlk hown hts hKK hP ls hl
  obtain ⟨hK, hN⟩ := id hKK
  have hl : lv_has ls 4 [(0, .ref (A 0)), (1, .int p0), (2, .int p1)] := hl
  refine lv_aload_n hx hb dX4_as_0 rfl (lv_at hl 0 rfl) ?_
  refine lv_iload_n hx hb dX4_as_1 rfl (lv_at hl 1 rfl) ?_
  refine rcVi (As := [.int p0]) (rest := []) hx hb hml hown hts hKK hP (c_X4_isStroke l D cI cB cS hn h1 p0) (cwV2 1 hts kw_303 kw_6 kw_300 kw_301 kw_302 rfl rfl (by decide +kernel) ⟨Nat.le_of_ble_eq_true rfl, Nat.le_of_ble_eq_true rfl⟩) 0 rfl rfl rfl rfl hl.1 rfl (Nat.le_of_ble_eq_true rfl) ⟨Nat.zero_le _, Nat.zero_le _⟩ dX4_as_2 ?_
  refine lv_if_ne (tgt := 11) hx hb dX4_as_5 (by decide) (fun c_1 => ?_) (fun c_1 => ?_)
  · have c_1 := b2_nz c_1
    obtain ⟨k, hk, rfl⟩ := okS_nat hn c_1
    have hkc : (nI k).toNatClampNeg = k := nI_clamp (by omega)
    refine lv_iload_n hx hb dX4_as_11 rfl (lv_at hl 2 rfl) ?_
    refine lv_iconst (v := (0 : Int32)) hx hb dX4_as_12 (by decide) ?_
    refine lv_iconst (v := (4 : Int32)) hx hb dX4_as_13 (by decide) ?_
    refine rcSi (As := [.int p1, .int (0 : Int32), .int (4 : Int32)]) (rest := []) hx hb hml hown hts hKK hP (c_X4_within l D cI cB cS p1 (0 : Int32) (4 : Int32)) (cwS2 3 hts kw_90 kw_6 kw_88 kw_89 rfl rfl (by decide +kernel) ⟨Nat.le_of_ble_eq_true rfl, Nat.le_of_ble_eq_true rfl⟩) rfl hl.1 rfl (Nat.le_of_ble_eq_true rfl) ⟨Nat.zero_le _, Nat.zero_le _⟩ dX4_as_14 ?_
    refine topE (z := (b2 (okKind p1))) rfl ?_
    refine lv_if_ne (tgt := 23) hx hb dX4_as_17 (by decide) (fun c_2 => ?_) (fun c_2 => ?_)
    · have c_2 := b2_nz c_2
      refine lv_aload_n hx hb dX4_as_23 rfl (lv_at hl 0 rfl) ?_
      refine va_get (D := D) (ci := 4) (v := .ref (A 2)) (C := RX4) (T := TX4) (N := 29) hx hb hts inlX4 hown hK hP 0 rfl rfl 2 (by decide) (hts _ kw_59) (fun _ h9 => h9) rfl dX4_as_24 ?_
      refine lv_iload_n hx hb dX4_as_27 rfl (lv_at hl 1 rfl) ?_
      refine va_iald (D := D) hx hb hK hP 1 0 rfl rfl (vp_in_nI (by omega) (by omega)) dX4_as_28 ?_
      refine topE (z := ((F 2) k)) (congrArg _ (nI_clamp (n := k) (by omega))) ?_
      refine lv_istore_n (lv' := [(3, .int ((F 2) k)), (0, .ref (A 0)), (1, .int (nI k)), (2, .int p1)]) hx hb dX4_as_29 rfl hl (by decide) rfl (fun ls hl => ?_)
      refine lv_iload_n hx hb dX4_as_30 rfl (lv_at hl 3 rfl) ?_
      refine lv_if_eq (tgt := 49) hx hb dX4_as_31 (by decide) (fun c_3 => ?_) (fun c_3 => ?_)
      · refine lv_iload_n hx hb dX4_as_49 rfl (lv_at hl 2 rfl) ?_
        refine lv_goto (tgt := 54) hx hb dX4_as_50 (by decide) ?_
        exact retRi hx hb hr hlk dX4_as_54 (by grind [mAs])
      · refine lv_iload_n hx hb dX4_as_34 rfl (lv_at hl 0 rfl) ?_
        refine lv_iload_n hx hb dX4_as_35 rfl (lv_at hl 3 rfl) ?_
        refine lv_icmp_eq (tgt := 49) hx hb dX4_as_36 (by decide) (fun c_4 => ?_) (fun c_4 => ?_)
        · refine lv_iload_n hx hb dX4_as_49 rfl (lv_at hl 2 rfl) ?_
          refine lv_goto (tgt := 54) hx hb dX4_as_50 (by decide) ?_
          exact retRi hx hb hr hlk dX4_as_54 (by grind [mAs])
        · refine lv_iload_n hx hb dX4_as_39 rfl (lv_at hl 3 rfl) ?_
          refine lv_iconst (v := (1 : Int32)) hx hb dX4_as_40 (by decide) ?_
          refine lv_icmp_ne (tgt := 53) hx hb dX4_as_41 (by decide) (fun c_5 => ?_) (fun c_5 => ?_)
          · refine lv_iconst (v := (-1 : Int32)) hx hb dX4_as_53 (by decide) ?_
            exact retRi hx hb hr hlk dX4_as_54 (by grind [mAs])
          · refine lv_iload_n hx hb dX4_as_44 rfl (lv_at hl 0 rfl) ?_
            refine lv_iconst (v := (4 : Int32)) hx hb dX4_as_45 (by decide) ?_
            refine lv_icmp_ne (tgt := 53) hx hb dX4_as_46 (by decide) (fun c_6 => ?_) (fun c_6 => ?_)
            · refine lv_iconst (v := (-1 : Int32)) hx hb dX4_as_53 (by decide) ?_
              exact retRi hx hb hr hlk dX4_as_54 (by grind [mAs])
            · refine lv_iload_n hx hb dX4_as_49 rfl (lv_at hl 2 rfl) ?_
              refine lv_goto (tgt := 54) hx hb dX4_as_50 (by decide) ?_
              exact retRi hx hb hr hlk dX4_as_54 (by grind [mAs])
    · have c_2 := b2_z c_2
      refine lv_bipush (v := (-102 : Int32)) hx hb dX4_as_20 (by decide) ?_
      exact retRi hx hb hr hlk dX4_as_22 (by grind [mAs])
  · have c_1 := b2_z c_1
    refine lv_bipush (v := (-101 : Int32)) hx hb dX4_as_8 (by decide) ?_
    exact retRi hx hb hr hlk dX4_as_10 (by grind [mAs])
set_option maxHeartbeats 1000000 in
set_option maxRecDepth 100000 in
theorem c_X4_write (l : Launch) (D : va_G) (cI cB cS : ClassId) {A : Nat → Nat} {I : Nat → Int32} {J : Nat → Int64} {F : Nat → Nat → Int32} {n : Nat} (hn : n ≤ 6) (h1 : I 1 = nI n) (p0 p1 p2 p3 : Int32) : Met l yX4_write (Wm yX4_write cX4_write 5 (some .int)) ({ frames := 1, cells := 0, slots := 0, locals := 22 }) (va_Pc [.ref (A 0), .int p0, .int p1, .int p2, .int p3] (PW D (TYS cI cB cS) (wsM A cI cB I J F))) (QcW D (some (.int (cWrite n p0 p1 p2 p3))) (wsM A cI cB I J F) (if okW p0 p1 p2 p3 ∧ 0 < n ∧ n < 6 then wsM A cI cB (upd (upd I 6 (I 6 &&& ((1 <<< (nI n &&& 31)) ^^^ (-1)))) 1 (nI (n + 1))) J (va_up (va_up (va_up (va_up F 2 (upd (F 2) n p0)) 3 (upd (F 3) n p1)) 4 (upd (F 4) n (mLong p1 p2))) 5 (upd (F 5) n p3)) else wsM A cI cB I J F)) 0 0 (FPw (wsM A cI cB I J F)) := by
  refine metW (by decide) [.ref (A 0), .int p0, .int p1, .int p2, .int p3] (Nat.le_of_ble_eq_true rfl) ?_
  intro p e s m args below meth c hx hb hml hr hlk hown hts hKK hP hD hS ls hl
  obtain ⟨hK, hN⟩ := id hKK
  have hl : lv_has ls 5 [(0, .ref (A 0)), (1, .int p0), (2, .int p1), (3, .int p2), (4, .int p3)] := hl
  refine lv_iload_n hx hb dX4_write_0 rfl (lv_at hl 1 rfl) ?_
  refine lv_iconst (v := (0 : Int32)) hx hb dX4_write_1 (by decide) ?_
  refine lv_iconst (v := (4 : Int32)) hx hb dX4_write_2 (by decide) ?_
  refine rcSi (As := [.int p0, .int (0 : Int32), .int (4 : Int32)]) (rest := []) hx hb hml hown hts hKK hP (c_X4_within l D cI cB cS p0 (0 : Int32) (4 : Int32)) (cwS2 3 hts kw_90 kw_6 kw_88 kw_89 rfl rfl (by decide +kernel) ⟨Nat.le_of_ble_eq_true rfl, Nat.le_of_ble_eq_true rfl⟩) rfl hl.1 rfl (Nat.le_of_ble_eq_true rfl) ⟨Nat.zero_le _, Nat.zero_le _⟩ dX4_write_3 ?_
  refine topE (z := (b2 (okKind p0))) rfl ?_
  refine lv_if_eq (tgt := 39) hx hb dX4_write_6 (by decide) (fun c_1 => ?_) (fun c_1 => ?_)
  · have c_1 := b2_z c_1
    refine lv_bipush (v := (-102 : Int32)) hx hb dX4_write_39 (by decide) ?_
    exact retWi hx hb hr hlk hP hS dX4_write_41 (by grind [cWrite]) (by first | exact (if_pos (by grind)).symm | exact (if_neg (by grind)).symm)
  · have c_1 := b2_nz c_1
    refine lv_iload_n hx hb dX4_write_9 rfl (lv_at hl 2 rfl) ?_
    refine lv_iconst (v := (0 : Int32)) hx hb dX4_write_10 (by decide) ?_
    refine lv_bipush (v := (9 : Int32)) hx hb dX4_write_11 (by decide) ?_
    refine rcSi (As := [.int p1, .int (0 : Int32), .int (9 : Int32)]) (rest := []) hx hb hml hown hts hKK hP (c_X4_within l D cI cB cS p1 (0 : Int32) (9 : Int32)) (cwS2 3 hts kw_90 kw_6 kw_88 kw_89 rfl rfl (by decide +kernel) ⟨Nat.le_of_ble_eq_true rfl, Nat.le_of_ble_eq_true rfl⟩) rfl hl.1 rfl (Nat.le_of_ble_eq_true rfl) ⟨Nat.zero_le _, Nat.zero_le _⟩ dX4_write_13 ?_
    refine topE (z := (b2 (okCell p1))) (b2_congr okCell_iff) ?_
    refine lv_if_eq (tgt := 39) hx hb dX4_write_16 (by decide) (fun c_2 => ?_) (fun c_2 => ?_)
    · have c_2 := b2_z c_2
      refine lv_bipush (v := (-102 : Int32)) hx hb dX4_write_39 (by decide) ?_
      exact retWi hx hb hr hlk hP hS dX4_write_41 (by grind [cWrite]) (by first | exact (if_pos (by grind)).symm | exact (if_neg (by grind)).symm)
    · have c_2 := b2_nz c_2
      refine lv_iload_n hx hb dX4_write_19 rfl (lv_at hl 3 rfl) ?_
      refine lv_iconst (v := (1 : Int32)) hx hb dX4_write_20 (by decide) ?_
      refine lv_iconst (v := (5 : Int32)) hx hb dX4_write_21 (by decide) ?_
      refine rcSi (As := [.int p2, .int (1 : Int32), .int (5 : Int32)]) (rest := []) hx hb hml hown hts hKK hP (c_X4_within l D cI cB cS p2 (1 : Int32) (5 : Int32)) (cwS2 3 hts kw_90 kw_6 kw_88 kw_89 rfl rfl (by decide +kernel) ⟨Nat.le_of_ble_eq_true rfl, Nat.le_of_ble_eq_true rfl⟩) rfl hl.1 rfl (Nat.le_of_ble_eq_true rfl) ⟨Nat.zero_le _, Nat.zero_le _⟩ dX4_write_22 ?_
      refine lv_if_eq (tgt := 39) hx hb dX4_write_25 (by decide) (fun c_3 => ?_) (fun c_3 => ?_)
      · have c_3 := b2_z c_3
        refine lv_bipush (v := (-102 : Int32)) hx hb dX4_write_39 (by decide) ?_
        exact retWi hx hb hr hlk hP hS dX4_write_41 (by grind [cWrite]) (by first | exact (if_pos (by grind)).symm | exact (if_neg (by grind)).symm)
      · have c_3 := b2_nz c_3
        refine lv_iload hx hb dX4_write_28 (lv_at hl 4 rfl) ?_
        refine lv_iconst (v := (1 : Int32)) hx hb dX4_write_30 (by decide) ?_
        refine lv_bipush (v := (9 : Int32)) hx hb dX4_write_31 (by decide) ?_
        refine rcSi (As := [.int p3, .int (1 : Int32), .int (9 : Int32)]) (rest := []) hx hb hml hown hts hKK hP (c_X4_within l D cI cB cS p3 (1 : Int32) (9 : Int32)) (cwS2 3 hts kw_90 kw_6 kw_88 kw_89 rfl rfl (by decide +kernel) ⟨Nat.le_of_ble_eq_true rfl, Nat.le_of_ble_eq_true rfl⟩) rfl hl.1 rfl (Nat.le_of_ble_eq_true rfl) ⟨Nat.zero_le _, Nat.zero_le _⟩ dX4_write_33 ?_
        refine lv_if_ne (tgt := 42) hx hb dX4_write_36 (by decide) (fun c_4 => ?_) (fun c_4 => ?_)
        · have c_4 := b2_nz c_4
          refine lv_aload_n hx hb dX4_write_42 rfl (lv_at hl 0 rfl) ?_
          refine va_get (D := D) (ci := 4) (v := .int (I 1)) (C := RX4) (T := TX4) (N := 29) hx hb hts inlX4 hown hK hP 0 rfl rfl 1 (by decide) (hts _ kw_251) (fun _ h9 => h9) rfl dX4_write_43 ?_
          refine topE (z := (nI n)) h1 ?_
          refine lv_if_ne (tgt := 52) hx hb dX4_write_46 (by decide) (fun c_5 => ?_) (fun c_5 => ?_)
          · have nc_5 : ¬ n = 0 := fun h => c_5 ((nI_eq (a := n) (b := 0) (by omega) (by omega)).mpr h)
            refine lv_aload_n hx hb dX4_write_52 rfl (lv_at hl 0 rfl) ?_
            refine va_get (D := D) (ci := 4) (v := .int (I 1)) (C := RX4) (T := TX4) (N := 29) hx hb hts inlX4 hown hK hP 0 rfl rfl 1 (by decide) (hts _ kw_251) (fun _ h9 => h9) rfl dX4_write_53 ?_
            refine topE (z := (nI n)) h1 ?_
            refine lv_bipush (v := (6 : Int32)) hx hb dX4_write_56 (by decide) ?_
            refine lv_icmp_ne (tgt := 64) hx hb dX4_write_58 (by decide) (fun c_6 => ?_) (fun c_6 => ?_)
            · have nc_6 : ¬ n = 6 := fun h => c_6 ((nI_eq (a := n) (b := 6) (by omega) (by omega)).mpr h)
              refine lv_aload_n hx hb dX4_write_64 rfl (lv_at hl 0 rfl) ?_
              refine va_get (D := D) (ci := 4) (v := .ref (A 2)) (C := RX4) (T := TX4) (N := 29) hx hb hts inlX4 hown hK hP 0 rfl rfl 2 (by decide) (hts _ kw_59) (fun _ h9 => h9) rfl dX4_write_65 ?_
              refine lv_aload_n hx hb dX4_write_68 rfl (lv_at hl 0 rfl) ?_
              refine va_get (D := D) (ci := 4) (v := .int (I 1)) (C := RX4) (T := TX4) (N := 29) hx hb hts inlX4 hown hK hP 0 rfl rfl 1 (by decide) (hts _ kw_251) (fun _ h9 => h9) rfl dX4_write_69 ?_
              refine topE (z := (nI n)) h1 ?_
              refine lv_iload_n hx hb dX4_write_72 rfl (lv_at hl 1 rfl) ?_
              refine va_iast (D := D) hx hb hK hP hD hS 1 0 rfl rfl (vp_in_nI (by omega) (by omega)) dX4_write_73 (fun H locs hP hD hS => ?_)
              rw [nI_clamp (n := n) (by omega)] at hP hD
              have hP : va_P D vwCl (wsM A cI cB I J (va_up F 2 (upd (F 2) n p0))) H := hP
              have hD : va_D (FPw (wsM A cI cB I J F)) (wsM A cI cB I J (va_up F 2 (upd (F 2) n p0))) := hD
              refine lv_aload_n hx hb dX4_write_74 rfl (lv_at hl 0 rfl) ?_
              refine va_get (D := D) (ci := 4) (v := .ref (A 3)) (C := RX4) (T := TX4) (N := 29) hx hb hts inlX4 hown hK hP 0 rfl rfl 3 (by decide) (hts _ kw_60) (fun _ h9 => h9) rfl dX4_write_75 ?_
              refine lv_aload_n hx hb dX4_write_78 rfl (lv_at hl 0 rfl) ?_
              refine va_get (D := D) (ci := 4) (v := .int (I 1)) (C := RX4) (T := TX4) (N := 29) hx hb hts inlX4 hown hK hP 0 rfl rfl 1 (by decide) (hts _ kw_251) (fun _ h9 => h9) rfl dX4_write_79 ?_
              refine topE (z := (nI n)) h1 ?_
              refine lv_iload_n hx hb dX4_write_82 rfl (lv_at hl 2 rfl) ?_
              refine va_iast (D := D) hx hb hK hP hD hS 2 0 rfl rfl (vp_in_nI (by omega) (by omega)) dX4_write_83 (fun H locs hP hD hS => ?_)
              rw [nI_clamp (n := n) (by omega)] at hP hD
              have hP : va_P D vwCl (wsM A cI cB I J (va_up (va_up F 2 (upd (F 2) n p0)) 3 (upd (F 3) n p1))) H := hP
              have hD : va_D (FPw (wsM A cI cB I J F)) (wsM A cI cB I J (va_up (va_up F 2 (upd (F 2) n p0)) 3 (upd (F 3) n p1))) := hD
              refine lv_aload_n hx hb dX4_write_84 rfl (lv_at hl 0 rfl) ?_
              refine va_get (D := D) (ci := 4) (v := .ref (A 4)) (C := RX4) (T := TX4) (N := 29) hx hb hts inlX4 hown hK hP 0 rfl rfl 4 (by decide) (hts _ kw_61) (fun _ h9 => h9) rfl dX4_write_85 ?_
              refine lv_aload_n hx hb dX4_write_88 rfl (lv_at hl 0 rfl) ?_
              refine va_get (D := D) (ci := 4) (v := .int (I 1)) (C := RX4) (T := TX4) (N := 29) hx hb hts inlX4 hown hK hP 0 rfl rfl 1 (by decide) (hts _ kw_251) (fun _ h9 => h9) rfl dX4_write_89 ?_
              refine topE (z := (nI n)) h1 ?_
              refine lv_iload_n hx hb dX4_write_92 rfl (lv_at hl 2 rfl) ?_
              refine lv_iload_n hx hb dX4_write_93 rfl (lv_at hl 3 rfl) ?_
              refine rcSi (As := [.int p1, .int p2]) (rest := [.int (nI n), .ref (A 4)]) hx hb hml hown hts hKK hP (c_X4_longAt l D cI cB cS p1 p2) (cwS2 2 hts kw_258 kw_6 kw_256 kw_257 rfl rfl (by decide +kernel) ⟨Nat.le_of_ble_eq_true rfl, Nat.le_of_ble_eq_true rfl⟩) rfl hl.1 rfl (Nat.le_of_ble_eq_true rfl) ⟨Nat.zero_le _, Nat.zero_le _⟩ dX4_write_94 ?_
              refine va_iast (D := D) hx hb hK hP hD hS 3 0 rfl rfl (vp_in_nI (by omega) (by omega)) dX4_write_97 (fun H locs hP hD hS => ?_)
              rw [nI_clamp (n := n) (by omega)] at hP hD
              have hP : va_P D vwCl (wsM A cI cB I J (va_up (va_up (va_up F 2 (upd (F 2) n p0)) 3 (upd (F 3) n p1)) 4 (upd (F 4) n (mLong p1 p2)))) H := hP
              have hD : va_D (FPw (wsM A cI cB I J F)) (wsM A cI cB I J (va_up (va_up (va_up F 2 (upd (F 2) n p0)) 3 (upd (F 3) n p1)) 4 (upd (F 4) n (mLong p1 p2)))) := hD
              refine lv_aload_n hx hb dX4_write_98 rfl (lv_at hl 0 rfl) ?_
              refine va_get (D := D) (ci := 4) (v := .ref (A 5)) (C := RX4) (T := TX4) (N := 29) hx hb hts inlX4 hown hK hP 0 rfl rfl 5 (by decide) (hts _ kw_62) (fun _ h9 => h9) rfl dX4_write_99 ?_
              refine lv_aload_n hx hb dX4_write_102 rfl (lv_at hl 0 rfl) ?_
              refine va_get (D := D) (ci := 4) (v := .int (I 1)) (C := RX4) (T := TX4) (N := 29) hx hb hts inlX4 hown hK hP 0 rfl rfl 1 (by decide) (hts _ kw_251) (fun _ h9 => h9) rfl dX4_write_103 ?_
              refine topE (z := (nI n)) h1 ?_
              refine lv_iload hx hb dX4_write_106 (lv_at hl 4 rfl) ?_
              refine va_iast (D := D) hx hb hK hP hD hS 4 0 rfl rfl (vp_in_nI (by omega) (by omega)) dX4_write_108 (fun H locs hP hD hS => ?_)
              rw [nI_clamp (n := n) (by omega)] at hP hD
              have hP : va_P D vwCl (wsM A cI cB I J (va_up (va_up (va_up (va_up F 2 (upd (F 2) n p0)) 3 (upd (F 3) n p1)) 4 (upd (F 4) n (mLong p1 p2))) 5 (upd (F 5) n p3))) H := hP
              have hD : va_D (FPw (wsM A cI cB I J F)) (wsM A cI cB I J (va_up (va_up (va_up (va_up F 2 (upd (F 2) n p0)) 3 (upd (F 3) n p1)) 4 (upd (F 4) n (mLong p1 p2))) 5 (upd (F 5) n p3))) := hD
              refine lv_aload_n hx hb dX4_write_109 rfl (lv_at hl 0 rfl) ?_
              refine lv_dup hx hb dX4_write_110 rfl ?_
              refine va_get (D := D) (ci := 4) (v := .int (I 6)) (C := RX4) (T := TX4) (N := 29) hx hb hts inlX4 hown hK hP 0 rfl rfl 6 (by decide) (hts _ kw_253) (fun _ h9 => h9) rfl dX4_write_111 ?_
              refine lv_iconst (v := (1 : Int32)) hx hb dX4_write_114 (by decide) ?_
              refine lv_aload_n hx hb dX4_write_115 rfl (lv_at hl 0 rfl) ?_
              refine va_get (D := D) (ci := 4) (v := .int (I 1)) (C := RX4) (T := TX4) (N := 29) hx hb hts inlX4 hown hK hP 0 rfl rfl 1 (by decide) (hts _ kw_251) (fun _ h9 => h9) rfl dX4_write_116 ?_
              refine topE (z := (nI n)) h1 ?_
              refine lv_ishl hx hb dX4_write_119 ?_
              refine lv_iconst (v := (-1 : Int32)) hx hb dX4_write_120 (by decide) ?_
              refine lv_ixor hx hb dX4_write_121 ?_
              refine lv_iand hx hb dX4_write_122 ?_
              refine va_put (D := D) (ci := 4) (v := .int ((I 6) &&& (((1 : Int32) <<< ((nI n) &&& 31)) ^^^ (-1 : Int32)))) (ty := tyX4 6) (C := RX4) (T := TX4) (N := 29) hx hb hts inlX4 tyX4 tyX4_ok nmX4 hown hK hP hD hS 0 rfl rfl 6 (by decide) (hts _ kw_253) (fun _ h9 => h9) rfl (tyX4_ok 6 (by decide)) rfl rfl (Nat.le_of_ble_eq_true rfl) dX4_write_123 (fun H locs hP hD hS => ?_)
              have hP : va_P D vwCl (wsM A cI cB (upd I 6 ((I 6) &&& (((1 : Int32) <<< ((nI n) &&& 31)) ^^^ (-1 : Int32)))) J (va_up (va_up (va_up (va_up F 2 (upd (F 2) n p0)) 3 (upd (F 3) n p1)) 4 (upd (F 4) n (mLong p1 p2))) 5 (upd (F 5) n p3))) H := hP
              have hD : va_D (FPw (wsM A cI cB I J F)) (wsM A cI cB (upd I 6 ((I 6) &&& (((1 : Int32) <<< ((nI n) &&& 31)) ^^^ (-1 : Int32)))) J (va_up (va_up (va_up (va_up F 2 (upd (F 2) n p0)) 3 (upd (F 3) n p1)) 4 (upd (F 4) n (mLong p1 p2))) 5 (upd (F 5) n p3))) := hD
              refine lv_aload_n hx hb dX4_write_126 rfl (lv_at hl 0 rfl) ?_
              refine lv_dup hx hb dX4_write_127 rfl ?_
              refine va_get (D := D) (ci := 4) (v := .int (I 1)) (C := RX4) (T := TX4) (N := 29) hx hb hts inlX4 hown hK hP 0 rfl rfl 1 (by decide) (hts _ kw_251) (fun _ h9 => h9) rfl dX4_write_128 ?_
              refine topE (z := (nI n)) h1 ?_
              refine lv_iconst (v := (1 : Int32)) hx hb dX4_write_131 (by decide) ?_
              refine lv_iadd hx hb dX4_write_132 ?_
              refine topE (z := (nI (n + 1))) (nI_add n 1) ?_
              refine va_put (D := D) (ci := 4) (v := .int (nI (n + 1))) (ty := tyX4 1) (C := RX4) (T := TX4) (N := 29) hx hb hts inlX4 tyX4 tyX4_ok nmX4 hown hK hP hD hS 0 rfl rfl 1 (by decide) (hts _ kw_251) (fun _ h9 => h9) rfl (tyX4_ok 1 (by decide)) rfl rfl (Nat.le_of_ble_eq_true rfl) dX4_write_133 (fun H locs hP hD hS => ?_)
              have hP : va_P D vwCl (wsM A cI cB (upd (upd I 6 ((I 6) &&& (((1 : Int32) <<< ((nI n) &&& 31)) ^^^ (-1 : Int32)))) 1 (nI (n + 1))) J (va_up (va_up (va_up (va_up F 2 (upd (F 2) n p0)) 3 (upd (F 3) n p1)) 4 (upd (F 4) n (mLong p1 p2))) 5 (upd (F 5) n p3))) H := hP
              have hD : va_D (FPw (wsM A cI cB I J F)) (wsM A cI cB (upd (upd I 6 ((I 6) &&& (((1 : Int32) <<< ((nI n) &&& 31)) ^^^ (-1 : Int32)))) 1 (nI (n + 1))) J (va_up (va_up (va_up (va_up F 2 (upd (F 2) n p0)) 3 (upd (F 3) n p1)) 4 (upd (F 4) n (mLong p1 p2))) 5 (upd (F 5) n p3))) := hD
              refine lv_aload_n hx hb dX4_write_136 rfl (lv_at hl 0 rfl) ?_
              refine va_get (D := D) (ci := 4) (v := .int (nI (n + 1))) (C := RX4) (T := TX4) (N := 29) hx hb hts inlX4 hown hK hP 0 rfl rfl 1 (by decide) (hts _ kw_251) (fun _ h9 => h9) rfl dX4_write_137 ?_
              refine lv_iconst (v := (1 : Int32)) hx hb dX4_write_140 (by decide) ?_
              refine lv_isub hx hb dX4_write_141 ?_
              refine topE (z := (nI n)) (by exact nI_pred n) ?_
              exact retWi hx hb hr hlk hP hS dX4_write_142 (by grind [cWrite]) (by first | exact (if_pos (by grind)).symm | exact (if_neg (by grind)).symm)
            · have nc_6 : n = 6 := (nI_eq (a := n) (b := 6) (by omega) (by omega)).mp c_6
              refine lv_bipush (v := (-104 : Int32)) hx hb dX4_write_61 (by decide) ?_
              exact retWi hx hb hr hlk hP hS dX4_write_63 (by grind [cWrite]) (by first | exact (if_pos (by grind)).symm | exact (if_neg (by grind)).symm)
          · have nc_5 : n = 0 := (nI_eq (a := n) (b := 0) (by omega) (by omega)).mp c_5
            refine lv_bipush (v := (-103 : Int32)) hx hb dX4_write_49 (by decide) ?_
            exact retWi hx hb hr hlk hP hS dX4_write_51 (by grind [cWrite]) (by first | exact (if_pos (by grind)).symm | exact (if_neg (by grind)).symm)
        · have c_4 := b2_z c_4
          refine lv_bipush (v := (-102 : Int32)) hx hb dX4_write_39 (by decide) ?_
          exact retWi hx hb hr hlk hP hS dX4_write_41 (by grind [cWrite]) (by first | exact (if_pos (by grind)).symm | exact (if_neg (by grind)).symm)
set_option maxHeartbeats 1000000 in
set_option maxRecDepth 100000 in
theorem c_X4_sand (l : Launch) (D : va_G) (cI cB cS : ClassId) {A : Nat → Nat} {I : Nat → Int32} {J : Nat → Int64} {F : Nat → Nat → Int32} {n : Nat} (hn : n ≤ 6) (h1 : I 1 = nI n) (p0 p1 : Int32) : Met l yX4_sand (Wm yX4_sand cX4_sand 4 (some .int)) ({ frames := 2, cells := 0, slots := 0, locals := 43 }) (va_Pc [.ref (A 0), .int p0, .int p1] (PW D (TYS cI cB cS) (wsM A cI cB I J F))) (QcW D (some (.int (if okS n p0 then (I 6 >>> (p0 &&& 31)) &&& 1 else -101))) (wsM A cI cB I J F) (if okS n p0 then wsM A cI cB (upd I 6 (cPut (I 6) p0 p1)) J F else wsM A cI cB I J F)) 0 0 (FPw (wsM A cI cB I J F)) := by
  refine metW (by decide) [.ref (A 0), .int p0, .int p1] (Nat.le_of_ble_eq_true rfl) ?_
  intro p e s m args below meth c hx hb hml hr hlk hown hts hKK hP hD hS ls hl
  obtain ⟨hK, hN⟩ := id hKK
  have hl : lv_has ls 4 [(0, .ref (A 0)), (1, .int p0), (2, .int p1)] := hl
  refine lv_aload_n hx hb dX4_sand_0 rfl (lv_at hl 0 rfl) ?_
  refine lv_iload_n hx hb dX4_sand_1 rfl (lv_at hl 1 rfl) ?_
  refine rcVi (As := [.int p0]) (rest := []) hx hb hml hown hts hKK hP (c_X4_isStroke l D cI cB cS hn h1 p0) (cwV2 1 hts kw_303 kw_6 kw_300 kw_301 kw_302 rfl rfl (by decide +kernel) ⟨Nat.le_of_ble_eq_true rfl, Nat.le_of_ble_eq_true rfl⟩) 0 rfl rfl rfl rfl hl.1 rfl (Nat.le_of_ble_eq_true rfl) ⟨Nat.zero_le _, Nat.zero_le _⟩ dX4_sand_2 ?_
  refine lv_if_ne (tgt := 11) hx hb dX4_sand_5 (by decide) (fun c_1 => ?_) (fun c_1 => ?_)
  · have c_1 := b2_nz c_1
    refine lv_aload_n hx hb dX4_sand_11 rfl (lv_at hl 0 rfl) ?_
    refine va_get (D := D) (ci := 4) (v := .int (I 6)) (C := RX4) (T := TX4) (N := 29) hx hb hts inlX4 hown hK hP 0 rfl rfl 6 (by decide) (hts _ kw_253) (fun _ h9 => h9) rfl dX4_sand_12 ?_
    refine lv_iload_n hx hb dX4_sand_15 rfl (lv_at hl 1 rfl) ?_
    refine lv_ishr hx hb dX4_sand_16 ?_
    refine lv_iconst (v := (1 : Int32)) hx hb dX4_sand_17 (by decide) ?_
    refine lv_iand hx hb dX4_sand_18 ?_
    refine lv_istore_n (lv' := [(3, .int (((I 6) >>> (p0 &&& 31)) &&& (1 : Int32))), (0, .ref (A 0)), (1, .int p0), (2, .int p1)]) hx hb dX4_sand_19 rfl hl (by decide) rfl (fun ls hl => ?_)
    refine lv_aload_n hx hb dX4_sand_20 rfl (lv_at hl 1 rfl) ?_
    refine lv_iload_n hx hb dX4_sand_21 rfl (lv_at hl 3 rfl) ?_
    refine lv_if_eq (tgt := 36) hx hb dX4_sand_22 (by decide) (fun c_2 => ?_) (fun c_2 => ?_)
    · refine lv_aload_n hx hb dX4_sand_36 rfl (lv_at hl 1 rfl) ?_
      refine va_get (D := D) (ci := 4) (v := .int (I 6)) (C := RX4) (T := TX4) (N := 29) hx hb hts inlX4 hown hK hP 0 rfl rfl 6 (by decide) (hts _ kw_253) (fun _ h9 => h9) rfl dX4_sand_37 ?_
      refine lv_iconst (v := (1 : Int32)) hx hb dX4_sand_40 (by decide) ?_
      refine lv_iload_n hx hb dX4_sand_41 rfl (lv_at hl 2 rfl) ?_
      refine lv_ishl hx hb dX4_sand_42 ?_
      refine lv_iconst (v := (-1 : Int32)) hx hb dX4_sand_43 (by decide) ?_
      refine lv_ixor hx hb dX4_sand_44 ?_
      refine lv_iand hx hb dX4_sand_45 ?_
      refine va_put (D := D) (ci := 4) (v := .int ((I 6) &&& (((1 : Int32) <<< (p0 &&& 31)) ^^^ (-1 : Int32)))) (ty := tyX4 6) (C := RX4) (T := TX4) (N := 29) hx hb hts inlX4 tyX4 tyX4_ok nmX4 hown hK hP hD hS 0 rfl rfl 6 (by decide) (hts _ kw_253) (fun _ h9 => h9) rfl (tyX4_ok 6 (by decide)) rfl rfl (Nat.le_of_ble_eq_true rfl) dX4_sand_46 (fun H locs hP hD hS => ?_)
      have hP : va_P D vwCl (wsM A cI cB (upd I 6 ((I 6) &&& (((1 : Int32) <<< (p0 &&& 31)) ^^^ (-1 : Int32)))) J F) H := hP
      have hD : va_D (FPw (wsM A cI cB I J F)) (wsM A cI cB (upd I 6 ((I 6) &&& (((1 : Int32) <<< (p0 &&& 31)) ^^^ (-1 : Int32)))) J F) := hD
      refine lv_iload_n hx hb dX4_sand_49 rfl (lv_at hl 0 rfl) ?_
      exact retWi hx hb hr hlk hP hS dX4_sand_50 (by first | exact (if_pos (by grind)).symm | exact (if_neg (by grind)).symm) (by rw [if_pos (by assumption), cPut]; first | rw [if_pos (by assumption)] | rw [if_neg (by assumption)])
    · refine lv_aload_n hx hb dX4_sand_25 rfl (lv_at hl 1 rfl) ?_
      refine va_get (D := D) (ci := 4) (v := .int (I 6)) (C := RX4) (T := TX4) (N := 29) hx hb hts inlX4 hown hK hP 0 rfl rfl 6 (by decide) (hts _ kw_253) (fun _ h9 => h9) rfl dX4_sand_26 ?_
      refine lv_iconst (v := (1 : Int32)) hx hb dX4_sand_29 (by decide) ?_
      refine lv_iload_n hx hb dX4_sand_30 rfl (lv_at hl 2 rfl) ?_
      refine lv_ishl hx hb dX4_sand_31 ?_
      refine lv_ior hx hb dX4_sand_32 ?_
      refine lv_goto (tgt := 46) hx hb dX4_sand_33 (by decide) ?_
      refine va_put (D := D) (ci := 4) (v := .int ((I 6) ||| ((1 : Int32) <<< (p0 &&& 31)))) (ty := tyX4 6) (C := RX4) (T := TX4) (N := 29) hx hb hts inlX4 tyX4 tyX4_ok nmX4 hown hK hP hD hS 0 rfl rfl 6 (by decide) (hts _ kw_253) (fun _ h9 => h9) rfl (tyX4_ok 6 (by decide)) rfl rfl (Nat.le_of_ble_eq_true rfl) dX4_sand_46 (fun H locs hP hD hS => ?_)
      have hP : va_P D vwCl (wsM A cI cB (upd I 6 ((I 6) ||| ((1 : Int32) <<< (p0 &&& 31)))) J F) H := hP
      have hD : va_D (FPw (wsM A cI cB I J F)) (wsM A cI cB (upd I 6 ((I 6) ||| ((1 : Int32) <<< (p0 &&& 31)))) J F) := hD
      refine lv_iload_n hx hb dX4_sand_49 rfl (lv_at hl 0 rfl) ?_
      exact retWi hx hb hr hlk hP hS dX4_sand_50 (by first | exact (if_pos (by grind)).symm | exact (if_neg (by grind)).symm) (by rw [if_pos (by assumption), cPut]; first | rw [if_pos (by assumption)] | rw [if_neg (by assumption)])
  · have c_1 := b2_z c_1
    refine lv_bipush (v := (-101 : Int32)) hx hb dX4_sand_8 (by decide) ?_
    exact retWi hx hb hr hlk hP hS dX4_sand_10 (by first | exact (if_pos (by grind)).symm | exact (if_neg (by grind)).symm) (by exact (if_neg (by assumption)).symm)
set_option maxHeartbeats 1000000 in
set_option maxRecDepth 100000 in
theorem c_X4_wet (l : Launch) (D : va_G) (cI cB cS : ClassId) {A : Nat → Nat} {I : Nat → Int32} {J : Nat → Int64} {F : Nat → Nat → Int32} {n : Nat} (hn : n ≤ 6) (h1 : I 1 = nI n) (p0 p1 : Int32) : Met l yX4_wet (Wm yX4_wet cX4_wet 3 (some .int)) ({ frames := 2, cells := 0, slots := 0, locals := 45 }) (va_Pc [.ref (A 0), .int p0, .int p1] (PR D (TYS cI cB cS) (wsM A cI cB I J F))) (QcV (some (.int (mWetS F (I 6) n p0 p1)))) 0 0 (fun _ => False) := by
  refine metR (by decide) [.ref (A 0), .int p0, .int p1] (Nat.le_of_ble_eq_true rfl) ?_
  intro p e s m args below meth c hx hb hml hr hlk hown hts hKK hP ls hl
  obtain ⟨hK, hN⟩ := id hKK
  have hl : lv_has ls 3 [(0, .ref (A 0)), (1, .int p0), (2, .int p1)] := hl
  refine lv_aload_n hx hb dX4_wet_0 rfl (lv_at hl 0 rfl) ?_
  refine lv_iload_n hx hb dX4_wet_1 rfl (lv_at hl 1 rfl) ?_
  refine rcVi (As := [.int p0]) (rest := []) hx hb hml hown hts hKK hP (c_X4_isStroke l D cI cB cS hn h1 p0) (cwV2 1 hts kw_303 kw_6 kw_300 kw_301 kw_302 rfl rfl (by decide +kernel) ⟨Nat.le_of_ble_eq_true rfl, Nat.le_of_ble_eq_true rfl⟩) 0 rfl rfl rfl rfl hl.1 rfl (Nat.le_of_ble_eq_true rfl) ⟨Nat.zero_le _, Nat.zero_le _⟩ dX4_wet_2 ?_
  refine lv_if_ne (tgt := 13) hx hb dX4_wet_5 (by decide) (fun c_1 => ?_) (fun c_1 => ?_)
  · have c_1 := b2_nz c_1
    obtain ⟨k, hk, rfl⟩ := okS_nat hn c_1
    have hkc : (nI k).toNatClampNeg = k := nI_clamp (by omega)
    refine lv_iload_n hx hb dX4_wet_13 rfl (lv_at hl 2 rfl) ?_
    refine rcSi (As := [.int p1]) (rest := []) hx hb hml hown hts hKK hP (c_X4_isMinute l D cI cB cS p1) (cwS2 1 hts kw_383 kw_6 kw_381 kw_382 rfl rfl (by decide +kernel) ⟨Nat.le_of_ble_eq_true rfl, Nat.le_of_ble_eq_true rfl⟩) rfl hl.1 rfl (Nat.le_of_ble_eq_true rfl) ⟨Nat.zero_le _, Nat.zero_le _⟩ dX4_wet_14 ?_
    refine lv_if_eq (tgt := 29) hx hb dX4_wet_17 (by decide) (fun c_2 => ?_) (fun c_2 => ?_)
    · have c_2 := b2_z c_2
      refine lv_bipush (v := (-102 : Int32)) hx hb dX4_wet_29 (by decide) ?_
      exact retRi hx hb hr hlk dX4_wet_31 (by grind [mWetS])
    · have c_2 := b2_nz c_2
      refine lv_aload_n hx hb dX4_wet_20 rfl (lv_at hl 0 rfl) ?_
      refine lv_iload_n hx hb dX4_wet_21 rfl (lv_at hl 1 rfl) ?_
      refine lv_iload_n hx hb dX4_wet_22 rfl (lv_at hl 2 rfl) ?_
      refine rcVi (As := [.int (nI k), .int p1]) (rest := []) hx hb hml hown hts hKK hP (c_X4_wetAt l D cI cB cS hn h1 (k := k) (by omega) p1) (cwV2 2 hts kw_327 kw_6 kw_324 kw_325 kw_326 rfl rfl (by decide +kernel) ⟨Nat.le_of_ble_eq_true rfl, Nat.le_of_ble_eq_true rfl⟩) 0 rfl rfl rfl rfl hl.1 rfl (Nat.le_of_ble_eq_true rfl) ⟨Nat.zero_le _, Nat.zero_le _⟩ dX4_wet_23 ?_
      refine topE (z := (mWet F (I 6) k p1)) rfl ?_
      refine lv_goto (tgt := 31) hx hb dX4_wet_26 (by decide) ?_
      exact retRi hx hb hr hlk dX4_wet_31 (by grind [mWetS])
  · have c_1 := b2_z c_1
    refine lv_bipush (v := (-101 : Int32)) hx hb dX4_wet_8 (by decide) ?_
    refine lv_goto (tgt := 31) hx hb dX4_wet_10 (by decide) ?_
    exact retRi hx hb hr hlk dX4_wet_31 (by grind [mWetS])
set_option maxHeartbeats 1000000 in
set_option maxRecDepth 100000 in
theorem c_X4_ink (l : Launch) (D : va_G) (cI cB cS : ClassId) {A : Nat → Nat} {I : Nat → Int32} {J : Nat → Int64} {F : Nat → Nat → Int32} {n : Nat} (hn : n ≤ 6) (h1 : I 1 = nI n) (p0 : Int32) : Met l yX4_ink (Wm yX4_ink cX4_ink 2 (some .int)) ({ frames := 2, cells := 0, slots := 0, locals := 43 }) (va_Pc [.ref (A 0), .int p0] (PR D (TYS cI cB cS) (wsM A cI cB I J F))) (QcV (some (.int (cInk (F 7) n p0)))) 0 0 (fun _ => False) := by
  refine metR (by decide) [.ref (A 0), .int p0] (Nat.le_of_ble_eq_true rfl) ?_
  intro p e s m args below meth c hx hb hml hr hlk hown hts hKK hP ls hl
  obtain ⟨hK, hN⟩ := id hKK
  have hl : lv_has ls 2 [(0, .ref (A 0)), (1, .int p0)] := hl
  refine lv_aload_n hx hb dX4_ink_0 rfl (lv_at hl 0 rfl) ?_
  refine lv_iload_n hx hb dX4_ink_1 rfl (lv_at hl 1 rfl) ?_
  refine rcVi (As := [.int p0]) (rest := []) hx hb hml hown hts hKK hP (c_X4_isCell l D cI cB cS hn h1 p0) (cwV2 1 hts kw_399 kw_6 kw_396 kw_397 kw_398 rfl rfl (by decide +kernel) ⟨Nat.le_of_ble_eq_true rfl, Nat.le_of_ble_eq_true rfl⟩) 0 rfl rfl rfl rfl hl.1 rfl (Nat.le_of_ble_eq_true rfl) ⟨Nat.zero_le _, Nat.zero_le _⟩ dX4_ink_2 ?_
  refine lv_if_eq (tgt := 17) hx hb dX4_ink_5 (by decide) (fun c_1 => ?_) (fun c_1 => ?_)
  · have c_1 := b2_z c_1
    refine lv_bipush (v := (-101 : Int32)) hx hb dX4_ink_17 (by decide) ?_
    exact retRi hx hb hr hlk dX4_ink_19 (by grind [cInk])
  · have c_1 := b2_nz c_1
    obtain ⟨k, hk, rfl⟩ := okCell_nat c_1.2
    have hkc : (nI k).toNatClampNeg = k := nI_clamp (by omega)
    refine lv_aload_n hx hb dX4_ink_8 rfl (lv_at hl 0 rfl) ?_
    refine va_get (D := D) (ci := 4) (v := .ref (A 7)) (C := RX4) (T := TX4) (N := 29) hx hb hts inlX4 hown hK hP 0 rfl rfl 7 (by decide) (hts _ kw_63) (fun _ h9 => h9) rfl dX4_ink_9 ?_
    refine lv_iload_n hx hb dX4_ink_12 rfl (lv_at hl 1 rfl) ?_
    refine va_iald (D := D) hx hb hK hP 5 0 rfl rfl (vp_in_nI (by omega) (by omega)) dX4_ink_13 ?_
    refine topE (z := ((F 7) k)) (congrArg _ (nI_clamp (n := k) (by omega))) ?_
    refine lv_goto (tgt := 19) hx hb dX4_ink_14 (by decide) ?_
    exact retRi hx hb hr hlk dX4_ink_19 (by grind [cInk])
set_option maxHeartbeats 1000000 in
set_option maxRecDepth 100000 in
theorem c_X4_comes (l : Launch) (D : va_G) (cI cB cS : ClassId) {A : Nat → Nat} {I : Nat → Int32} {J : Nat → Int64} {F : Nat → Nat → Int32} {n : Nat} (hn : n ≤ 6) (h1 : I 1 = nI n) (p0 p1 : Int32) : Met l yX4_comes (Wm yX4_comes cX4_comes 3 (some .int)) ({ frames := 4, cells := 0, slots := 0, locals := 96 }) (va_Pc [.ref (A 0), .int p0, .int p1] (PR D (TYS cI cB cS) (wsM A cI cB I J F))) (QcV (some (.int (mComesS F (I 6) n p0 p1)))) 0 0 (fun _ => False) := by
  refine metR (by decide) [.ref (A 0), .int p0, .int p1] (Nat.le_of_ble_eq_true rfl) ?_
  intro p e s m args below meth c hx hb hml hr hlk hown hts hKK hP ls hl
  obtain ⟨hK, hN⟩ := id hKK
  have hl : lv_has ls 3 [(0, .ref (A 0)), (1, .int p0), (2, .int p1)] := hl
  refine lv_aload_n hx hb dX4_comes_0 rfl (lv_at hl 0 rfl) ?_
  refine lv_iload_n hx hb dX4_comes_1 rfl (lv_at hl 1 rfl) ?_
  refine rcVi (As := [.int p0]) (rest := []) hx hb hml hown hts hKK hP (c_X4_isCell l D cI cB cS hn h1 p0) (cwV2 1 hts kw_399 kw_6 kw_396 kw_397 kw_398 rfl rfl (by decide +kernel) ⟨Nat.le_of_ble_eq_true rfl, Nat.le_of_ble_eq_true rfl⟩) 0 rfl rfl rfl rfl hl.1 rfl (Nat.le_of_ble_eq_true rfl) ⟨Nat.zero_le _, Nat.zero_le _⟩ dX4_comes_2 ?_
  refine lv_if_ne (tgt := 13) hx hb dX4_comes_5 (by decide) (fun c_1 => ?_) (fun c_1 => ?_)
  · have c_1 := b2_nz c_1
    refine lv_iload_n hx hb dX4_comes_13 rfl (lv_at hl 2 rfl) ?_
    refine rcSi (As := [.int p1]) (rest := []) hx hb hml hown hts hKK hP (c_X4_isMinute l D cI cB cS p1) (cwS2 1 hts kw_383 kw_6 kw_381 kw_382 rfl rfl (by decide +kernel) ⟨Nat.le_of_ble_eq_true rfl, Nat.le_of_ble_eq_true rfl⟩) rfl hl.1 rfl (Nat.le_of_ble_eq_true rfl) ⟨Nat.zero_le _, Nat.zero_le _⟩ dX4_comes_14 ?_
    refine lv_if_eq (tgt := 29) hx hb dX4_comes_17 (by decide) (fun c_2 => ?_) (fun c_2 => ?_)
    · have c_2 := b2_z c_2
      refine lv_bipush (v := (-102 : Int32)) hx hb dX4_comes_29 (by decide) ?_
      exact retRi hx hb hr hlk dX4_comes_31 (by grind [mComesS])
    · have c_2 := b2_nz c_2
      refine lv_aload_n hx hb dX4_comes_20 rfl (lv_at hl 0 rfl) ?_
      refine lv_iload_n hx hb dX4_comes_21 rfl (lv_at hl 1 rfl) ?_
      refine lv_iload_n hx hb dX4_comes_22 rfl (lv_at hl 2 rfl) ?_
      refine rcVi (As := [.int p0, .int p1]) (rest := []) hx hb hml hown hts hKK hP (c_X4_comesTo l D cI cB cS hn h1 p0 p1) (cwV2 2 hts kw_319 kw_6 kw_316 kw_317 kw_318 rfl rfl (by decide +kernel) ⟨Nat.le_of_ble_eq_true rfl, Nat.le_of_ble_eq_true rfl⟩) 0 rfl rfl rfl rfl hl.1 rfl (Nat.le_of_ble_eq_true rfl) ⟨Nat.zero_le _, Nat.zero_le _⟩ dX4_comes_23 ?_
      refine topE (z := (mTo F (I 6) n p0 p1)) rfl ?_
      refine lv_goto (tgt := 31) hx hb dX4_comes_26 (by decide) ?_
      exact retRi hx hb hr hlk dX4_comes_31 (by grind [mComesS])
  · have c_1 := b2_z c_1
    refine lv_bipush (v := (-101 : Int32)) hx hb dX4_comes_8 (by decide) ?_
    refine lv_goto (tgt := 31) hx hb dX4_comes_10 (by decide) ?_
    exact retRi hx hb hr hlk dX4_comes_31 (by grind [mComesS])
set_option maxHeartbeats 1000000 in
set_option maxRecDepth 100000 in
theorem c_X4_press (l : Launch) (D : va_G) (cI cB cS : ClassId) {A : Nat → Nat} {I : Nat → Int32} {J : Nat → Int64} {F : Nat → Nat → Int32} {n : Nat} (hn : n ≤ 6) (h1 : I 1 = nI n) (p0 : Int32) : Met l yX4_press (Wm yX4_press cX4_press 5 (some .int)) ({ frames := 4, cells := 0, slots := 0, locals := 96 }) (va_Pc [.ref (A 0), .int p0] (PW D (TYS cI cB cS) (wsM A cI cB I J F))) (QcW D (some (.int (sumN (fun c => mTo F (I 6) n (nI c) p0) 10))) (wsM A cI cB I J F) (wsM A cI cB I J (va_up F 7 (rowN (mPress F (I 6) n p0 (F 7)) (F 7) 10)))) 0 0 (FPw (wsM A cI cB I J F)) := by
  refine metW (by decide) [.ref (A 0), .int p0] (Nat.le_of_ble_eq_true rfl) ?_
  intro p e s m args below meth c hx hb hml hr hlk hown hts hKK hP hD hS ls hl
  obtain ⟨hK, hN⟩ := id hKK
  have hl : lv_has ls 5 [(0, .ref (A 0)), (1, .int p0)] := hl
  refine lv_iconst (v := (0 : Int32)) hx hb dX4_press_0 (by decide) ?_
  refine lv_istore_n (lv' := [(2, .int (0 : Int32)), (0, .ref (A 0)), (1, .int p0)]) hx hb dX4_press_1 rfl hl (by decide) rfl (fun ls hl => ?_)
  refine lv_iconst (v := (0 : Int32)) hx hb dX4_press_2 (by decide) ?_
  refine lv_istore_n (lv' := [(3, .int (0 : Int32)), (2, .int (0 : Int32)), (0, .ref (A 0)), (1, .int p0)]) hx hb dX4_press_3 rfl hl (by decide) rfl (fun ls hl => ?_)
  have loop_4 : ∀ (z : Nat) (k : Nat) (x2 : Int32) (x3 : Int32), x2 = sumN (fun c => mTo F (I 6) n (nI c) p0) k → x3 = nI k → (k ≤ 10) → 10 - k < z → ∀ (H : Heap) (locs : List Loc), va_P D vwCl (wsM A cI cB I J (va_up F 7 (rowN (mPress F (I 6) n p0 (F 7)) (F 7) k))) H → va_S (FPw (wsM A cI cB I J F)) s.heap H locs → ∀ (ls : Array Slot), lv_has ls 5 [(0, .ref (A 0)), (1, .int p0), (2, .int x2), (3, .int x3)] → W p l e ({ frames := 4, cells := 0, slots := 0, locals := 96 } : Room) s m args below meth c H locs 0 0 (MQ below (QcW D (some (.int (sumN (fun c => mTo F (I 6) n (nI c) p0) 10))) (wsM A cI cB I J F) (wsM A cI cB I J (va_up F 7 (rowN (mPress F (I 6) n p0 (F 7)) (F 7) 10)))) args s 0 0 (FPw (wsM A cI cB I J F))) (F0 m 4 ls []) := by
    intro z
    induction z with
    | zero =>
      intro k x2 x3 ex2 ex3 hk hz
      exact absurd hz (Nat.not_lt_zero _)
    | succ z ih_4 =>
      intro k x2 x3 ex2 ex3 hk hz H locs hP hS ls hl
      subst ex2
      subst ex3
      have hD := va_D_addr (ws := (wsM A cI cB I J F)) (ws' := (wsM A cI cB I J (va_up F 7 (rowN (mPress F (I 6) n p0 (F 7)) (F 7) k)))) rfl hD
      refine lv_iload_n hx hb dX4_press_4 rfl (lv_at hl 3 rfl) ?_
      refine lv_bipush (v := (10 : Int32)) hx hb dX4_press_5 (by decide) ?_
      refine lv_icmp_ge (tgt := 63) hx hb dX4_press_7 (by decide) (fun c_1 => ?_) (fun c_1 => ?_)
      · have nc_1 : 10 ≤ k := (nI_leI (a := 10) (b := k) (by omega) (by omega)).mp c_1
        refine lv_iload_n hx hb dX4_press_63 rfl (lv_at hl 2 rfl) ?_
        exact retWi hx hb hr hlk hP hS dX4_press_64 (by have hkn : k = 10 := (by omega); subst hkn; rfl) (by have hkn : k = 10 := (by omega); subst hkn; rfl)
      · have nc_1 : ¬ 10 ≤ k := fun h => c_1 ((nI_leI (a := 10) (b := k) (by omega) (by omega)).mpr h)
        refine lv_aload_n hx hb dX4_press_10 rfl (lv_at hl 0 rfl) ?_
        refine lv_iload_n hx hb dX4_press_11 rfl (lv_at hl 3 rfl) ?_
        refine lv_iload_n hx hb dX4_press_12 rfl (lv_at hl 1 rfl) ?_
        refine rcVi (As := [.int (nI k), .int p0]) (rest := []) hx hb hml hown hts hKK hP (c_X4_comesTo l D cI cB cS hn h1 (nI k) p0) (cwV2 2 hts kw_319 kw_6 kw_316 kw_317 kw_318 rfl rfl (by decide +kernel) ⟨Nat.le_of_ble_eq_true rfl, Nat.le_of_ble_eq_true rfl⟩) 0 rfl rfl rfl rfl hl.1 rfl (Nat.le_of_ble_eq_true rfl) ⟨Nat.zero_le _, Nat.zero_le _⟩ dX4_press_13 ?_
        refine topE (z := (mTo F (I 6) n (nI k) p0)) rfl ?_
        refine lv_istore (lv' := [(4, .int (mTo F (I 6) n (nI k) p0)), (0, .ref (A 0)), (1, .int p0), (2, .int (sumN (fun c => mTo F (I 6) n (nI c) p0) k)), (3, .int (nI k))]) hx hb dX4_press_16 hl (by decide) rfl (fun ls hl => ?_)
        refine lv_iload_n hx hb dX4_press_18 rfl (lv_at hl 3 rfl) ?_
        refine lv_iload hx hb dX4_press_19 (lv_at hl 0 rfl) ?_
        refine lv_iadd hx hb dX4_press_21 ?_
        refine lv_istore_n (lv' := [(2, .int (sumN (fun c => mTo F (I 6) n (nI c) p0) k + (mTo F (I 6) n (nI k) p0))), (4, .int (mTo F (I 6) n (nI k) p0)), (0, .ref (A 0)), (1, .int p0), (3, .int (nI k))]) hx hb dX4_press_22 rfl hl (by decide) rfl (fun ls hl => ?_)
        refine lv_aload_n hx hb dX4_press_23 rfl (lv_at hl 2 rfl) ?_
        refine va_get (D := D) (ci := 4) (v := .ref (A 7)) (C := RX4) (T := TX4) (N := 29) hx hb hts inlX4 hown hK hP 0 rfl rfl 7 (by decide) (hts _ kw_63) (fun _ h9 => h9) rfl dX4_press_24 ?_
        refine lv_iload_n hx hb dX4_press_27 rfl (lv_at hl 4 rfl) ?_
        refine lv_aload_n hx hb dX4_press_28 rfl (lv_at hl 2 rfl) ?_
        refine va_get (D := D) (ci := 4) (v := .ref (A 7)) (C := RX4) (T := TX4) (N := 29) hx hb hts inlX4 hown hK hP 0 rfl rfl 7 (by decide) (hts _ kw_63) (fun _ h9 => h9) rfl dX4_press_29 ?_
        refine lv_iload_n hx hb dX4_press_32 rfl (lv_at hl 4 rfl) ?_
        refine va_iald (D := D) hx hb hK hP 5 0 rfl rfl (vp_in_nI (by omega) (by omega)) dX4_press_33 ?_
        refine topE (z := ((rowN (mPress F (I 6) n p0 (F 7)) (F 7) k) k)) (congrArg _ (nI_clamp (n := k) (by omega))) ?_
        refine topE (z := (F 7 k)) rowN_at ?_
        refine lv_iload hx hb dX4_press_34 (lv_at hl 1 rfl) ?_
        refine lv_iadd hx hb dX4_press_36 ?_
        refine lv_bipush (v := (99 : Int32)) hx hb dX4_press_37 (by decide) ?_
        refine lv_icmp_le (tgt := 47) hx hb dX4_press_39 (by decide) (fun c_2 => ?_) (fun c_2 => ?_)
        · refine lv_aload_n hx hb dX4_press_47 rfl (lv_at hl 2 rfl) ?_
          refine va_get (D := D) (ci := 4) (v := .ref (A 7)) (C := RX4) (T := TX4) (N := 29) hx hb hts inlX4 hown hK hP 0 rfl rfl 7 (by decide) (hts _ kw_63) (fun _ h9 => h9) rfl dX4_press_48 ?_
          refine lv_iload_n hx hb dX4_press_51 rfl (lv_at hl 4 rfl) ?_
          refine va_iald (D := D) hx hb hK hP 5 0 rfl rfl (vp_in_nI (by omega) (by omega)) dX4_press_52 ?_
          refine topE (z := ((rowN (mPress F (I 6) n p0 (F 7)) (F 7) k) k)) (congrArg _ (nI_clamp (n := k) (by omega))) ?_
          refine topE (z := (F 7 k)) rowN_at ?_
          refine lv_iload hx hb dX4_press_53 (lv_at hl 1 rfl) ?_
          refine lv_iadd hx hb dX4_press_55 ?_
          refine va_iast (D := D) hx hb hK hP hD hS 5 0 rfl rfl (vp_in_nI (by omega) (by omega)) dX4_press_56 (fun H locs hP hD hS => ?_)
          rw [nI_clamp (n := k) (by omega)] at hP hD
          have hP : va_P D vwCl (wsM A cI cB I J (va_up F 7 (upd (rowN (mPress F (I 6) n p0 (F 7)) (F 7) k) k ((F 7 k) + (mTo F (I 6) n (nI k) p0))))) H := hP
          have hD : va_D (FPw (wsM A cI cB I J F)) (wsM A cI cB I J (va_up F 7 (upd (rowN (mPress F (I 6) n p0 (F 7)) (F 7) k) k ((F 7 k) + (mTo F (I 6) n (nI k) p0))))) := hD
          refine lv_iinc (v := (nI (k + 1))) (lv' := [(3, .int (nI (k + 1))), (2, .int (sumN (fun c => mTo F (I 6) n (nI c) p0) k + (mTo F (I 6) n (nI k) p0))), (4, .int (mTo F (I 6) n (nI k) p0)), (0, .ref (A 0)), (1, .int p0)]) hx hb dX4_press_57 hl (k := 4) rfl (nI_add k 1) (by decide) rfl (fun ls hl => ?_)
          refine lv_goto (tgt := 4) hx hb dX4_press_60 (by decide) ?_
          have hP9 : va_P D vwCl (wsM A cI cB I J (va_up F 7 (rowN (mPress F (I 6) n p0 (F 7)) (F 7) (k + 1)))) H := by rw [← rowN_upd, mPress, if_pos c_2]; exact hP
          exact ih_4 (k + 1) (sumN (fun c => mTo F (I 6) n (nI c) p0) k + (mTo F (I 6) n (nI k) p0)) (nI (k + 1)) rfl rfl (by omega) (by omega) H locs hP9 hS ls (lv_sub hl [3, 4, 1, 0] rfl)
        · refine lv_bipush (v := (99 : Int32)) hx hb dX4_press_42 (by decide) ?_
          refine lv_goto (tgt := 56) hx hb dX4_press_44 (by decide) ?_
          refine va_iast (D := D) hx hb hK hP hD hS 5 0 rfl rfl (vp_in_nI (by omega) (by omega)) dX4_press_56 (fun H locs hP hD hS => ?_)
          rw [nI_clamp (n := k) (by omega)] at hP hD
          have hP : va_P D vwCl (wsM A cI cB I J (va_up F 7 (upd (rowN (mPress F (I 6) n p0 (F 7)) (F 7) k) k (99 : Int32)))) H := hP
          have hD : va_D (FPw (wsM A cI cB I J F)) (wsM A cI cB I J (va_up F 7 (upd (rowN (mPress F (I 6) n p0 (F 7)) (F 7) k) k (99 : Int32)))) := hD
          refine lv_iinc (v := (nI (k + 1))) (lv' := [(3, .int (nI (k + 1))), (2, .int (sumN (fun c => mTo F (I 6) n (nI c) p0) k + (mTo F (I 6) n (nI k) p0))), (4, .int (mTo F (I 6) n (nI k) p0)), (0, .ref (A 0)), (1, .int p0)]) hx hb dX4_press_57 hl (k := 4) rfl (nI_add k 1) (by decide) rfl (fun ls hl => ?_)
          refine lv_goto (tgt := 4) hx hb dX4_press_60 (by decide) ?_
          have hP9 : va_P D vwCl (wsM A cI cB I J (va_up F 7 (rowN (mPress F (I 6) n p0 (F 7)) (F 7) (k + 1)))) H := by rw [← rowN_upd, mPress, if_neg c_2]; exact hP
          exact ih_4 (k + 1) (sumN (fun c => mTo F (I 6) n (nI c) p0) k + (mTo F (I 6) n (nI k) p0)) (nI (k + 1)) rfl rfl (by omega) (by omega) H locs hP9 hS ls (lv_sub hl [3, 4, 1, 0] rfl)
  have hP9 : va_P D vwCl (wsM A cI cB I J (va_up F 7 (rowN (mPress F (I 6) n p0 (F 7)) (F 7) 0))) s.heap := by rw [rowN_0]; exact hP
  exact loop_4 ((10 - 0) + 1) 0 (0 : Int32) (0 : Int32) rfl rfl (by omega) (by omega) s.heap [] hP9 hS ls (lv_sub hl [2, 3, 1, 0] rfl)
set_option maxHeartbeats 1000000 in
set_option maxRecDepth 100000 in
theorem c_X4_evening (l : Launch) (D : va_G) (cI cB cS : ClassId) {A : Nat → Nat} {I : Nat → Int32} {J : Nat → Int64} {F : Nat → Nat → Int32} {n : Nat} (hn : n ≤ 6) (h1 : I 1 = nI n) (p0 : Int32) : Met l yX4_evening (Wm yX4_evening cX4_evening 2 (some .int)) ({ frames := 5, cells := 0, slots := 0, locals := 120 }) (va_Pc [.ref (A 0), .int p0] (PW D (TYS cI cB cS) (wsM A cI cB I J F))) (QcW D (some (.int (if okMin p0 then (if 0 < n then sumN (fun c => mTo F (I 6) n (nI c) p0) 10 else -103) else -102))) (wsM A cI cB I J F) (if okMin p0 ∧ 0 < n then wsM A cI cB (upd I 8 (I 8 + 1)) J (va_up F 7 (rowN (mPress F (I 6) n p0 (F 7)) (F 7) 10)) else wsM A cI cB I J F)) 0 0 (FPw (wsM A cI cB I J F)) := by
  refine metW (by decide) [.ref (A 0), .int p0] (Nat.le_of_ble_eq_true rfl) ?_
  intro p e s m args below meth c hx hb hml hr hlk hown hts hKK hP hD hS ls hl
  obtain ⟨hK, hN⟩ := id hKK
  have hl : lv_has ls 2 [(0, .ref (A 0)), (1, .int p0)] := hl
  refine lv_iload_n hx hb dX4_evening_0 rfl (lv_at hl 1 rfl) ?_
  refine rcSi (As := [.int p0]) (rest := []) hx hb hml hown hts hKK hP (c_X4_isMinute l D cI cB cS p0) (cwS2 1 hts kw_383 kw_6 kw_381 kw_382 rfl rfl (by decide +kernel) ⟨Nat.le_of_ble_eq_true rfl, Nat.le_of_ble_eq_true rfl⟩) rfl hl.1 rfl (Nat.le_of_ble_eq_true rfl) ⟨Nat.zero_le _, Nat.zero_le _⟩ dX4_evening_1 ?_
  refine lv_if_ne (tgt := 10) hx hb dX4_evening_4 (by decide) (fun c_1 => ?_) (fun c_1 => ?_)
  · have c_1 := b2_nz c_1
    refine lv_aload_n hx hb dX4_evening_10 rfl (lv_at hl 0 rfl) ?_
    refine va_get (D := D) (ci := 4) (v := .int (I 1)) (C := RX4) (T := TX4) (N := 29) hx hb hts inlX4 hown hK hP 0 rfl rfl 1 (by decide) (hts _ kw_251) (fun _ h9 => h9) rfl dX4_evening_11 ?_
    refine topE (z := (nI n)) h1 ?_
    refine lv_if_ne (tgt := 20) hx hb dX4_evening_14 (by decide) (fun c_2 => ?_) (fun c_2 => ?_)
    · have nc_2 : ¬ n = 0 := fun h => c_2 ((nI_eq (a := n) (b := 0) (by omega) (by omega)).mpr h)
      refine lv_aload_n hx hb dX4_evening_20 rfl (lv_at hl 0 rfl) ?_
      refine lv_dup hx hb dX4_evening_21 rfl ?_
      refine va_get (D := D) (ci := 4) (v := .int (I 8)) (C := RX4) (T := TX4) (N := 29) hx hb hts inlX4 hown hK hP 0 rfl rfl 8 (by decide) (hts _ kw_254) (fun _ h9 => h9) rfl dX4_evening_22 ?_
      refine lv_iconst (v := (1 : Int32)) hx hb dX4_evening_25 (by decide) ?_
      refine lv_iadd hx hb dX4_evening_26 ?_
      refine va_put (D := D) (ci := 4) (v := .int ((I 8) + (1 : Int32))) (ty := tyX4 8) (C := RX4) (T := TX4) (N := 29) hx hb hts inlX4 tyX4 tyX4_ok nmX4 hown hK hP hD hS 0 rfl rfl 8 (by decide) (hts _ kw_254) (fun _ h9 => h9) rfl (tyX4_ok 8 (by decide)) rfl rfl (Nat.le_of_ble_eq_true rfl) dX4_evening_27 (fun H locs hP hD hS => ?_)
      have hP : va_P D vwCl (wsM A cI cB (upd I 8 ((I 8) + (1 : Int32))) J F) H := hP
      have hD : va_D (FPw (wsM A cI cB I J F)) (wsM A cI cB (upd I 8 ((I 8) + (1 : Int32))) J F) := hD
      refine lv_aload_n hx hb dX4_evening_30 rfl (lv_at hl 0 rfl) ?_
      refine lv_iload_n hx hb dX4_evening_31 rfl (lv_at hl 1 rfl) ?_
      refine wcVi (As := [.int p0]) (rest := []) hx hb hml hown hts hKK hP hD hS (c_X4_press l D cI cB cS hn (show (upd I 8 ((I 8) + (1 : Int32))) 1 = nI n from h1) p0) (cwV2 1 hts kw_428 kw_6 kw_425 kw_426 kw_427 rfl rfl (by decide +kernel) ⟨Nat.le_of_ble_eq_true rfl, Nat.le_of_ble_eq_true rfl⟩) 0 rfl rfl rfl rfl hl.1 rfl (Nat.le_of_ble_eq_true rfl) ⟨Nat.zero_le _, Nat.zero_le _⟩ dX4_evening_32 (fun H locs hP hS => ?_)
      have hP : va_P D vwCl (wsM A cI cB (upd I 8 ((I 8) + (1 : Int32))) J (va_up F 7 (rowN (mPress F (I 6) n p0 (F 7)) (F 7) 10))) H := hP
      have hD : va_D (FPw (wsM A cI cB I J F)) (wsM A cI cB (upd I 8 ((I 8) + (1 : Int32))) J (va_up F 7 (rowN (mPress F (I 6) n p0 (F 7)) (F 7) 10))) := va_D_addr (ws := (wsM A cI cB (upd I 8 ((I 8) + (1 : Int32))) J F)) rfl hD
      refine topE (z := (sumN (fun c => mTo F (I 6) n (nI c) p0) 10)) rfl ?_
      exact retWi hx hb hr hlk hP hS dX4_evening_35 (by grind) (by first | exact (if_pos (by grind)).symm | exact (if_neg (by grind)).symm)
    · have nc_2 : n = 0 := (nI_eq (a := n) (b := 0) (by omega) (by omega)).mp c_2
      refine lv_bipush (v := (-103 : Int32)) hx hb dX4_evening_17 (by decide) ?_
      exact retWi hx hb hr hlk hP hS dX4_evening_19 (by grind) (by first | exact (if_pos (by grind)).symm | exact (if_neg (by grind)).symm)
  · have c_1 := b2_z c_1
    refine lv_bipush (v := (-102 : Int32)) hx hb dX4_evening_7 (by decide) ?_
    exact retWi hx hb hr hlk hP hS dX4_evening_9 (by grind) (by first | exact (if_pos (by grind)).symm | exact (if_neg (by grind)).symm)
set_option maxHeartbeats 1000000 in
set_option maxRecDepth 100000 in
theorem c_X4_hillsNow (l : Launch) (D : va_G) (cI cB cS : ClassId) {A : Nat → Nat} {I : Nat → Int32} {J : Nat → Int64} {F : Nat → Nat → Int32} {n : Nat} (hn : n ≤ 6) (h1 : I 1 = nI n) (p0 : Int32) : Met l yX4_hillsNow (Wm yX4_hillsNow cX4_hillsNow 4 (some .int)) ({ frames := 0, cells := 0, slots := 0, locals := 0 }) (va_Pc [.ref (A 0), .int p0] (PR D (TYS cI cB cS) (wsM A cI cB I J F))) (QcV (some (.int (mHillN (F 7) p0 10)))) 0 0 (fun _ => False) := by
  refine metR (by decide) [.ref (A 0), .int p0] (Nat.le_of_ble_eq_true rfl) ?_
  intro p e s m args below meth c hx hb hml hr hlk hown hts hKK hP ls hl
  obtain ⟨hK, hN⟩ := id hKK
  have hl : lv_has ls 4 [(0, .ref (A 0)), (1, .int p0)] := hl
  refine lv_iconst (v := (0 : Int32)) hx hb dX4_hillsNow_0 (by decide) ?_
  refine lv_istore_n (lv' := [(2, .int (0 : Int32)), (0, .ref (A 0)), (1, .int p0)]) hx hb dX4_hillsNow_1 rfl hl (by decide) rfl (fun ls hl => ?_)
  refine lv_iconst (v := (0 : Int32)) hx hb dX4_hillsNow_2 (by decide) ?_
  refine lv_istore_n (lv' := [(3, .int (0 : Int32)), (2, .int (0 : Int32)), (0, .ref (A 0)), (1, .int p0)]) hx hb dX4_hillsNow_3 rfl hl (by decide) rfl (fun ls hl => ?_)
  have loop_4 : ∀ (z : Nat) (k : Nat) (x2 : Int32) (x3 : Int32), x2 = mHillN (F 7) p0 k → x3 = nI k → (k ≤ 10) → 10 - k < z → ∀ (ls : Array Slot), lv_has ls 4 [(0, .ref (A 0)), (1, .int p0), (2, .int x2), (3, .int x3)] → W p l e ({ frames := 0, cells := 0, slots := 0, locals := 0 } : Room) s m args below meth c s.heap [] 0 0 (MQ below (QcV (some (.int (mHillN (F 7) p0 10)))) args s 0 0 (fun _ => False)) (F0 m 4 ls []) := by
    intro z
    induction z with
    | zero =>
      intro k x2 x3 ex2 ex3 hk hz
      exact absurd hz (Nat.not_lt_zero _)
    | succ z ih_4 =>
      intro k x2 x3 ex2 ex3 hk hz ls hl
      subst ex2
      subst ex3
      refine lv_iload_n hx hb dX4_hillsNow_4 rfl (lv_at hl 3 rfl) ?_
      refine lv_bipush (v := (10 : Int32)) hx hb dX4_hillsNow_5 (by decide) ?_
      refine lv_icmp_ge (tgt := 50) hx hb dX4_hillsNow_7 (by decide) (fun c_1 => ?_) (fun c_1 => ?_)
      · have nc_1 : 10 ≤ k := (nI_leI (a := 10) (b := k) (by omega) (by omega)).mp c_1
        refine lv_iload_n hx hb dX4_hillsNow_50 rfl (lv_at hl 2 rfl) ?_
        exact retRi hx hb hr hlk dX4_hillsNow_51 (by have hkn : k = 10 := (by omega); subst hkn; rfl)
      · have nc_1 : ¬ 10 ≤ k := fun h => c_1 ((nI_leI (a := 10) (b := k) (by omega) (by omega)).mpr h)
        refine lv_iload_n hx hb dX4_hillsNow_10 rfl (lv_at hl 2 rfl) ?_
        refine lv_aload_n hx hb dX4_hillsNow_11 rfl (lv_at hl 0 rfl) ?_
        refine va_get (D := D) (ci := 4) (v := .ref (A 7)) (C := RX4) (T := TX4) (N := 29) hx hb hts inlX4 hown hK hP 0 rfl rfl 7 (by decide) (hts _ kw_63) (fun _ h9 => h9) rfl dX4_hillsNow_12 ?_
        refine lv_iload_n hx hb dX4_hillsNow_15 rfl (lv_at hl 3 rfl) ?_
        refine va_iald (D := D) hx hb hK hP 5 0 rfl rfl (vp_in_nI (by omega) (by omega)) dX4_hillsNow_16 ?_
        refine topE (z := ((F 7) k)) (congrArg _ (nI_clamp (n := k) (by omega))) ?_
        refine lv_iload_n hx hb dX4_hillsNow_17 rfl (lv_at hl 1 rfl) ?_
        refine lv_icmp_lt (tgt := 41) hx hb dX4_hillsNow_18 (by decide) (fun c_2 => ?_) (fun c_2 => ?_)
        · refine lv_iconst (v := (0 : Int32)) hx hb dX4_hillsNow_41 (by decide) ?_
          refine lv_iadd hx hb dX4_hillsNow_42 ?_
          refine lv_istore_n (lv' := [(2, .int (mHillN (F 7) p0 k + (0 : Int32))), (0, .ref (A 0)), (1, .int p0), (3, .int (nI k))]) hx hb dX4_hillsNow_43 rfl hl (by decide) rfl (fun ls hl => ?_)
          refine lv_iinc (v := (nI (k + 1))) (lv' := [(3, .int (nI (k + 1))), (2, .int (mHillN (F 7) p0 k + (0 : Int32))), (0, .ref (A 0)), (1, .int p0)]) hx hb dX4_hillsNow_44 hl (k := 3) rfl (nI_add k 1) (by decide) rfl (fun ls hl => ?_)
          refine lv_goto (tgt := 4) hx hb dX4_hillsNow_47 (by decide) ?_
          exact ih_4 (k + 1) (mHillN (F 7) p0 k + (0 : Int32)) (nI (k + 1)) (by rw [mHillN]; congr 1; grind) rfl (by omega) (by omega) ls (lv_sub hl [2, 3, 1, 0] rfl)
        · refine lv_iload_n hx hb dX4_hillsNow_21 rfl (lv_at hl 3 rfl) ?_
          refine lv_if_eq (tgt := 37) hx hb dX4_hillsNow_22 (by decide) (fun c_3 => ?_) (fun c_3 => ?_)
          · have nc_3 : k = 0 := (nI_eq (a := k) (b := 0) (by omega) (by omega)).mp c_3
            refine lv_iconst (v := (1 : Int32)) hx hb dX4_hillsNow_37 (by decide) ?_
            refine lv_goto (tgt := 42) hx hb dX4_hillsNow_38 (by decide) ?_
            refine lv_iadd hx hb dX4_hillsNow_42 ?_
            refine lv_istore_n (lv' := [(2, .int (mHillN (F 7) p0 k + (1 : Int32))), (0, .ref (A 0)), (1, .int p0), (3, .int (nI k))]) hx hb dX4_hillsNow_43 rfl hl (by decide) rfl (fun ls hl => ?_)
            refine lv_iinc (v := (nI (k + 1))) (lv' := [(3, .int (nI (k + 1))), (2, .int (mHillN (F 7) p0 k + (1 : Int32))), (0, .ref (A 0)), (1, .int p0)]) hx hb dX4_hillsNow_44 hl (k := 3) rfl (nI_add k 1) (by decide) rfl (fun ls hl => ?_)
            refine lv_goto (tgt := 4) hx hb dX4_hillsNow_47 (by decide) ?_
            exact ih_4 (k + 1) (mHillN (F 7) p0 k + (1 : Int32)) (nI (k + 1)) (by rw [mHillN]; congr 1; grind) rfl (by omega) (by omega) ls (lv_sub hl [2, 3, 1, 0] rfl)
          · have nc_3 : ¬ k = 0 := fun h => c_3 ((nI_eq (a := k) (b := 0) (by omega) (by omega)).mpr h)
            refine lv_aload_n hx hb dX4_hillsNow_25 rfl (lv_at hl 0 rfl) ?_
            refine va_get (D := D) (ci := 4) (v := .ref (A 7)) (C := RX4) (T := TX4) (N := 29) hx hb hts inlX4 hown hK hP 0 rfl rfl 7 (by decide) (hts _ kw_63) (fun _ h9 => h9) rfl dX4_hillsNow_26 ?_
            refine lv_iload_n hx hb dX4_hillsNow_29 rfl (lv_at hl 3 rfl) ?_
            refine lv_iconst (v := (1 : Int32)) hx hb dX4_hillsNow_30 (by decide) ?_
            refine lv_isub hx hb dX4_hillsNow_31 ?_
            refine topE (z := (nI (k - 1))) (by exact pk_sub (a := k) (b := 1) (by omega)) ?_
            refine va_iald (D := D) hx hb hK hP 5 0 rfl rfl (vp_in_nI (by omega) (by omega)) dX4_hillsNow_32 ?_
            refine topE (z := ((F 7) (k - 1))) (congrArg _ (nI_clamp (n := (k - 1)) (by omega))) ?_
            refine lv_iload_n hx hb dX4_hillsNow_33 rfl (lv_at hl 1 rfl) ?_
            refine lv_icmp_ge (tgt := 41) hx hb dX4_hillsNow_34 (by decide) (fun c_4 => ?_) (fun c_4 => ?_)
            · refine lv_iconst (v := (0 : Int32)) hx hb dX4_hillsNow_41 (by decide) ?_
              refine lv_iadd hx hb dX4_hillsNow_42 ?_
              refine lv_istore_n (lv' := [(2, .int (mHillN (F 7) p0 k + (0 : Int32))), (0, .ref (A 0)), (1, .int p0), (3, .int (nI k))]) hx hb dX4_hillsNow_43 rfl hl (by decide) rfl (fun ls hl => ?_)
              refine lv_iinc (v := (nI (k + 1))) (lv' := [(3, .int (nI (k + 1))), (2, .int (mHillN (F 7) p0 k + (0 : Int32))), (0, .ref (A 0)), (1, .int p0)]) hx hb dX4_hillsNow_44 hl (k := 3) rfl (nI_add k 1) (by decide) rfl (fun ls hl => ?_)
              refine lv_goto (tgt := 4) hx hb dX4_hillsNow_47 (by decide) ?_
              exact ih_4 (k + 1) (mHillN (F 7) p0 k + (0 : Int32)) (nI (k + 1)) (by rw [mHillN]; congr 1; grind) rfl (by omega) (by omega) ls (lv_sub hl [2, 3, 1, 0] rfl)
            · refine lv_iconst (v := (1 : Int32)) hx hb dX4_hillsNow_37 (by decide) ?_
              refine lv_goto (tgt := 42) hx hb dX4_hillsNow_38 (by decide) ?_
              refine lv_iadd hx hb dX4_hillsNow_42 ?_
              refine lv_istore_n (lv' := [(2, .int (mHillN (F 7) p0 k + (1 : Int32))), (0, .ref (A 0)), (1, .int p0), (3, .int (nI k))]) hx hb dX4_hillsNow_43 rfl hl (by decide) rfl (fun ls hl => ?_)
              refine lv_iinc (v := (nI (k + 1))) (lv' := [(3, .int (nI (k + 1))), (2, .int (mHillN (F 7) p0 k + (1 : Int32))), (0, .ref (A 0)), (1, .int p0)]) hx hb dX4_hillsNow_44 hl (k := 3) rfl (nI_add k 1) (by decide) rfl (fun ls hl => ?_)
              refine lv_goto (tgt := 4) hx hb dX4_hillsNow_47 (by decide) ?_
              exact ih_4 (k + 1) (mHillN (F 7) p0 k + (1 : Int32)) (nI (k + 1)) (by rw [mHillN]; congr 1; grind) rfl (by omega) (by omega) ls (lv_sub hl [2, 3, 1, 0] rfl)
  exact loop_4 ((10 - 0) + 1) 0 (0 : Int32) (0 : Int32) rfl rfl (by omega) (by omega) ls (lv_sub hl [2, 3, 1, 0] rfl)
set_option maxHeartbeats 1000000 in
set_option maxRecDepth 100000 in
theorem c_X4_hills (l : Launch) (D : va_G) (cI cB cS : ClassId) {A : Nat → Nat} {I : Nat → Int32} {J : Nat → Int64} {F : Nat → Nat → Int32} {n : Nat} (hn : n ≤ 6) (h1 : I 1 = nI n) (p0 : Int32) : Met l yX4_hills (Wm yX4_hills cX4_hills 2 (some .int)) ({ frames := 1, cells := 0, slots := 0, locals := 23 }) (va_Pc [.ref (A 0), .int p0] (PR D (TYS cI cB cS) (wsM A cI cB I J F))) (QcV (some (.int (mHills (F 7) n p0)))) 0 0 (fun _ => False) := by
  refine metR (by decide) [.ref (A 0), .int p0] (Nat.le_of_ble_eq_true rfl) ?_
  intro p e s m args below meth c hx hb hml hr hlk hown hts hKK hP ls hl
  obtain ⟨hK, hN⟩ := id hKK
  have hl : lv_has ls 2 [(0, .ref (A 0)), (1, .int p0)] := hl
  refine lv_iload_n hx hb dX4_hills_0 rfl (lv_at hl 1 rfl) ?_
  refine lv_iconst (v := (1 : Int32)) hx hb dX4_hills_1 (by decide) ?_
  refine lv_bipush (v := (99 : Int32)) hx hb dX4_hills_2 (by decide) ?_
  refine rcSi (As := [.int p0, .int (1 : Int32), .int (99 : Int32)]) (rest := []) hx hb hml hown hts hKK hP (c_X4_within l D cI cB cS p0 (1 : Int32) (99 : Int32)) (cwS2 3 hts kw_90 kw_6 kw_88 kw_89 rfl rfl (by decide +kernel) ⟨Nat.le_of_ble_eq_true rfl, Nat.le_of_ble_eq_true rfl⟩) rfl hl.1 rfl (Nat.le_of_ble_eq_true rfl) ⟨Nat.zero_le _, Nat.zero_le _⟩ dX4_hills_4 ?_
  refine lv_if_ne (tgt := 13) hx hb dX4_hills_7 (by decide) (fun c_1 => ?_) (fun c_1 => ?_)
  · have c_1 := b2_nz c_1
    refine lv_aload_n hx hb dX4_hills_13 rfl (lv_at hl 0 rfl) ?_
    refine va_get (D := D) (ci := 4) (v := .int (I 1)) (C := RX4) (T := TX4) (N := 29) hx hb hts inlX4 hown hK hP 0 rfl rfl 1 (by decide) (hts _ kw_251) (fun _ h9 => h9) rfl dX4_hills_14 ?_
    refine topE (z := (nI n)) h1 ?_
    refine lv_if_ne (tgt := 25) hx hb dX4_hills_17 (by decide) (fun c_2 => ?_) (fun c_2 => ?_)
    · have nc_2 : ¬ n = 0 := fun h => c_2 ((nI_eq (a := n) (b := 0) (by omega) (by omega)).mpr h)
      refine lv_aload_n hx hb dX4_hills_25 rfl (lv_at hl 0 rfl) ?_
      refine lv_iload_n hx hb dX4_hills_26 rfl (lv_at hl 1 rfl) ?_
      refine rcVi (As := [.int p0]) (rest := []) hx hb hml hown hts hKK hP (c_X4_hillsNow l D cI cB cS hn h1 p0) (cwV2 1 hts kw_440 kw_6 kw_437 kw_438 kw_439 rfl rfl (by decide +kernel) ⟨Nat.le_of_ble_eq_true rfl, Nat.le_of_ble_eq_true rfl⟩) 0 rfl rfl rfl rfl hl.1 rfl (Nat.le_of_ble_eq_true rfl) ⟨Nat.zero_le _, Nat.zero_le _⟩ dX4_hills_27 ?_
      refine topE (z := (mHillN (F 7) p0 10)) rfl ?_
      exact retRi hx hb hr hlk dX4_hills_30 (by grind [mHills])
    · have nc_2 : n = 0 := (nI_eq (a := n) (b := 0) (by omega) (by omega)).mp c_2
      refine lv_bipush (v := (-103 : Int32)) hx hb dX4_hills_20 (by decide) ?_
      refine lv_goto (tgt := 30) hx hb dX4_hills_22 (by decide) ?_
      exact retRi hx hb hr hlk dX4_hills_30 (by grind [mHills])
  · have c_1 := b2_z c_1
    refine lv_bipush (v := (-102 : Int32)) hx hb dX4_hills_10 (by decide) ?_
    exact retRi hx hb hr hlk dX4_hills_12 (by grind [mHills])
set_option maxHeartbeats 1000000 in
set_option maxRecDepth 100000 in
theorem c_X4_closeNow (l : Launch) (D : va_G) (cI cB cS : ClassId) {A : Nat → Nat} {I : Nat → Int32} {J : Nat → Int64} {F : Nat → Nat → Int32} {n : Nat} (hn : n ≤ 6) (h1 : I 1 = nI n) (p0 p1 : Int32) : Met l yX4_closeNow (Wm yX4_closeNow cX4_closeNow 5 (some .int)) ({ frames := 4, cells := 0, slots := 0, locals := 96 }) (va_Pc [.ref (A 0), .int p0, .int p1] (PR D (TYS cI cB cS) (wsM A cI cB I J F))) (QcV (some (.int (cFirst (fun k => mTo F (I 6) n p0 (nI k)) p1 21 0)))) 0 0 (fun _ => False) := by
  refine metR (by decide) [.ref (A 0), .int p0, .int p1] (Nat.le_of_ble_eq_true rfl) ?_
  intro p e s m args below meth c hx hb hml hr hlk hown hts hKK hP ls hl
  obtain ⟨hK, hN⟩ := id hKK
  have hl : lv_has ls 5 [(0, .ref (A 0)), (1, .int p0), (2, .int p1)] := hl
  refine lv_iconst (v := (-1 : Int32)) hx hb dX4_closeNow_0 (by decide) ?_
  refine lv_istore_n (lv' := [(3, .int (-1 : Int32)), (0, .ref (A 0)), (1, .int p0), (2, .int p1)]) hx hb dX4_closeNow_1 rfl hl (by decide) rfl (fun ls hl => ?_)
  refine lv_bipush (v := (20 : Int32)) hx hb dX4_closeNow_2 (by decide) ?_
  refine lv_istore (lv' := [(4, .int (20 : Int32)), (3, .int (-1 : Int32)), (0, .ref (A 0)), (1, .int p0), (2, .int p1)]) hx hb dX4_closeNow_4 hl (by decide) rfl (fun ls hl => ?_)
  have loop_6 : ∀ (z : Nat) (u : Nat) (x3 : Int32) (x4 : Int32), x3 = cFirst (fun k => mTo F (I 6) n p0 (nI k)) p1 (21 - u) u → x4 = nI u - 1 → (u ≤ 21) → u < z → ∀ (ls : Array Slot), lv_has ls 5 [(0, .ref (A 0)), (1, .int p0), (2, .int p1), (3, .int x3), (4, .int x4)] → W p l e ({ frames := 4, cells := 0, slots := 0, locals := 96 } : Room) s m args below meth c s.heap [] 0 0 (MQ below (QcV (some (.int (cFirst (fun k => mTo F (I 6) n p0 (nI k)) p1 21 0)))) args s 0 0 (fun _ => False)) (F0 m 6 ls []) := by
    intro z
    induction z with
    | zero =>
      intro u x3 x4 ex3 ex4 hu hz
      exact absurd hz (Nat.not_lt_zero _)
    | succ z ih_6 =>
      intro u x3 x4 ex3 ex4 hu hz ls hl
      subst ex3
      subst ex4
      rcases u with _ | u
      · have hl : lv_has ls 5 [(0, .ref (A 0)), (1, .int p0), (2, .int p1), (3, .int (cFirst (fun k => mTo F (I 6) n p0 (nI k)) p1 (21 - 0) 0)), (4, .int (-1 : Int32))] := hl
        refine lv_iload hx hb dX4_closeNow_6 (lv_at hl 4 rfl) ?_
        refine lv_if_lt (tgt := 35) hx hb dX4_closeNow_8 (by decide) (fun c_1 => ?_) (fun c_1 => ?_)
        · refine lv_iload_n hx hb dX4_closeNow_35 rfl (lv_at hl 3 rfl) ?_
          exact retRi hx hb hr hlk dX4_closeNow_36 rfl
        · exact absurd c_1 (by decide)
      · have hl : lv_has ls 5 [(0, .ref (A 0)), (1, .int p0), (2, .int p1), (3, .int (cFirst (fun k => mTo F (I 6) n p0 (nI k)) p1 (21 - (u + 1)) (u + 1))), (4, .int (nI u))] := by rw [← nI_pred u]; exact hl
        refine lv_iload hx hb dX4_closeNow_6 (lv_at hl 4 rfl) ?_
        refine lv_if_lt (tgt := 35) hx hb dX4_closeNow_8 (by decide) (fun c_2 => ?_) (fun c_2 => ?_)
        · have nc_2 : u < 0 := (nI_ltI (a := u) (b := 0) (by omega) (by omega)).mp c_2
          refine lv_iload_n hx hb dX4_closeNow_35 rfl (lv_at hl 3 rfl) ?_
          exact retRi hx hb hr hlk dX4_closeNow_36 (by exfalso; omega)
        · have nc_2 : ¬ u < 0 := fun h => c_2 ((nI_ltI (a := u) (b := 0) (by omega) (by omega)).mpr h)
          refine lv_aload_n hx hb dX4_closeNow_11 rfl (lv_at hl 0 rfl) ?_
          refine lv_iload_n hx hb dX4_closeNow_12 rfl (lv_at hl 1 rfl) ?_
          refine lv_iload hx hb dX4_closeNow_13 (lv_at hl 4 rfl) ?_
          refine rcVi (As := [.int p0, .int (nI u)]) (rest := []) hx hb hml hown hts hKK hP (c_X4_comesTo l D cI cB cS hn h1 p0 (nI u)) (cwV2 2 hts kw_319 kw_6 kw_316 kw_317 kw_318 rfl rfl (by decide +kernel) ⟨Nat.le_of_ble_eq_true rfl, Nat.le_of_ble_eq_true rfl⟩) 0 rfl rfl rfl rfl hl.1 rfl (Nat.le_of_ble_eq_true rfl) ⟨Nat.zero_le _, Nat.zero_le _⟩ dX4_closeNow_15 ?_
          refine topE (z := (mTo F (I 6) n p0 (nI u))) rfl ?_
          refine lv_iload_n hx hb dX4_closeNow_18 rfl (lv_at hl 2 rfl) ?_
          refine lv_icmp_ne (tgt := 27) hx hb dX4_closeNow_19 (by decide) (fun c_3 => ?_) (fun c_3 => ?_)
          · refine lv_iload_n hx hb dX4_closeNow_27 rfl (lv_at hl 3 rfl) ?_
            refine lv_istore_n (lv' := [(3, .int (cFirst (fun k => mTo F (I 6) n p0 (nI k)) p1 (21 - (u + 1)) (u + 1))), (0, .ref (A 0)), (1, .int p0), (2, .int p1), (4, .int (nI u))]) hx hb dX4_closeNow_28 rfl hl (by decide) rfl (fun ls hl => ?_)
            refine lv_iinc (v := ((nI u) + (-1 : Int32))) (lv' := [(4, .int ((nI u) + (-1 : Int32))), (3, .int (cFirst (fun k => mTo F (I 6) n p0 (nI k)) p1 (21 - (u + 1)) (u + 1))), (0, .ref (A 0)), (1, .int p0), (2, .int p1)]) hx hb dX4_closeNow_29 hl (k := 4) rfl rfl (by decide) rfl (fun ls hl => ?_)
            refine lv_goto (tgt := 6) hx hb dX4_closeNow_32 (by decide) ?_
            exact ih_6 u (cFirst (fun k => mTo F (I 6) n p0 (nI k)) p1 (21 - (u + 1)) (u + 1)) ((nI u) + (-1 : Int32)) (by rw [show 21 - u = (21 - (u + 1)) + 1 by omega, cFirst]; first | rw [if_pos (by assumption)] | rw [if_neg (by assumption)]) (by rw [Int32.sub_eq_add_neg]) (by omega) (by omega) ls (lv_sub hl [2, 3, 4, 1, 0] rfl)
          · refine lv_iload hx hb dX4_closeNow_22 (lv_at hl 4 rfl) ?_
            refine lv_goto (tgt := 28) hx hb dX4_closeNow_24 (by decide) ?_
            refine lv_istore_n (lv' := [(3, .int (nI u)), (0, .ref (A 0)), (1, .int p0), (2, .int p1), (4, .int (nI u))]) hx hb dX4_closeNow_28 rfl hl (by decide) rfl (fun ls hl => ?_)
            refine lv_iinc (v := ((nI u) + (-1 : Int32))) (lv' := [(4, .int ((nI u) + (-1 : Int32))), (3, .int (nI u)), (0, .ref (A 0)), (1, .int p0), (2, .int p1)]) hx hb dX4_closeNow_29 hl (k := 4) rfl rfl (by decide) rfl (fun ls hl => ?_)
            refine lv_goto (tgt := 6) hx hb dX4_closeNow_32 (by decide) ?_
            exact ih_6 u (nI u) ((nI u) + (-1 : Int32)) (by rw [show 21 - u = (21 - (u + 1)) + 1 by omega, cFirst]; first | rw [if_pos (by assumption)] | rw [if_neg (by assumption)]) (by rw [Int32.sub_eq_add_neg]) (by omega) (by omega) ls (lv_sub hl [2, 3, 4, 1, 0] rfl)
  exact loop_6 ((21) + 1) 21 (-1 : Int32) (20 : Int32) rfl (by decide) (by omega) (by omega) ls (lv_sub hl [2, 3, 4, 1, 0] rfl)
set_option maxHeartbeats 1000000 in
set_option maxRecDepth 100000 in
theorem c_X4_close (l : Launch) (D : va_G) (cI cB cS : ClassId) {A : Nat → Nat} {I : Nat → Int32} {J : Nat → Int64} {F : Nat → Nat → Int32} {n : Nat} (hn : n ≤ 6) (h1 : I 1 = nI n) (p0 p1 : Int32) : Met l yX4_close (Wm yX4_close cX4_close 3 (some .int)) ({ frames := 5, cells := 0, slots := 0, locals := 120 }) (va_Pc [.ref (A 0), .int p0, .int p1] (PR D (TYS cI cB cS) (wsM A cI cB I J F))) (QcV (some (.int (mClose F (I 6) n p0 p1)))) 0 0 (fun _ => False) := by
  refine metR (by decide) [.ref (A 0), .int p0, .int p1] (Nat.le_of_ble_eq_true rfl) ?_
  intro p e s m args below meth c hx hb hml hr hlk hown hts hKK hP ls hl
  obtain ⟨hK, hN⟩ := id hKK
  have hl : lv_has ls 3 [(0, .ref (A 0)), (1, .int p0), (2, .int p1)] := hl
  refine lv_aload_n hx hb dX4_close_0 rfl (lv_at hl 0 rfl) ?_
  refine lv_iload_n hx hb dX4_close_1 rfl (lv_at hl 1 rfl) ?_
  refine rcVi (As := [.int p0]) (rest := []) hx hb hml hown hts hKK hP (c_X4_isCell l D cI cB cS hn h1 p0) (cwV2 1 hts kw_399 kw_6 kw_396 kw_397 kw_398 rfl rfl (by decide +kernel) ⟨Nat.le_of_ble_eq_true rfl, Nat.le_of_ble_eq_true rfl⟩) 0 rfl rfl rfl rfl hl.1 rfl (Nat.le_of_ble_eq_true rfl) ⟨Nat.zero_le _, Nat.zero_le _⟩ dX4_close_2 ?_
  refine lv_if_ne (tgt := 13) hx hb dX4_close_5 (by decide) (fun c_1 => ?_) (fun c_1 => ?_)
  · have c_1 := b2_nz c_1
    refine lv_iload_n hx hb dX4_close_13 rfl (lv_at hl 2 rfl) ?_
    refine lv_iconst (v := (0 : Int32)) hx hb dX4_close_14 (by decide) ?_
    refine lv_bipush (v := (99 : Int32)) hx hb dX4_close_15 (by decide) ?_
    refine rcSi (As := [.int p1, .int (0 : Int32), .int (99 : Int32)]) (rest := []) hx hb hml hown hts hKK hP (c_X4_within l D cI cB cS p1 (0 : Int32) (99 : Int32)) (cwS2 3 hts kw_90 kw_6 kw_88 kw_89 rfl rfl (by decide +kernel) ⟨Nat.le_of_ble_eq_true rfl, Nat.le_of_ble_eq_true rfl⟩) rfl hl.1 rfl (Nat.le_of_ble_eq_true rfl) ⟨Nat.zero_le _, Nat.zero_le _⟩ dX4_close_17 ?_
    refine topE (z := (b2 (okMuch p1))) rfl ?_
    refine lv_if_eq (tgt := 32) hx hb dX4_close_20 (by decide) (fun c_2 => ?_) (fun c_2 => ?_)
    · have c_2 := b2_z c_2
      refine lv_bipush (v := (-102 : Int32)) hx hb dX4_close_32 (by decide) ?_
      exact retRi hx hb hr hlk dX4_close_34 (by grind [mClose])
    · have c_2 := b2_nz c_2
      refine lv_aload_n hx hb dX4_close_23 rfl (lv_at hl 0 rfl) ?_
      refine lv_iload_n hx hb dX4_close_24 rfl (lv_at hl 1 rfl) ?_
      refine lv_iload_n hx hb dX4_close_25 rfl (lv_at hl 2 rfl) ?_
      refine rcVi (As := [.int p0, .int p1]) (rest := []) hx hb hml hown hts hKK hP (c_X4_closeNow l D cI cB cS hn h1 p0 p1) (cwV2 2 hts kw_455 kw_6 kw_452 kw_453 kw_454 rfl rfl (by decide +kernel) ⟨Nat.le_of_ble_eq_true rfl, Nat.le_of_ble_eq_true rfl⟩) 0 rfl rfl rfl rfl hl.1 rfl (Nat.le_of_ble_eq_true rfl) ⟨Nat.zero_le _, Nat.zero_le _⟩ dX4_close_26 ?_
      refine topE (z := (cFirst (fun k => mTo F (I 6) n p0 (nI k)) p1 21 0)) rfl ?_
      refine lv_goto (tgt := 34) hx hb dX4_close_29 (by decide) ?_
      exact retRi hx hb hr hlk dX4_close_34 (by grind [mClose])
  · have c_1 := b2_z c_1
    refine lv_bipush (v := (-101 : Int32)) hx hb dX4_close_8 (by decide) ?_
    refine lv_goto (tgt := 34) hx hb dX4_close_10 (by decide) ?_
    exact retRi hx hb hr hlk dX4_close_34 (by grind [mClose])
set_option maxHeartbeats 1000000 in
set_option maxRecDepth 100000 in
theorem c_X4_isDryAt (l : Launch) (D : va_G) (cI cB cS : ClassId) {A : Nat → Nat} {I : Nat → Int32} {J : Nat → Int64} {F : Nat → Nat → Int32} {n : Nat} (hn : n ≤ 6) (h1 : I 1 = nI n) (p0 p1 : Int32) : Met l yX4_isDryAt (Wm yX4_isDryAt cX4_isDryAt 5 (some .boolean)) ({ frames := 4, cells := 0, slots := 0, locals := 96 }) (va_Pc [.ref (A 0), .int p0, .int p1] (PR D (TYS cI cB cS) (wsM A cI cB I J F))) (QcV (some (.int (b2 (mDryAt F (I 6) n p0 p1))))) 0 0 (fun _ => False) := by
  refine metR (by decide) [.ref (A 0), .int p0, .int p1] (Nat.le_of_ble_eq_true rfl) ?_
  intro p e s m args below meth c hx hb hml hr hlk hown hts hKK hP ls hl
  obtain ⟨hK, hN⟩ := id hKK
  have hl : lv_has ls 5 [(0, .ref (A 0)), (1, .int p0), (2, .int p1)] := hl
  refine lv_iconst (v := (1 : Int32)) hx hb dX4_isDryAt_0 (by decide) ?_
  refine lv_istore_n (lv' := [(3, .int (1 : Int32)), (0, .ref (A 0)), (1, .int p0), (2, .int p1)]) hx hb dX4_isDryAt_1 rfl hl (by decide) rfl (fun ls hl => ?_)
  refine lv_iconst (v := (0 : Int32)) hx hb dX4_isDryAt_2 (by decide) ?_
  refine lv_istore (lv' := [(4, .int (0 : Int32)), (3, .int (1 : Int32)), (0, .ref (A 0)), (1, .int p0), (2, .int p1)]) hx hb dX4_isDryAt_3 hl (by decide) rfl (fun ls hl => ?_)
  have loop_5 : ∀ (z : Nat) (k : Nat) (x3 : Int32) (x4 : Int32), x3 = b2 (∀ c, c < k → (¬ bitOn p1 (nI c) ∨ mTo F (I 6) n (nI c) p0 = 0)) → x4 = nI k → (k ≤ 10) → 10 - k < z → ∀ (ls : Array Slot), lv_has ls 5 [(0, .ref (A 0)), (1, .int p0), (2, .int p1), (3, .int x3), (4, .int x4)] → W p l e ({ frames := 4, cells := 0, slots := 0, locals := 96 } : Room) s m args below meth c s.heap [] 0 0 (MQ below (QcV (some (.int (b2 (mDryAt F (I 6) n p0 p1))))) args s 0 0 (fun _ => False)) (F0 m 5 ls []) := by
    intro z
    induction z with
    | zero =>
      intro k x3 x4 ex3 ex4 hk hz
      exact absurd hz (Nat.not_lt_zero _)
    | succ z ih_5 =>
      intro k x3 x4 ex3 ex4 hk hz ls hl
      subst ex3
      subst ex4
      refine lv_iload hx hb dX4_isDryAt_5 (lv_at hl 4 rfl) ?_
      refine lv_bipush (v := (10 : Int32)) hx hb dX4_isDryAt_7 (by decide) ?_
      refine lv_icmp_ge (tgt := 47) hx hb dX4_isDryAt_9 (by decide) (fun c_1 => ?_) (fun c_1 => ?_)
      · have nc_1 : 10 ≤ k := (nI_leI (a := 10) (b := k) (by omega) (by omega)).mp c_1
        refine lv_iload_n hx hb dX4_isDryAt_47 rfl (lv_at hl 3 rfl) ?_
        exact retRz hx hb hr hlk dX4_isDryAt_48 (by have hkn : k = 10 := (by omega); subst hkn; rfl)
      · have nc_1 : ¬ 10 ≤ k := fun h => c_1 ((nI_leI (a := 10) (b := k) (by omega) (by omega)).mpr h)
        refine lv_iload_n hx hb dX4_isDryAt_12 rfl (lv_at hl 3 rfl) ?_
        refine lv_if_eq (tgt := 39) hx hb dX4_isDryAt_13 (by decide) (fun c_2 => ?_) (fun c_2 => ?_)
        · have c_2 := b2_z c_2
          refine lv_iconst (v := (0 : Int32)) hx hb dX4_isDryAt_39 (by decide) ?_
          refine lv_istore_n (lv' := [(3, .int (0 : Int32)), (0, .ref (A 0)), (1, .int p0), (2, .int p1), (4, .int (nI k))]) hx hb dX4_isDryAt_40 rfl hl (by decide) rfl (fun ls hl => ?_)
          refine lv_iinc (v := (nI (k + 1))) (lv' := [(4, .int (nI (k + 1))), (3, .int (0 : Int32)), (0, .ref (A 0)), (1, .int p0), (2, .int p1)]) hx hb dX4_isDryAt_41 hl (k := 4) rfl (nI_add k 1) (by decide) rfl (fun ls hl => ?_)
          refine lv_goto (tgt := 5) hx hb dX4_isDryAt_44 (by decide) ?_
          exact ih_5 (k + 1) (0 : Int32) (nI (k + 1)) (by first | exact b2_f (fun h => absurd (fun i hi => h i (Nat.lt_succ_of_lt hi)) c_2) | exact b2_f (fun h => absurd (h k (by omega)) (by grind))) rfl (by omega) (by omega) ls (lv_sub hl [2, 3, 4, 1, 0] rfl)
        · have c_2 := b2_nz c_2
          refine lv_iload_n hx hb dX4_isDryAt_16 rfl (lv_at hl 2 rfl) ?_
          refine lv_iload hx hb dX4_isDryAt_17 (lv_at hl 4 rfl) ?_
          refine rcSi (As := [.int p1, .int (nI k)]) (rest := []) hx hb hml hown hts hKK hP (c_X4_isIn l D cI cB cS p1 (nI k)) (cwS2 2 hts kw_330 kw_6 kw_328 kw_329 rfl rfl (by decide +kernel) ⟨Nat.le_of_ble_eq_true rfl, Nat.le_of_ble_eq_true rfl⟩) rfl hl.1 rfl (Nat.le_of_ble_eq_true rfl) ⟨Nat.zero_le _, Nat.zero_le _⟩ dX4_isDryAt_19 ?_
          refine lv_if_eq (tgt := 35) hx hb dX4_isDryAt_22 (by decide) (fun c_3 => ?_) (fun c_3 => ?_)
          · have c_3 := b2_z c_3
            refine lv_iconst (v := (1 : Int32)) hx hb dX4_isDryAt_35 (by decide) ?_
            refine lv_goto (tgt := 40) hx hb dX4_isDryAt_36 (by decide) ?_
            refine lv_istore_n (lv' := [(3, .int (1 : Int32)), (0, .ref (A 0)), (1, .int p0), (2, .int p1), (4, .int (nI k))]) hx hb dX4_isDryAt_40 rfl hl (by decide) rfl (fun ls hl => ?_)
            refine lv_iinc (v := (nI (k + 1))) (lv' := [(4, .int (nI (k + 1))), (3, .int (1 : Int32)), (0, .ref (A 0)), (1, .int p0), (2, .int p1)]) hx hb dX4_isDryAt_41 hl (k := 4) rfl (nI_add k 1) (by decide) rfl (fun ls hl => ?_)
            refine lv_goto (tgt := 5) hx hb dX4_isDryAt_44 (by decide) ?_
            exact ih_5 (k + 1) (1 : Int32) (nI (k + 1)) (by exact b2_t (fun i hi => by by_cases hik : i = k; (subst hik; grind); exact c_2 i (by omega))) rfl (by omega) (by omega) ls (lv_sub hl [2, 3, 4, 1, 0] rfl)
          · have c_3 := b2_nz c_3
            refine lv_aload_n hx hb dX4_isDryAt_25 rfl (lv_at hl 0 rfl) ?_
            refine lv_iload hx hb dX4_isDryAt_26 (lv_at hl 4 rfl) ?_
            refine lv_iload_n hx hb dX4_isDryAt_28 rfl (lv_at hl 1 rfl) ?_
            refine rcVi (As := [.int (nI k), .int p0]) (rest := []) hx hb hml hown hts hKK hP (c_X4_comesTo l D cI cB cS hn h1 (nI k) p0) (cwV2 2 hts kw_319 kw_6 kw_316 kw_317 kw_318 rfl rfl (by decide +kernel) ⟨Nat.le_of_ble_eq_true rfl, Nat.le_of_ble_eq_true rfl⟩) 0 rfl rfl rfl rfl hl.1 rfl (Nat.le_of_ble_eq_true rfl) ⟨Nat.zero_le _, Nat.zero_le _⟩ dX4_isDryAt_29 ?_
            refine topE (z := (mTo F (I 6) n (nI k) p0)) rfl ?_
            refine lv_if_ne (tgt := 39) hx hb dX4_isDryAt_32 (by decide) (fun c_4 => ?_) (fun c_4 => ?_)
            · refine lv_iconst (v := (0 : Int32)) hx hb dX4_isDryAt_39 (by decide) ?_
              refine lv_istore_n (lv' := [(3, .int (0 : Int32)), (0, .ref (A 0)), (1, .int p0), (2, .int p1), (4, .int (nI k))]) hx hb dX4_isDryAt_40 rfl hl (by decide) rfl (fun ls hl => ?_)
              refine lv_iinc (v := (nI (k + 1))) (lv' := [(4, .int (nI (k + 1))), (3, .int (0 : Int32)), (0, .ref (A 0)), (1, .int p0), (2, .int p1)]) hx hb dX4_isDryAt_41 hl (k := 4) rfl (nI_add k 1) (by decide) rfl (fun ls hl => ?_)
              refine lv_goto (tgt := 5) hx hb dX4_isDryAt_44 (by decide) ?_
              exact ih_5 (k + 1) (0 : Int32) (nI (k + 1)) (by first | exact b2_f (fun h => absurd (fun i hi => h i (Nat.lt_succ_of_lt hi)) c_4) | exact b2_f (fun h => absurd (h k (by omega)) (by grind))) rfl (by omega) (by omega) ls (lv_sub hl [2, 3, 4, 1, 0] rfl)
            · refine lv_iconst (v := (1 : Int32)) hx hb dX4_isDryAt_35 (by decide) ?_
              refine lv_goto (tgt := 40) hx hb dX4_isDryAt_36 (by decide) ?_
              refine lv_istore_n (lv' := [(3, .int (1 : Int32)), (0, .ref (A 0)), (1, .int p0), (2, .int p1), (4, .int (nI k))]) hx hb dX4_isDryAt_40 rfl hl (by decide) rfl (fun ls hl => ?_)
              refine lv_iinc (v := (nI (k + 1))) (lv' := [(4, .int (nI (k + 1))), (3, .int (1 : Int32)), (0, .ref (A 0)), (1, .int p0), (2, .int p1)]) hx hb dX4_isDryAt_41 hl (k := 4) rfl (nI_add k 1) (by decide) rfl (fun ls hl => ?_)
              refine lv_goto (tgt := 5) hx hb dX4_isDryAt_44 (by decide) ?_
              exact ih_5 (k + 1) (1 : Int32) (nI (k + 1)) (by exact b2_t (fun i hi => by by_cases hik : i = k; (subst hik; grind); exact c_2 i (by omega))) rfl (by omega) (by omega) ls (lv_sub hl [2, 3, 4, 1, 0] rfl)
  exact loop_5 ((10 - 0) + 1) 0 (1 : Int32) (0 : Int32) (by exact b2_t (fun i hi => absurd hi (by omega))) rfl (by omega) (by omega) ls (lv_sub hl [2, 3, 4, 1, 0] rfl)
