/-! the reference's larger methods -/
def layF (g f : Nat → Int32) (v c : Nat) : Nat → Int32 := fun i => if i < 90 ∧ (i % 9 < v ∨ (i % 9 = v ∧ i / 9 < c)) then g i else f i
theorem layF_0 {g f : Nat → Int32} : layF g f 0 0 = f := by
  funext i
  unfold layF
  rw [if_neg (by omega)]
theorem layF_upd {g f : Nat → Int32} {v c : Nat} (hv : v < 9) (hc : c < 10) : upd (layF g f v c) (9 * c + v) (g (9 * c + v)) = layF g f v (c + 1) := by
  funext i
  unfold upd layF
  by_cases h : i = 9 * c + v
  · subst h
    rw [if_pos rfl, if_pos (by omega)]
  · rw [if_neg h]
    by_cases h2 : i < 90 ∧ (i % 9 < v ∨ (i % 9 = v ∧ i / 9 < c))
    · rw [if_pos h2, if_pos (by omega)]
    · rw [if_neg h2, if_neg (by omega)]
theorem layF_next {g f : Nat → Int32} {v : Nat} : layF g f v 10 = layF g f (v + 1) 0 := by
  funext i
  unfold layF
  by_cases h : i < 90 ∧ (i % 9 < v ∨ (i % 9 = v ∧ i / 9 < 10))
  · rw [if_pos h, if_pos (by omega)]
  · rw [if_neg h, if_neg (by omega)]
theorem layF_in {g f : Nat → Int32} {i : Nat} (h : i < 90) : layF g f 9 0 i = g i := by
  unfold layF
  rw [if_pos (by omega)]
/-- what comes, by cell and press, laid in a row of ninety -/
abbrev mG (F : Nat → Nat → Int32) (sd : Int32) (n k : Nat) (minute : Int32) : Nat → Int32 := fun i => mTo (mP5 F k (nI (i % 9 + 1))) sd n (nI (i / 9)) minute
def mSame (f : Nat → Int32) (bits : Int32) (c a : Nat) : Nat → Int32
  | 0 => 0
  | b + 1 => mSame f bits c a b + (if bitOn bits (nI a) ∧ bitOn bits (nI b) ∧ f (9 * c + a) = f (9 * c + b) then 1 else 0)
def mWorst (f : Nat → Int32) (bits : Int32) (c : Nat) : Nat → Int32
  | 0 => 0
  | a + 1 => if mSame f bits c a 9 ≤ mWorst f bits c a then mWorst f bits c a else mSame f bits c a 9
theorem mSame_congr {f g : Nat → Int32} {bits : Int32} {c a : Nat} (h : ∀ i, i < 90 → f i = g i) (hc : c < 10) (ha : a < 9) : ∀ b, b ≤ 9 → mSame f bits c a b = mSame g bits c a b
  | 0, _ => rfl
  | b + 1, hb => by
    unfold mSame
    rw [mSame_congr h hc ha b (by omega), h (9 * c + a) (by omega), h (9 * c + b) (by omega)]
theorem mWorst_congr {f g : Nat → Int32} {bits : Int32} {c : Nat} (h : ∀ i, i < 90 → f i = g i) (hc : c < 10) : ∀ a, a ≤ 9 → mWorst f bits c a = mWorst g bits c a
  | 0, _ => rfl
  | a + 1, ha => by
    unfold mWorst
    rw [mWorst_congr h hc a (by omega), mSame_congr h hc (by omega) 9 (Nat.le_refl 9)]
def mLeast (w : Nat → Int32) (l0 : Int32) : Nat → Int32
  | 0 => l0
  | c + 1 => if mLeast w l0 c ≤ w c then mLeast w l0 c else w c
def mBest (w : Nat → Int32) (l0 : Int32) : Nat → Int32
  | 0 => -1
  | c + 1 => if mLeast w l0 c ≤ w c then mBest w l0 c else nI c
abbrev mL0 (bits : Int32) : Int32 := if bits = 0 then 0 else 268435456
def mWb (g : Nat → Int32) (bits : Int32) (c : Nat) : Int32 := mWorst g bits c 9
abbrev mW (F : Nat → Nat → Int32) (sd : Int32) (n fd k : Nat) (minute : Int32) : Nat → Int32 := mWb (mG F sd n k minute) (mHeavy F sd n fd k)
def mLookN (F : Nat → Nat → Int32) (sd : Int32) (n fd k : Nat) (minute : Int32) : Int32 := mBest (mW F sd n fd k minute) (mL0 (mHeavy F sd n fd k)) 10
abbrev mLay (F : Nat → Nat → Int32) (sd : Int32) (n k : Nat) (minute : Int32) (f : Nat → Int32) : Nat → Int32 := layF (mG F sd n k minute) f 9 0
def mLook (F : Nat → Nat → Int32) (sd : Int32) (n fd : Nat) (p0 p1 : Int32) : Int32 := if okS n p0 then (if okMin p1 then mLookN F sd n fd p0.toNatClampNeg p1 else -102) else -101
def mSd (x : Int64) : Int64 := ((1103515245 : Int64) * x + (12345 : Int64)) &&& (2147483647 : Int64)
def mMin (s : Int64) : Int32 := ((s / (65536 : Int64)) - (s / (65536 : Int64)) / ((21 : Int32).toInt64) * ((21 : Int32).toInt64)).toInt32
def mSeeds (x : Int64) : Nat → Int64
  | 0 => x
  | k + 1 => mSd (mSeeds x k)
def mYRow (F : Nat → Nat → Int32) (sd : Int32) (n : Nat) (r0 : Nat → Int32) (x : Int64) : Nat → Nat → Int32
  | 0 => r0
  | k + 1 => rowN (mPress F sd n (mMin (mSeeds x (k + 1))) (mYRow F sd n r0 x k)) (mYRow F sd n r0 x k) 10
def mYearsN (n : Nat) (row : Nat → Int32) (s1 : Int64) (p2 : Int32) : Int32 := if p2 = 0 then sumN row 10 else if p2 = 1 then mDryN row n else s1.toInt32
def mYears (n : Nat) (row : Nat → Int32) (s1 : Int64) (p0 p1 p2 : Int32) : Int32 := if okY p0 p1 p2 then (if 0 < n then mYearsN n row s1 p2 else -103) else -102
def mCount (I : Nat → Int32) (f7 : Nat → Int32) (n : Nat) (p0 : Int32) : Int32 :=
  if p0 = 0 then nI n else if p0 = 1 then mSize (I 6) else if p0 = 2 then I 8 else if p0 = 3 then sumN f7 10 else if p0 = 4 then mDryN f7 n else if p0 = 5 then I 9 else if p0 = 6 then I 13 else if p0 = 7 then I 0 else -102
def mDigS (F : Nat → Nat → Int32) (sd : Int32) (n fd : Nat) : Nat → Int64
  | 0 => 1049
  | k + 1 => mx (mx (mx (mixN (fun w => mStroke F sd n fd k (nI w)) (mDigS F sd n fd k) 6) (mWet F sd k 3)) (mWet F sd k 9)) (mLookN F sd n fd k 6)
def mDScr (F : Nat → Nat → Int32) (sd : Int32) (n : Nat) : Nat → Nat → Int32
  | 0 => F 15
  | k + 1 => mLay F sd n k 6 (mDScr F sd n k)
def mLand (F : Nat → Nat → Int32) (sd : Int32) (n : Nat) (h : Int64) : Int64 :=
  mx (mx (mx (mix2 (F 7) (fun c => mTo F sd n (nI c) 4) h 10) (mHillN (F 7) 5 10)) (mSand F sd n 4 1023 0)) (mSand F sd n 4 1023 1)
def mDigest (I : Nat → Int32) (F : Nat → Nat → Int32) (n fd sz : Nat) : Int64 :=
  mixN (fun w => mCount I (F 7) n (nI w)) (mixN (F 14) (if 0 < n then mLand F (I 6) n (mDigS F (I 6) n fd n) else mDigS F (I 6) n fd n) sz) 8
abbrev mIsL (f : Nat → Int32) (sz : Nat) : Prop := sz % 5 = 4 ∧ fltN (mGood f) sz 0 = sz
abbrev okL (p0 : Int32) : Prop := ¬ p0 < 32 ∧ ¬ (126 : Int32) < p0
set_option maxHeartbeats 1000000 in
set_option maxRecDepth 100000 in
theorem c_X4_layComes (l : Launch) (D : va_G) (cI cB cS : ClassId) {A : Nat → Nat} {I : Nat → Int32} {J : Nat → Int64} {F : Nat → Nat → Int32} {n : Nat} (hn : n ≤ 6) (h1 : I 1 = nI n) {k : Nat} (hk : k < 6) (p1 : Int32) : Met l yX4_layComes (Wm yX4_layComes cX4_layComes 6 none) ({ frames := 4, cells := 0, slots := 0, locals := 96 }) (va_Pc [.ref (A 0), .int (nI k), .int p1] (PW D (TYS cI cB cS) (wsM A cI cB I J F))) (QcW D none (wsM A cI cB I J F) (wsM A cI cB I J (va_up F 15 (mLay F (I 6) n k p1 (F 15))))) 0 0 (FPw (wsM A cI cB I J F)) := by
  refine metW (by decide) [.ref (A 0), .int (nI k), .int p1] (Nat.le_of_ble_eq_true rfl) ?_
  intro p e s m args below meth c hx hb hml hr hlk hown hts hKK hP hD hS ls hl
  obtain ⟨hK, hN⟩ := id hKK
  have hl : lv_has ls 6 [(0, .ref (A 0)), (1, .int (nI k)), (2, .int p1)] := hl
  refine lv_aload_n hx hb dX4_layComes_0 rfl (lv_at hl 0 rfl) ?_
  refine va_get (D := D) (ci := 4) (v := .ref (A 5)) (C := RX4) (T := TX4) (N := 29) hx hb hts inlX4 hown hK hP 0 rfl rfl 5 (by decide) (hts _ kw_62) (fun _ h9 => h9) rfl dX4_layComes_1 ?_
  refine lv_iload_n hx hb dX4_layComes_4 rfl (lv_at hl 1 rfl) ?_
  refine va_iald (D := D) hx hb hK hP 4 0 rfl rfl (vp_in_nI (by omega) (by omega)) dX4_layComes_5 ?_
  refine topE (z := ((F 5) k)) (congrArg _ (nI_clamp (n := k) (by omega))) ?_
  refine lv_istore_n (lv' := [(3, .int ((F 5) k)), (0, .ref (A 0)), (1, .int (nI k)), (2, .int p1)]) hx hb dX4_layComes_6 rfl hl (by decide) rfl (fun ls hl => ?_)
  refine lv_iconst (v := (1 : Int32)) hx hb dX4_layComes_7 (by decide) ?_
  refine lv_istore (lv' := [(4, .int (1 : Int32)), (3, .int ((F 5) k)), (0, .ref (A 0)), (1, .int (nI k)), (2, .int p1)]) hx hb dX4_layComes_8 hl (by decide) rfl (fun ls hl => ?_)
  have loop_10 : ∀ (z : Nat) (v : Nat) (x4 : Int32), x4 = nI (v + 1) → (v ≤ 9) → 9 - v < z → ∀ (H : Heap) (locs : List Loc), va_P D vwCl (wsM A cI cB I J (va_up (va_up F 5 (upd (F 5) k (mHx (F 5 k) v))) 15 (layF (mG F (I 6) n k p1) (F 15) v 0))) H → va_S (FPw (wsM A cI cB I J F)) s.heap H locs → ∀ (ls : Array Slot), lv_has ls 6 [(0, .ref (A 0)), (1, .int (nI k)), (2, .int p1), (3, .int ((F 5) k)), (4, .int x4)] → W p l e ({ frames := 4, cells := 0, slots := 0, locals := 96 } : Room) s m args below meth c H locs 0 0 (MQ below (QcW D none (wsM A cI cB I J F) (wsM A cI cB I J (va_up F 15 (mLay F (I 6) n k p1 (F 15))))) args s 0 0 (FPw (wsM A cI cB I J F))) (F0 m 10 ls []) := by
    intro z
    induction z with
    | zero =>
      intro v x4 ex4 hv hz
      exact absurd hz (Nat.not_lt_zero _)
    | succ z ih_10 =>
      intro v x4 ex4 hv hz H locs hP hS ls hl
      subst ex4
      have hD := va_D_addr (ws := (wsM A cI cB I J F)) (ws' := (wsM A cI cB I J (va_up (va_up F 5 (upd (F 5) k (mHx (F 5 k) v))) 15 (layF (mG F (I 6) n k p1) (F 15) v 0)))) rfl hD
      refine lv_iload hx hb dX4_layComes_10 (lv_at hl 4 rfl) ?_
      refine lv_bipush (v := (9 : Int32)) hx hb dX4_layComes_12 (by decide) ?_
      refine lv_icmp_gt (tgt := 69) hx hb dX4_layComes_14 (by decide) (fun c_1 => ?_) (fun c_1 => ?_)
      · have nc_1 : 9 < (v + 1) := (nI_ltI (a := 9) (b := (v + 1)) (by omega) (by omega)).mp c_1
        refine lv_aload_n hx hb dX4_layComes_69 rfl (lv_at hl 0 rfl) ?_
        refine va_get (D := D) (ci := 4) (v := .ref (A 5)) (C := RX4) (T := TX4) (N := 29) hx hb hts inlX4 hown hK hP 0 rfl rfl 5 (by decide) (hts _ kw_62) (fun _ h9 => h9) rfl dX4_layComes_70 ?_
        refine lv_iload_n hx hb dX4_layComes_73 rfl (lv_at hl 1 rfl) ?_
        refine lv_iload_n hx hb dX4_layComes_74 rfl (lv_at hl 3 rfl) ?_
        refine va_iast (D := D) hx hb hK hP hD hS 4 0 rfl rfl (vp_in_nI (by omega) (by omega)) dX4_layComes_75 (fun H locs hP hD hS => ?_)
        rw [nI_clamp (n := k) (by omega)] at hP hD
        have hP : va_P D vwCl (wsM A cI cB I J (va_up (va_up F 5 (upd (upd (F 5) k (mHx (F 5 k) v)) k ((F 5) k))) 15 (layF (mG F (I 6) n k p1) (F 15) v 0))) H := hP
        have hD : va_D (FPw (wsM A cI cB I J F)) (wsM A cI cB I J (va_up (va_up F 5 (upd (upd (F 5) k (mHx (F 5 k) v)) k ((F 5) k))) 15 (layF (mG F (I 6) n k p1) (F 15) v 0))) := hD
        exact retWv hx hb hr hlk hP hS dX4_layComes_76 (by have hvn : v = 9 := (by omega); subst hvn; rw [upd_upd, upd_self]; rfl)
      · have nc_1 : ¬ 9 < (v + 1) := fun h => c_1 ((nI_ltI (a := 9) (b := (v + 1)) (by omega) (by omega)).mpr h)
        refine lv_aload_n hx hb dX4_layComes_17 rfl (lv_at hl 0 rfl) ?_
        refine va_get (D := D) (ci := 4) (v := .ref (A 5)) (C := RX4) (T := TX4) (N := 29) hx hb hts inlX4 hown hK hP 0 rfl rfl 5 (by decide) (hts _ kw_62) (fun _ h9 => h9) rfl dX4_layComes_18 ?_
        refine lv_iload_n hx hb dX4_layComes_21 rfl (lv_at hl 1 rfl) ?_
        refine lv_iload hx hb dX4_layComes_22 (lv_at hl 4 rfl) ?_
        refine va_iast (D := D) hx hb hK hP hD hS 4 0 rfl rfl (vp_in_nI (by omega) (by omega)) dX4_layComes_24 (fun H locs hP hD hS => ?_)
        rw [nI_clamp (n := k) (by omega)] at hP hD
        have hP : va_P D vwCl (wsM A cI cB I J (va_up (va_up F 5 (upd (upd (F 5) k (mHx (F 5 k) v)) k (nI (v + 1)))) 15 (layF (mG F (I 6) n k p1) (F 15) v 0))) H := hP
        have hD : va_D (FPw (wsM A cI cB I J F)) (wsM A cI cB I J (va_up (va_up F 5 (upd (upd (F 5) k (mHx (F 5 k) v)) k (nI (v + 1)))) 15 (layF (mG F (I 6) n k p1) (F 15) v 0))) := hD
        rw [upd_upd] at hP hD
        refine lv_iconst (v := (0 : Int32)) hx hb dX4_layComes_25 (by decide) ?_
        refine lv_istore (lv' := [(5, .int (0 : Int32)), (0, .ref (A 0)), (1, .int (nI k)), (2, .int p1), (3, .int ((F 5) k)), (4, .int (nI (v + 1)))]) hx hb dX4_layComes_26 hl (by decide) rfl (fun ls hl => ?_)
        have loop_28 : ∀ (z : Nat) (cl : Nat) (x5 : Int32), x5 = nI cl → (cl ≤ 10) → 10 - cl < z → ∀ (H : Heap) (locs : List Loc), va_P D vwCl (wsM A cI cB I J (va_up (va_up F 5 (upd (F 5) k (nI (v + 1)))) 15 (layF (mG F (I 6) n k p1) (F 15) v cl))) H → va_S (FPw (wsM A cI cB I J F)) s.heap H locs → ∀ (ls : Array Slot), lv_has ls 6 [(0, .ref (A 0)), (1, .int (nI k)), (2, .int p1), (3, .int ((F 5) k)), (4, .int (nI (v + 1))), (5, .int x5)] → W p l e ({ frames := 4, cells := 0, slots := 0, locals := 96 } : Room) s m args below meth c H locs 0 0 (MQ below (QcW D none (wsM A cI cB I J F) (wsM A cI cB I J (va_up F 15 (mLay F (I 6) n k p1 (F 15))))) args s 0 0 (FPw (wsM A cI cB I J F))) (F0 m 28 ls []) := by
          intro z
          induction z with
          | zero =>
            intro cl x5 ex5 hc hz
            exact absurd hz (Nat.not_lt_zero _)
          | succ z ih_28 =>
            intro cl x5 ex5 hc hz H locs hP hS ls hl
            subst ex5
            have hD := va_D_addr (ws := (wsM A cI cB I J (va_up (va_up F 5 (upd (F 5) k (nI (v + 1)))) 15 (layF (mG F (I 6) n k p1) (F 15) v 0)))) (ws' := (wsM A cI cB I J (va_up (va_up F 5 (upd (F 5) k (nI (v + 1)))) 15 (layF (mG F (I 6) n k p1) (F 15) v cl)))) rfl hD
            refine lv_iload hx hb dX4_layComes_28 (lv_at hl 5 rfl) ?_
            refine lv_bipush (v := (10 : Int32)) hx hb dX4_layComes_30 (by decide) ?_
            refine lv_icmp_ge (tgt := 63) hx hb dX4_layComes_32 (by decide) (fun c_2 => ?_) (fun c_2 => ?_)
            · have nc_2 : 10 ≤ cl := (nI_leI (a := 10) (b := cl) (by omega) (by omega)).mp c_2
              refine lv_iinc (v := (nI ((v + 1) + 1))) (lv' := [(4, .int (nI ((v + 1) + 1))), (0, .ref (A 0)), (1, .int (nI k)), (2, .int p1), (3, .int ((F 5) k)), (5, .int (nI cl))]) hx hb dX4_layComes_63 hl (k := 4) rfl (nI_add (v + 1) 1) (by decide) rfl (fun ls hl => ?_)
              refine lv_goto (tgt := 10) hx hb dX4_layComes_66 (by decide) ?_
              have hP9 : va_P D vwCl (wsM A cI cB I J (va_up (va_up F 5 (upd (F 5) k (mHx (F 5 k) (v + 1)))) 15 (layF (mG F (I 6) n k p1) (F 15) (v + 1) 0))) H := by have hc10 : cl = 10 := (by omega); subst hc10; rw [← layF_next]; exact hP
              exact ih_10 (v + 1) (nI ((v + 1) + 1)) rfl (by omega) (by omega) H locs hP9 hS ls (lv_sub hl [1, 2, 3, 4, 0] rfl)
            · have nc_2 : ¬ 10 ≤ cl := fun h => c_2 ((nI_leI (a := 10) (b := cl) (by omega) (by omega)).mpr h)
              refine lv_aload_n hx hb dX4_layComes_35 rfl (lv_at hl 0 rfl) ?_
              refine va_get (D := D) (ci := 4) (v := .ref (A 15)) (C := RX4) (T := TX4) (N := 29) hx hb hts inlX4 hown hK hP 0 rfl rfl 15 (by decide) (hts _ kw_69) (fun _ h9 => h9) rfl dX4_layComes_36 ?_
              refine lv_bipush (v := (9 : Int32)) hx hb dX4_layComes_39 (by decide) ?_
              refine lv_iload hx hb dX4_layComes_41 (lv_at hl 5 rfl) ?_
              refine lv_imul hx hb dX4_layComes_43 ?_
              refine topE (z := (nI (9 * cl))) (pk_mul 9 cl) ?_
              refine lv_iload hx hb dX4_layComes_44 (lv_at hl 4 rfl) ?_
              refine lv_iadd hx hb dX4_layComes_46 ?_
              refine topE (z := (nI ((9 * cl) + (v + 1)))) (nI_add (9 * cl) (v + 1)) ?_
              refine lv_iconst (v := (1 : Int32)) hx hb dX4_layComes_47 (by decide) ?_
              refine lv_isub hx hb dX4_layComes_48 ?_
              refine topE (z := (nI (9 * cl + v))) (by rw [show 9 * cl + (v + 1) = (9 * cl + v) + 1 by omega]; exact nI_pred _) ?_
              refine lv_aload_n hx hb dX4_layComes_49 rfl (lv_at hl 0 rfl) ?_
              refine lv_iload hx hb dX4_layComes_50 (lv_at hl 5 rfl) ?_
              refine lv_iload_n hx hb dX4_layComes_52 rfl (lv_at hl 2 rfl) ?_
              refine rcVi (As := [.int (nI cl), .int p1]) (rest := [.int (nI (9 * cl + v)), .ref (A 15)]) hx hb hml hown hts hKK hP (c_X4_comesTo l D cI cB cS hn h1 (nI cl) p1) (cwV2 2 hts kw_319 kw_6 kw_316 kw_317 kw_318 rfl rfl (by decide +kernel) ⟨Nat.le_of_ble_eq_true rfl, Nat.le_of_ble_eq_true rfl⟩) 0 rfl rfl rfl rfl hl.1 rfl (Nat.le_of_ble_eq_true rfl) ⟨Nat.zero_le _, Nat.zero_le _⟩ dX4_layComes_53 ?_
              refine topE (z := (mTo (va_up F 5 (upd (F 5) k (nI (v + 1)))) (I 6) n (nI cl) p1)) rfl ?_
              refine va_iast (D := D) hx hb hK hP hD hS 10 0 rfl rfl (vp_in_nI (by omega) (by omega)) dX4_layComes_56 (fun H locs hP hD hS => ?_)
              rw [nI_clamp (n := (9 * cl + v)) (by omega)] at hP hD
              have hP : va_P D vwCl (wsM A cI cB I J (va_up (va_up F 5 (upd (F 5) k (nI (v + 1)))) 15 (upd (layF (mG F (I 6) n k p1) (F 15) v cl) (9 * cl + v) (mTo (va_up F 5 (upd (F 5) k (nI (v + 1)))) (I 6) n (nI cl) p1)))) H := hP
              have hD : va_D (FPw (wsM A cI cB I J F)) (wsM A cI cB I J (va_up (va_up F 5 (upd (F 5) k (nI (v + 1)))) 15 (upd (layF (mG F (I 6) n k p1) (F 15) v cl) (9 * cl + v) (mTo (va_up F 5 (upd (F 5) k (nI (v + 1)))) (I 6) n (nI cl) p1)))) := hD
              refine lv_iinc (v := (nI (cl + 1))) (lv' := [(5, .int (nI (cl + 1))), (0, .ref (A 0)), (1, .int (nI k)), (2, .int p1), (3, .int ((F 5) k)), (4, .int (nI (v + 1)))]) hx hb dX4_layComes_57 hl (k := 5) rfl (nI_add cl 1) (by decide) rfl (fun ls hl => ?_)
              refine lv_goto (tgt := 28) hx hb dX4_layComes_60 (by decide) ?_
              have hP9 : va_P D vwCl (wsM A cI cB I J (va_up (va_up F 5 (upd (F 5) k (nI (v + 1)))) 15 (layF (mG F (I 6) n k p1) (F 15) v (cl + 1)))) H := by have e1 : (9 * cl + v) % 9 = v := (by omega); have e2 : (9 * cl + v) / 9 = cl := (by omega); rw [← layF_upd (by omega) (by omega), mG, e1, e2]; exact hP
              exact ih_28 (cl + 1) (nI (cl + 1)) rfl (by omega) (by omega) H locs hP9 hS ls (lv_sub hl [1, 2, 3, 4, 5, 0] rfl)
        have hP9 : va_P D vwCl (wsM A cI cB I J (va_up (va_up F 5 (upd (F 5) k (nI (v + 1)))) 15 (layF (mG F (I 6) n k p1) (F 15) v 0))) H := by exact hP
        exact loop_28 ((10 - 0) + 1) 0 (0 : Int32) rfl (by omega) (by omega) H locs hP9 hS ls (lv_sub hl [1, 2, 3, 4, 5, 0] rfl)
  have hP9 : va_P D vwCl (wsM A cI cB I J (va_up (va_up F 5 (upd (F 5) k (mHx (F 5 k) 0))) 15 (layF (mG F (I 6) n k p1) (F 15) 0 0))) s.heap := by rw [show mHx (F 5 k) 0 = F 5 k from rfl, upd_self, layF_0]; exact hP
  exact loop_10 ((9 - 0) + 1) 0 (1 : Int32) rfl (by omega) (by omega) s.heap [] hP9 hS ls (lv_sub hl [2, 3, 4, 1, 0] rfl)
set_option maxHeartbeats 1000000 in
set_option maxRecDepth 100000 in
theorem c_X4_worstAt (l : Launch) (D : va_G) (cI cB cS : ClassId) {A : Nat → Nat} {I : Nat → Int32} {J : Nat → Int64} {F : Nat → Nat → Int32} {n : Nat} (hn : n ≤ 6) (h1 : I 1 = nI n) {cl : Nat} (hc : cl < 10) (p0 : Int32) : Met l yX4_worstAt (Wm yX4_worstAt cX4_worstAt 7 (some .int)) ({ frames := 1, cells := 0, slots := 0, locals := 21 }) (va_Pc [.ref (A 0), .int p0, .int (nI cl)] (PR D (TYS cI cB cS) (wsM A cI cB I J F))) (QcV (some (.int (mWorst (F 15) p0 cl 9)))) 0 0 (fun _ => False) := by
  refine metR (by decide) [.ref (A 0), .int p0, .int (nI cl)] (Nat.le_of_ble_eq_true rfl) ?_
  intro p e s m args below meth c hx hb hml hr hlk hown hts hKK hP ls hl
  obtain ⟨hK, hN⟩ := id hKK
  have hl : lv_has ls 7 [(0, .ref (A 0)), (1, .int p0), (2, .int (nI cl))] := hl
  refine lv_iconst (v := (0 : Int32)) hx hb dX4_worstAt_0 (by decide) ?_
  refine lv_istore_n (lv' := [(3, .int (0 : Int32)), (0, .ref (A 0)), (1, .int p0), (2, .int (nI cl))]) hx hb dX4_worstAt_1 rfl hl (by decide) rfl (fun ls hl => ?_)
  refine lv_iconst (v := (0 : Int32)) hx hb dX4_worstAt_2 (by decide) ?_
  refine lv_istore (lv' := [(4, .int (0 : Int32)), (3, .int (0 : Int32)), (0, .ref (A 0)), (1, .int p0), (2, .int (nI cl))]) hx hb dX4_worstAt_3 hl (by decide) rfl (fun ls hl => ?_)
  have loop_5 : ∀ (z : Nat) (a : Nat) (x3 : Int32) (x4 : Int32), x3 = mWorst (F 15) p0 cl a → x4 = nI a → (a ≤ 9) → 9 - a < z → ∀ (ls : Array Slot), lv_has ls 7 [(0, .ref (A 0)), (1, .int p0), (2, .int (nI cl)), (3, .int x3), (4, .int x4)] → W p l e ({ frames := 1, cells := 0, slots := 0, locals := 21 } : Room) s m args below meth c s.heap [] 0 0 (MQ below (QcV (some (.int (mWorst (F 15) p0 cl 9)))) args s 0 0 (fun _ => False)) (F0 m 5 ls []) := by
    intro z
    induction z with
    | zero =>
      intro a x3 x4 ex3 ex4 ha hz
      exact absurd hz (Nat.not_lt_zero _)
    | succ z ih_5 =>
      intro a x3 x4 ex3 ex4 ha hz ls hl
      subst ex3
      subst ex4
      refine lv_iload hx hb dX4_worstAt_5 (lv_at hl 4 rfl) ?_
      refine lv_bipush (v := (9 : Int32)) hx hb dX4_worstAt_7 (by decide) ?_
      refine lv_icmp_ge (tgt := 105) hx hb dX4_worstAt_9 (by decide) (fun c_1 => ?_) (fun c_1 => ?_)
      · have nc_1 : 9 ≤ a := (nI_leI (a := 9) (b := a) (by omega) (by omega)).mp c_1
        refine lv_iload_n hx hb dX4_worstAt_105 rfl (lv_at hl 3 rfl) ?_
        exact retRi hx hb hr hlk dX4_worstAt_106 (by have han : a = 9 := (by omega); subst han; rfl)
      · have nc_1 : ¬ 9 ≤ a := fun h => c_1 ((nI_leI (a := 9) (b := a) (by omega) (by omega)).mpr h)
        refine lv_iconst (v := (0 : Int32)) hx hb dX4_worstAt_12 (by decide) ?_
        refine lv_istore (lv' := [(5, .int (0 : Int32)), (0, .ref (A 0)), (1, .int p0), (2, .int (nI cl)), (3, .int (mWorst (F 15) p0 cl a)), (4, .int (nI a))]) hx hb dX4_worstAt_13 hl (by decide) rfl (fun ls hl => ?_)
        refine lv_iconst (v := (0 : Int32)) hx hb dX4_worstAt_15 (by decide) ?_
        refine lv_istore (lv' := [(6, .int (0 : Int32)), (5, .int (0 : Int32)), (0, .ref (A 0)), (1, .int p0), (2, .int (nI cl)), (3, .int (mWorst (F 15) p0 cl a)), (4, .int (nI a))]) hx hb dX4_worstAt_16 hl (by decide) rfl (fun ls hl => ?_)
        have loop_18 : ∀ (z : Nat) (b : Nat) (x5 : Int32) (x6 : Int32), x5 = mSame (F 15) p0 cl a b → x6 = nI b → (b ≤ 9) → 9 - b < z → ∀ (ls : Array Slot), lv_has ls 7 [(0, .ref (A 0)), (1, .int p0), (2, .int (nI cl)), (3, .int (mWorst (F 15) p0 cl a)), (4, .int (nI a)), (5, .int x5), (6, .int x6)] → W p l e ({ frames := 1, cells := 0, slots := 0, locals := 21 } : Room) s m args below meth c s.heap [] 0 0 (MQ below (QcV (some (.int (mWorst (F 15) p0 cl 9)))) args s 0 0 (fun _ => False)) (F0 m 18 ls []) := by
          intro z
          induction z with
          | zero =>
            intro b x5 x6 ex5 ex6 hbb hz
            exact absurd hz (Nat.not_lt_zero _)
          | succ z ih_18 =>
            intro b x5 x6 ex5 ex6 hbb hz ls hl
            subst ex5
            subst ex6
            refine lv_iload hx hb dX4_worstAt_18 (lv_at hl 6 rfl) ?_
            refine lv_bipush (v := (9 : Int32)) hx hb dX4_worstAt_20 (by decide) ?_
            refine lv_icmp_ge (tgt := 86) hx hb dX4_worstAt_22 (by decide) (fun c_2 => ?_) (fun c_2 => ?_)
            · have nc_2 : 9 ≤ b := (nI_leI (a := 9) (b := b) (by omega) (by omega)).mp c_2
              refine lv_iload hx hb dX4_worstAt_86 (lv_at hl 5 rfl) ?_
              refine lv_iload_n hx hb dX4_worstAt_88 rfl (lv_at hl 3 rfl) ?_
              refine lv_icmp_le (tgt := 97) hx hb dX4_worstAt_89 (by decide) (fun c_3 => ?_) (fun c_3 => ?_)
              · refine lv_iload_n hx hb dX4_worstAt_97 rfl (lv_at hl 3 rfl) ?_
                refine lv_istore_n (lv' := [(3, .int (mWorst (F 15) p0 cl a)), (0, .ref (A 0)), (1, .int p0), (2, .int (nI cl)), (4, .int (nI a)), (5, .int (mSame (F 15) p0 cl a b)), (6, .int (nI b))]) hx hb dX4_worstAt_98 rfl hl (by decide) rfl (fun ls hl => ?_)
                refine lv_iinc (v := (nI (a + 1))) (lv' := [(4, .int (nI (a + 1))), (3, .int (mWorst (F 15) p0 cl a)), (0, .ref (A 0)), (1, .int p0), (2, .int (nI cl)), (5, .int (mSame (F 15) p0 cl a b)), (6, .int (nI b))]) hx hb dX4_worstAt_99 hl (k := 4) rfl (nI_add a 1) (by decide) rfl (fun ls hl => ?_)
                refine lv_goto (tgt := 5) hx hb dX4_worstAt_102 (by decide) ?_
                exact ih_5 (a + 1) (mWorst (F 15) p0 cl a) (nI (a + 1)) (by have hb9 : b = 9 := (by omega); subst hb9; rw [mWorst]; first | rw [if_pos (by assumption)] | rw [if_neg (by assumption)]) rfl (by omega) (by omega) ls (lv_sub hl [2, 3, 4, 1, 0] rfl)
              · refine lv_iload hx hb dX4_worstAt_92 (lv_at hl 5 rfl) ?_
                refine lv_goto (tgt := 98) hx hb dX4_worstAt_94 (by decide) ?_
                refine lv_istore_n (lv' := [(3, .int (mSame (F 15) p0 cl a b)), (0, .ref (A 0)), (1, .int p0), (2, .int (nI cl)), (4, .int (nI a)), (5, .int (mSame (F 15) p0 cl a b)), (6, .int (nI b))]) hx hb dX4_worstAt_98 rfl hl (by decide) rfl (fun ls hl => ?_)
                refine lv_iinc (v := (nI (a + 1))) (lv' := [(4, .int (nI (a + 1))), (3, .int (mSame (F 15) p0 cl a b)), (0, .ref (A 0)), (1, .int p0), (2, .int (nI cl)), (5, .int (mSame (F 15) p0 cl a b)), (6, .int (nI b))]) hx hb dX4_worstAt_99 hl (k := 4) rfl (nI_add a 1) (by decide) rfl (fun ls hl => ?_)
                refine lv_goto (tgt := 5) hx hb dX4_worstAt_102 (by decide) ?_
                exact ih_5 (a + 1) (mSame (F 15) p0 cl a b) (nI (a + 1)) (by have hb9 : b = 9 := (by omega); subst hb9; rw [mWorst]; first | rw [if_pos (by assumption)] | rw [if_neg (by assumption)]) rfl (by omega) (by omega) ls (lv_sub hl [2, 3, 4, 1, 0] rfl)
            · have nc_2 : ¬ 9 ≤ b := fun h => c_2 ((nI_leI (a := 9) (b := b) (by omega) (by omega)).mpr h)
              refine lv_iload hx hb dX4_worstAt_25 (lv_at hl 5 rfl) ?_
              refine lv_iload_n hx hb dX4_worstAt_27 rfl (lv_at hl 1 rfl) ?_
              refine lv_iload hx hb dX4_worstAt_28 (lv_at hl 4 rfl) ?_
              refine rcSi (As := [.int p0, .int (nI a)]) (rest := [.int (mSame (F 15) p0 cl a b)]) hx hb hml hown hts hKK hP (c_X4_isIn l D cI cB cS p0 (nI a)) (cwS2 2 hts kw_330 kw_6 kw_328 kw_329 rfl rfl (by decide +kernel) ⟨Nat.le_of_ble_eq_true rfl, Nat.le_of_ble_eq_true rfl⟩) rfl hl.1 rfl (Nat.le_of_ble_eq_true rfl) ⟨Nat.zero_le _, Nat.zero_le _⟩ dX4_worstAt_30 ?_
              refine lv_if_eq (tgt := 76) hx hb dX4_worstAt_33 (by decide) (fun c_4 => ?_) (fun c_4 => ?_)
              · have c_4 := b2_z c_4
                refine lv_iconst (v := (0 : Int32)) hx hb dX4_worstAt_76 (by decide) ?_
                refine lv_iadd hx hb dX4_worstAt_77 ?_
                refine lv_istore (lv' := [(5, .int (mSame (F 15) p0 cl a b + (0 : Int32))), (0, .ref (A 0)), (1, .int p0), (2, .int (nI cl)), (3, .int (mWorst (F 15) p0 cl a)), (4, .int (nI a)), (6, .int (nI b))]) hx hb dX4_worstAt_78 hl (by decide) rfl (fun ls hl => ?_)
                refine lv_iinc (v := (nI (b + 1))) (lv' := [(6, .int (nI (b + 1))), (5, .int (mSame (F 15) p0 cl a b + (0 : Int32))), (0, .ref (A 0)), (1, .int p0), (2, .int (nI cl)), (3, .int (mWorst (F 15) p0 cl a)), (4, .int (nI a))]) hx hb dX4_worstAt_80 hl (k := 6) rfl (nI_add b 1) (by decide) rfl (fun ls hl => ?_)
                refine lv_goto (tgt := 18) hx hb dX4_worstAt_83 (by decide) ?_
                exact ih_18 (b + 1) (mSame (F 15) p0 cl a b + (0 : Int32)) (nI (b + 1)) (by rw [mSame]; congr 1; first | exact (if_pos ⟨by assumption, by assumption, by assumption⟩).symm | exact (if_neg (by grind)).symm) rfl (by omega) (by omega) ls (lv_sub hl [2, 3, 4, 5, 6, 1, 0] rfl)
              · have c_4 := b2_nz c_4
                refine lv_iload_n hx hb dX4_worstAt_36 rfl (lv_at hl 1 rfl) ?_
                refine lv_iload hx hb dX4_worstAt_37 (lv_at hl 6 rfl) ?_
                refine rcSi (As := [.int p0, .int (nI b)]) (rest := [.int (mSame (F 15) p0 cl a b)]) hx hb hml hown hts hKK hP (c_X4_isIn l D cI cB cS p0 (nI b)) (cwS2 2 hts kw_330 kw_6 kw_328 kw_329 rfl rfl (by decide +kernel) ⟨Nat.le_of_ble_eq_true rfl, Nat.le_of_ble_eq_true rfl⟩) rfl hl.1 rfl (Nat.le_of_ble_eq_true rfl) ⟨Nat.zero_le _, Nat.zero_le _⟩ dX4_worstAt_39 ?_
                refine lv_if_eq (tgt := 76) hx hb dX4_worstAt_42 (by decide) (fun c_5 => ?_) (fun c_5 => ?_)
                · have c_5 := b2_z c_5
                  refine lv_iconst (v := (0 : Int32)) hx hb dX4_worstAt_76 (by decide) ?_
                  refine lv_iadd hx hb dX4_worstAt_77 ?_
                  refine lv_istore (lv' := [(5, .int (mSame (F 15) p0 cl a b + (0 : Int32))), (0, .ref (A 0)), (1, .int p0), (2, .int (nI cl)), (3, .int (mWorst (F 15) p0 cl a)), (4, .int (nI a)), (6, .int (nI b))]) hx hb dX4_worstAt_78 hl (by decide) rfl (fun ls hl => ?_)
                  refine lv_iinc (v := (nI (b + 1))) (lv' := [(6, .int (nI (b + 1))), (5, .int (mSame (F 15) p0 cl a b + (0 : Int32))), (0, .ref (A 0)), (1, .int p0), (2, .int (nI cl)), (3, .int (mWorst (F 15) p0 cl a)), (4, .int (nI a))]) hx hb dX4_worstAt_80 hl (k := 6) rfl (nI_add b 1) (by decide) rfl (fun ls hl => ?_)
                  refine lv_goto (tgt := 18) hx hb dX4_worstAt_83 (by decide) ?_
                  exact ih_18 (b + 1) (mSame (F 15) p0 cl a b + (0 : Int32)) (nI (b + 1)) (by rw [mSame]; congr 1; first | exact (if_pos ⟨by assumption, by assumption, by assumption⟩).symm | exact (if_neg (by grind)).symm) rfl (by omega) (by omega) ls (lv_sub hl [2, 3, 4, 5, 6, 1, 0] rfl)
                · have c_5 := b2_nz c_5
                  refine lv_aload_n hx hb dX4_worstAt_45 rfl (lv_at hl 0 rfl) ?_
                  refine va_get (D := D) (ci := 4) (v := .ref (A 15)) (C := RX4) (T := TX4) (N := 29) hx hb hts inlX4 hown hK hP 0 rfl rfl 15 (by decide) (hts _ kw_69) (fun _ h9 => h9) rfl dX4_worstAt_46 ?_
                  refine lv_bipush (v := (9 : Int32)) hx hb dX4_worstAt_49 (by decide) ?_
                  refine lv_iload_n hx hb dX4_worstAt_51 rfl (lv_at hl 2 rfl) ?_
                  refine lv_imul hx hb dX4_worstAt_52 ?_
                  refine topE (z := (nI (9 * cl))) (pk_mul 9 cl) ?_
                  refine lv_iload hx hb dX4_worstAt_53 (lv_at hl 4 rfl) ?_
                  refine lv_iadd hx hb dX4_worstAt_55 ?_
                  refine topE (z := (nI ((9 * cl) + a))) (nI_add (9 * cl) a) ?_
                  refine va_iald (D := D) hx hb hK hP 10 0 rfl rfl (vp_in_nI (by omega) (by omega)) dX4_worstAt_56 ?_
                  refine topE (z := ((F 15) ((9 * cl) + a))) (congrArg _ (nI_clamp (n := ((9 * cl) + a)) (by omega))) ?_
                  refine lv_aload_n hx hb dX4_worstAt_57 rfl (lv_at hl 0 rfl) ?_
                  refine va_get (D := D) (ci := 4) (v := .ref (A 15)) (C := RX4) (T := TX4) (N := 29) hx hb hts inlX4 hown hK hP 0 rfl rfl 15 (by decide) (hts _ kw_69) (fun _ h9 => h9) rfl dX4_worstAt_58 ?_
                  refine lv_bipush (v := (9 : Int32)) hx hb dX4_worstAt_61 (by decide) ?_
                  refine lv_iload_n hx hb dX4_worstAt_63 rfl (lv_at hl 2 rfl) ?_
                  refine lv_imul hx hb dX4_worstAt_64 ?_
                  refine topE (z := (nI (9 * cl))) (pk_mul 9 cl) ?_
                  refine lv_iload hx hb dX4_worstAt_65 (lv_at hl 6 rfl) ?_
                  refine lv_iadd hx hb dX4_worstAt_67 ?_
                  refine topE (z := (nI ((9 * cl) + b))) (nI_add (9 * cl) b) ?_
                  refine va_iald (D := D) hx hb hK hP 10 0 rfl rfl (vp_in_nI (by omega) (by omega)) dX4_worstAt_68 ?_
                  refine topE (z := ((F 15) ((9 * cl) + b))) (congrArg _ (nI_clamp (n := ((9 * cl) + b)) (by omega))) ?_
                  refine lv_icmp_ne (tgt := 76) hx hb dX4_worstAt_69 (by decide) (fun c_6 => ?_) (fun c_6 => ?_)
                  · refine lv_iconst (v := (0 : Int32)) hx hb dX4_worstAt_76 (by decide) ?_
                    refine lv_iadd hx hb dX4_worstAt_77 ?_
                    refine lv_istore (lv' := [(5, .int (mSame (F 15) p0 cl a b + (0 : Int32))), (0, .ref (A 0)), (1, .int p0), (2, .int (nI cl)), (3, .int (mWorst (F 15) p0 cl a)), (4, .int (nI a)), (6, .int (nI b))]) hx hb dX4_worstAt_78 hl (by decide) rfl (fun ls hl => ?_)
                    refine lv_iinc (v := (nI (b + 1))) (lv' := [(6, .int (nI (b + 1))), (5, .int (mSame (F 15) p0 cl a b + (0 : Int32))), (0, .ref (A 0)), (1, .int p0), (2, .int (nI cl)), (3, .int (mWorst (F 15) p0 cl a)), (4, .int (nI a))]) hx hb dX4_worstAt_80 hl (k := 6) rfl (nI_add b 1) (by decide) rfl (fun ls hl => ?_)
                    refine lv_goto (tgt := 18) hx hb dX4_worstAt_83 (by decide) ?_
                    exact ih_18 (b + 1) (mSame (F 15) p0 cl a b + (0 : Int32)) (nI (b + 1)) (by rw [mSame]; congr 1; first | exact (if_pos ⟨by assumption, by assumption, by assumption⟩).symm | exact (if_neg (by grind)).symm) rfl (by omega) (by omega) ls (lv_sub hl [2, 3, 4, 5, 6, 1, 0] rfl)
                  · refine lv_iconst (v := (1 : Int32)) hx hb dX4_worstAt_72 (by decide) ?_
                    refine lv_goto (tgt := 77) hx hb dX4_worstAt_73 (by decide) ?_
                    refine lv_iadd hx hb dX4_worstAt_77 ?_
                    refine lv_istore (lv' := [(5, .int (mSame (F 15) p0 cl a b + (1 : Int32))), (0, .ref (A 0)), (1, .int p0), (2, .int (nI cl)), (3, .int (mWorst (F 15) p0 cl a)), (4, .int (nI a)), (6, .int (nI b))]) hx hb dX4_worstAt_78 hl (by decide) rfl (fun ls hl => ?_)
                    refine lv_iinc (v := (nI (b + 1))) (lv' := [(6, .int (nI (b + 1))), (5, .int (mSame (F 15) p0 cl a b + (1 : Int32))), (0, .ref (A 0)), (1, .int p0), (2, .int (nI cl)), (3, .int (mWorst (F 15) p0 cl a)), (4, .int (nI a))]) hx hb dX4_worstAt_80 hl (k := 6) rfl (nI_add b 1) (by decide) rfl (fun ls hl => ?_)
                    refine lv_goto (tgt := 18) hx hb dX4_worstAt_83 (by decide) ?_
                    exact ih_18 (b + 1) (mSame (F 15) p0 cl a b + (1 : Int32)) (nI (b + 1)) (by rw [mSame]; congr 1; first | exact (if_pos ⟨by assumption, by assumption, by assumption⟩).symm | exact (if_neg (by grind)).symm) rfl (by omega) (by omega) ls (lv_sub hl [2, 3, 4, 5, 6, 1, 0] rfl)
        exact loop_18 ((9 - 0) + 1) 0 (0 : Int32) (0 : Int32) rfl rfl (by omega) (by omega) ls (lv_sub hl [2, 3, 4, 5, 6, 1, 0] rfl)
  exact loop_5 ((9 - 0) + 1) 0 (0 : Int32) (0 : Int32) rfl rfl (by omega) (by omega) ls (lv_sub hl [2, 3, 4, 1, 0] rfl)
set_option maxHeartbeats 1000000 in
set_option maxRecDepth 100000 in
theorem c_X4_lookNow (l : Launch) (D : va_G) (cI cB cS : ClassId) {A : Nat → Nat} {I : Nat → Int32} {J : Nat → Int64} {F : Nat → Nat → Int32} {n : Nat} (hn : n ≤ 6) (h1 : I 1 = nI n) {fd : Nat} (hfd : fd ≤ 6) (h9 : I 9 = nI fd) {k : Nat} (hk : k < 6) (p1 : Int32) : Met l yX4_lookNow (Wm yX4_lookNow cX4_lookNow 8 (some .int)) ({ frames := 6, cells := 0, slots := 0, locals := 142 }) (va_Pc [.ref (A 0), .int (nI k), .int p1] (PW D (TYS cI cB cS) (wsM A cI cB I J F))) (QcW D (some (.int (mLookN F (I 6) n fd k p1))) (wsM A cI cB I J F) (wsM A cI cB I J (va_up F 15 (mLay F (I 6) n k p1 (F 15))))) 0 0 (FPw (wsM A cI cB I J F)) := by
  refine metW (by decide) [.ref (A 0), .int (nI k), .int p1] (Nat.le_of_ble_eq_true rfl) ?_
  intro p e s m args below meth c hx hb hml hr hlk hown hts hKK hP hD hS ls hl
  obtain ⟨hK, hN⟩ := id hKK
  have hl : lv_has ls 8 [(0, .ref (A 0)), (1, .int (nI k)), (2, .int p1)] := hl
  refine lv_aload_n hx hb dX4_lookNow_0 rfl (lv_at hl 0 rfl) ?_
  refine lv_iload_n hx hb dX4_lookNow_1 rfl (lv_at hl 1 rfl) ?_
  refine wcVi (As := [.int (nI k)]) (rest := []) hx hb hml hown hts hKK hP hD hS (c_X4_heavyOf l D cI cB cS hn h1 hfd h9 (k := k) (by omega)) (cwV2 1 hts kw_311 kw_6 kw_308 kw_309 kw_310 rfl rfl (by decide +kernel) ⟨Nat.le_of_ble_eq_true rfl, Nat.le_of_ble_eq_true rfl⟩) 0 rfl rfl rfl rfl hl.1 rfl (Nat.le_of_ble_eq_true rfl) ⟨Nat.zero_le _, Nat.zero_le _⟩ dX4_lookNow_2 (fun H locs hP hS => ?_)
  have hP : va_P D vwCl (wsM A cI cB I J F) H := hP
  have hD : va_D (FPw (wsM A cI cB I J F)) (wsM A cI cB I J F) := va_D_addr (ws := (wsM A cI cB I J F)) rfl hD
  refine topE (z := (mHeavy F (I 6) n fd k)) rfl ?_
  refine lv_topi (fun bt ebt => ?_)
  refine lv_istore_n (lv' := [(3, .int bt), (0, .ref (A 0)), (1, .int (nI k)), (2, .int p1)]) hx hb dX4_lookNow_5 rfl hl (by decide) rfl (fun ls hl => ?_)
  refine lv_iconst (v := (-1 : Int32)) hx hb dX4_lookNow_6 (by decide) ?_
  refine lv_istore (lv' := [(4, .int (-1 : Int32)), (3, .int bt), (0, .ref (A 0)), (1, .int (nI k)), (2, .int p1)]) hx hb dX4_lookNow_7 hl (by decide) rfl (fun ls hl => ?_)
  refine lv_iload_n hx hb dX4_lookNow_9 rfl (lv_at hl 1 rfl) ?_
  refine lv_if_ne (tgt := 17) hx hb dX4_lookNow_10 (by decide) (fun c_1 => ?_) (fun c_1 => ?_)
  · refine lv_ldc (v := (268435456 : Int32)) hx hb hown (hts _ kw_528) dX4_lookNow_17 ?_
    refine lv_istore (lv' := [(5, .int (268435456 : Int32)), (4, .int (-1 : Int32)), (3, .int bt), (0, .ref (A 0)), (1, .int (nI k)), (2, .int p1)]) hx hb dX4_lookNow_19 hl (by decide) rfl (fun ls hl => ?_)
    refine lv_aload_n hx hb dX4_lookNow_21 rfl (lv_at hl 3 rfl) ?_
    refine lv_iload_n hx hb dX4_lookNow_22 rfl (lv_at hl 4 rfl) ?_
    refine lv_iload_n hx hb dX4_lookNow_23 rfl (lv_at hl 5 rfl) ?_
    refine wcVv (As := [.int (nI k), .int p1]) (rest := []) hx hb hml hown hts hKK hP hD hS (c_X4_layComes l D cI cB cS hn h1 (k := k) (by omega) p1) (cwV2 2 hts kw_532 kw_6 kw_529 kw_530 kw_531 rfl rfl (by decide +kernel) ⟨Nat.le_of_ble_eq_true rfl, Nat.le_of_ble_eq_true rfl⟩) 0 rfl rfl rfl rfl hl.1 rfl (Nat.le_of_ble_eq_true rfl) ⟨Nat.zero_le _, Nat.zero_le _⟩ dX4_lookNow_24 (fun H locs hP hS => ?_)
    have hP : va_P D vwCl (wsM A cI cB I J (va_up F 15 (mLay F (I 6) n k p1 (F 15)))) H := hP
    have hD : va_D (FPw (wsM A cI cB I J F)) (wsM A cI cB I J (va_up F 15 (mLay F (I 6) n k p1 (F 15)))) := va_D_addr (ws := (wsM A cI cB I J F)) rfl hD
    refine lv_iconst (v := (0 : Int32)) hx hb dX4_lookNow_27 (by decide) ?_
    refine lv_istore (lv' := [(6, .int (0 : Int32)), (5, .int (268435456 : Int32)), (4, .int (-1 : Int32)), (3, .int bt), (0, .ref (A 0)), (1, .int (nI k)), (2, .int p1)]) hx hb dX4_lookNow_28 hl (by decide) rfl (fun ls hl => ?_)
    have loop_30 : ∀ (z : Nat) (cl : Nat) (l0 : Int32) (x4 : Int32) (x5 : Int32) (x6 : Int32), x4 = mBest (mWb (mG F (I 6) n k p1) bt) l0 cl → x5 = mLeast (mWb (mG F (I 6) n k p1) bt) l0 cl → x6 = nI cl → (cl ≤ 10) → (l0 = mL0 bt) → 10 - cl < z → ∀ (H : Heap) (locs : List Loc), va_P D vwCl (wsM A cI cB I J (va_up F 15 (mLay F (I 6) n k p1 (F 15)))) H → va_S (FPw (wsM A cI cB I J F)) s.heap H locs → ∀ (ls : Array Slot), lv_has ls 8 [(0, .ref (A 0)), (1, .int (nI k)), (2, .int p1), (3, .int bt), (4, .int x4), (5, .int x5), (6, .int x6)] → W p l e ({ frames := 6, cells := 0, slots := 0, locals := 142 } : Room) s m args below meth c H locs 0 0 (MQ below (QcW D (some (.int (mLookN F (I 6) n fd k p1))) (wsM A cI cB I J F) (wsM A cI cB I J (va_up F 15 (mLay F (I 6) n k p1 (F 15))))) args s 0 0 (FPw (wsM A cI cB I J F))) (F0 m 30 ls []) := by
      intro z
      induction z with
      | zero =>
        intro cl l0 x4 x5 x6 ex4 ex5 ex6 hc hl0 hz
        exact absurd hz (Nat.not_lt_zero _)
      | succ z ih_30 =>
        intro cl l0 x4 x5 x6 ex4 ex5 ex6 hc hl0 hz H locs hP hS ls hl
        subst ex4
        subst ex5
        subst ex6
        have hD := va_D_addr (ws := (wsM A cI cB I J (va_up F 15 (mLay F (I 6) n k p1 (F 15))))) (ws' := (wsM A cI cB I J (va_up F 15 (mLay F (I 6) n k p1 (F 15))))) rfl hD
        refine lv_iload hx hb dX4_lookNow_30 (lv_at hl 6 rfl) ?_
        refine lv_bipush (v := (10 : Int32)) hx hb dX4_lookNow_32 (by decide) ?_
        refine lv_icmp_ge (tgt := 84) hx hb dX4_lookNow_34 (by decide) (fun c_2 => ?_) (fun c_2 => ?_)
        · have nc_2 : 10 ≤ cl := (nI_leI (a := 10) (b := cl) (by omega) (by omega)).mp c_2
          refine lv_iload hx hb dX4_lookNow_84 (lv_at hl 4 rfl) ?_
          exact retWi hx hb hr hlk hP hS dX4_lookNow_86 (by have hcn : cl = 10 := (by omega); subst hcn; rw [hl0, ebt, mLookN]) rfl
        · have nc_2 : ¬ 10 ≤ cl := fun h => c_2 ((nI_leI (a := 10) (b := cl) (by omega) (by omega)).mpr h)
          refine lv_aload_n hx hb dX4_lookNow_37 rfl (lv_at hl 0 rfl) ?_
          refine lv_iload_n hx hb dX4_lookNow_38 rfl (lv_at hl 3 rfl) ?_
          refine lv_iload hx hb dX4_lookNow_39 (lv_at hl 6 rfl) ?_
          refine rcVi (As := [.int bt, .int (nI cl)]) (rest := []) hx hb hml hown hts hKK hP (c_X4_worstAt l D cI cB cS hn h1 (cl := cl) (by omega) bt) (cwV2 2 hts kw_536 kw_6 kw_533 kw_534 kw_535 rfl rfl (by decide +kernel) ⟨Nat.le_of_ble_eq_true rfl, Nat.le_of_ble_eq_true rfl⟩) 0 rfl rfl rfl rfl hl.1 rfl (Nat.le_of_ble_eq_true rfl) ⟨Nat.zero_le _, Nat.zero_le _⟩ dX4_lookNow_41 ?_
          refine topE (z := (mWorst (mLay F (I 6) n k p1 (F 15)) bt cl 9)) rfl ?_
          refine topE (z := ((mWb (mG F (I 6) n k p1) bt) cl)) (mWorst_congr (fun i hi => layF_in hi) (by omega) 9 (Nat.le_refl 9)) ?_
          refine lv_istore (lv' := [(7, .int ((mWb (mG F (I 6) n k p1) bt) cl)), (0, .ref (A 0)), (1, .int (nI k)), (2, .int p1), (3, .int bt), (4, .int (mBest (mWb (mG F (I 6) n k p1) bt) l0 cl)), (5, .int (mLeast (mWb (mG F (I 6) n k p1) bt) l0 cl)), (6, .int (nI cl))]) hx hb dX4_lookNow_44 hl (by decide) rfl (fun ls hl => ?_)
          refine lv_iload hx hb dX4_lookNow_46 (lv_at hl 0 rfl) ?_
          refine lv_iload hx hb dX4_lookNow_48 (lv_at hl 6 rfl) ?_
          refine lv_icmp_ge (tgt := 58) hx hb dX4_lookNow_50 (by decide) (fun c_3 => ?_) (fun c_3 => ?_)
          · refine lv_iload hx hb dX4_lookNow_58 (lv_at hl 5 rfl) ?_
            refine lv_istore (lv' := [(4, .int (mBest (mWb (mG F (I 6) n k p1) bt) l0 cl)), (7, .int ((mWb (mG F (I 6) n k p1) bt) cl)), (0, .ref (A 0)), (1, .int (nI k)), (2, .int p1), (3, .int bt), (5, .int (mLeast (mWb (mG F (I 6) n k p1) bt) l0 cl)), (6, .int (nI cl))]) hx hb dX4_lookNow_60 hl (by decide) rfl (fun ls hl => ?_)
            refine lv_iload hx hb dX4_lookNow_62 (lv_at hl 1 rfl) ?_
            refine lv_iload hx hb dX4_lookNow_64 (lv_at hl 6 rfl) ?_
            refine lv_icmp_ge (tgt := 74) hx hb dX4_lookNow_66 (by decide) (fun c_4 => ?_) (fun c_4 => ?_)
            · refine lv_iload hx hb dX4_lookNow_74 (lv_at hl 6 rfl) ?_
              refine lv_istore (lv' := [(5, .int (mLeast (mWb (mG F (I 6) n k p1) bt) l0 cl)), (4, .int (mBest (mWb (mG F (I 6) n k p1) bt) l0 cl)), (7, .int ((mWb (mG F (I 6) n k p1) bt) cl)), (0, .ref (A 0)), (1, .int (nI k)), (2, .int p1), (3, .int bt), (6, .int (nI cl))]) hx hb dX4_lookNow_76 hl (by decide) rfl (fun ls hl => ?_)
              refine lv_iinc (v := (nI (cl + 1))) (lv' := [(6, .int (nI (cl + 1))), (5, .int (mLeast (mWb (mG F (I 6) n k p1) bt) l0 cl)), (4, .int (mBest (mWb (mG F (I 6) n k p1) bt) l0 cl)), (7, .int ((mWb (mG F (I 6) n k p1) bt) cl)), (0, .ref (A 0)), (1, .int (nI k)), (2, .int p1), (3, .int bt)]) hx hb dX4_lookNow_78 hl (k := 7) rfl (nI_add cl 1) (by decide) rfl (fun ls hl => ?_)
              refine lv_goto (tgt := 30) hx hb dX4_lookNow_81 (by decide) ?_
              have hP9 : va_P D vwCl (wsM A cI cB I J (va_up F 15 (mLay F (I 6) n k p1 (F 15)))) H := by exact hP
              exact ih_30 (cl + 1) l0 (mBest (mWb (mG F (I 6) n k p1) bt) l0 cl) (mLeast (mWb (mG F (I 6) n k p1) bt) l0 cl) (nI (cl + 1)) (by rw [mBest, if_pos c_3]) (by rw [mLeast, if_pos c_4]) rfl (by omega) (by exact hl0) (by omega) H locs hP9 hS ls (lv_sub hl [4, 5, 6, 7, 2, 1, 0] rfl)
            · refine lv_iload hx hb dX4_lookNow_69 (lv_at hl 1 rfl) ?_
              refine lv_goto (tgt := 76) hx hb dX4_lookNow_71 (by decide) ?_
              refine lv_istore (lv' := [(5, .int ((mWb (mG F (I 6) n k p1) bt) cl)), (4, .int (mBest (mWb (mG F (I 6) n k p1) bt) l0 cl)), (7, .int ((mWb (mG F (I 6) n k p1) bt) cl)), (0, .ref (A 0)), (1, .int (nI k)), (2, .int p1), (3, .int bt), (6, .int (nI cl))]) hx hb dX4_lookNow_76 hl (by decide) rfl (fun ls hl => ?_)
              refine lv_iinc (v := (nI (cl + 1))) (lv' := [(6, .int (nI (cl + 1))), (5, .int ((mWb (mG F (I 6) n k p1) bt) cl)), (4, .int (mBest (mWb (mG F (I 6) n k p1) bt) l0 cl)), (7, .int ((mWb (mG F (I 6) n k p1) bt) cl)), (0, .ref (A 0)), (1, .int (nI k)), (2, .int p1), (3, .int bt)]) hx hb dX4_lookNow_78 hl (k := 7) rfl (nI_add cl 1) (by decide) rfl (fun ls hl => ?_)
              refine lv_goto (tgt := 30) hx hb dX4_lookNow_81 (by decide) ?_
              have hP9 : va_P D vwCl (wsM A cI cB I J (va_up F 15 (mLay F (I 6) n k p1 (F 15)))) H := by exact hP
              exact ih_30 (cl + 1) l0 (mBest (mWb (mG F (I 6) n k p1) bt) l0 cl) ((mWb (mG F (I 6) n k p1) bt) cl) (nI (cl + 1)) (by rw [mBest, if_pos c_3]) (by rw [mLeast, if_neg c_4]) rfl (by omega) (by exact hl0) (by omega) H locs hP9 hS ls (lv_sub hl [4, 5, 6, 7, 2, 1, 0] rfl)
          · refine lv_iload hx hb dX4_lookNow_53 (lv_at hl 7 rfl) ?_
            refine lv_goto (tgt := 60) hx hb dX4_lookNow_55 (by decide) ?_
            refine lv_istore (lv' := [(4, .int (nI cl)), (7, .int ((mWb (mG F (I 6) n k p1) bt) cl)), (0, .ref (A 0)), (1, .int (nI k)), (2, .int p1), (3, .int bt), (5, .int (mLeast (mWb (mG F (I 6) n k p1) bt) l0 cl)), (6, .int (nI cl))]) hx hb dX4_lookNow_60 hl (by decide) rfl (fun ls hl => ?_)
            refine lv_iload hx hb dX4_lookNow_62 (lv_at hl 1 rfl) ?_
            refine lv_iload hx hb dX4_lookNow_64 (lv_at hl 6 rfl) ?_
            refine lv_icmp_ge (tgt := 74) hx hb dX4_lookNow_66 (by decide) (fun c_5 => ?_) (fun c_5 => ?_)
            · refine lv_iload hx hb dX4_lookNow_74 (lv_at hl 6 rfl) ?_
              refine lv_istore (lv' := [(5, .int (mLeast (mWb (mG F (I 6) n k p1) bt) l0 cl)), (4, .int (nI cl)), (7, .int ((mWb (mG F (I 6) n k p1) bt) cl)), (0, .ref (A 0)), (1, .int (nI k)), (2, .int p1), (3, .int bt), (6, .int (nI cl))]) hx hb dX4_lookNow_76 hl (by decide) rfl (fun ls hl => ?_)
              refine lv_iinc (v := (nI (cl + 1))) (lv' := [(6, .int (nI (cl + 1))), (5, .int (mLeast (mWb (mG F (I 6) n k p1) bt) l0 cl)), (4, .int (nI cl)), (7, .int ((mWb (mG F (I 6) n k p1) bt) cl)), (0, .ref (A 0)), (1, .int (nI k)), (2, .int p1), (3, .int bt)]) hx hb dX4_lookNow_78 hl (k := 7) rfl (nI_add cl 1) (by decide) rfl (fun ls hl => ?_)
              refine lv_goto (tgt := 30) hx hb dX4_lookNow_81 (by decide) ?_
              have hP9 : va_P D vwCl (wsM A cI cB I J (va_up F 15 (mLay F (I 6) n k p1 (F 15)))) H := by exact hP
              exact ih_30 (cl + 1) l0 (nI cl) (mLeast (mWb (mG F (I 6) n k p1) bt) l0 cl) (nI (cl + 1)) (by rw [mBest, if_neg c_3]) (by rw [mLeast, if_pos c_5]) rfl (by omega) (by exact hl0) (by omega) H locs hP9 hS ls (lv_sub hl [4, 5, 6, 7, 2, 1, 0] rfl)
            · refine lv_iload hx hb dX4_lookNow_69 (lv_at hl 1 rfl) ?_
              refine lv_goto (tgt := 76) hx hb dX4_lookNow_71 (by decide) ?_
              refine lv_istore (lv' := [(5, .int ((mWb (mG F (I 6) n k p1) bt) cl)), (4, .int (nI cl)), (7, .int ((mWb (mG F (I 6) n k p1) bt) cl)), (0, .ref (A 0)), (1, .int (nI k)), (2, .int p1), (3, .int bt), (6, .int (nI cl))]) hx hb dX4_lookNow_76 hl (by decide) rfl (fun ls hl => ?_)
              refine lv_iinc (v := (nI (cl + 1))) (lv' := [(6, .int (nI (cl + 1))), (5, .int ((mWb (mG F (I 6) n k p1) bt) cl)), (4, .int (nI cl)), (7, .int ((mWb (mG F (I 6) n k p1) bt) cl)), (0, .ref (A 0)), (1, .int (nI k)), (2, .int p1), (3, .int bt)]) hx hb dX4_lookNow_78 hl (k := 7) rfl (nI_add cl 1) (by decide) rfl (fun ls hl => ?_)
              refine lv_goto (tgt := 30) hx hb dX4_lookNow_81 (by decide) ?_
              have hP9 : va_P D vwCl (wsM A cI cB I J (va_up F 15 (mLay F (I 6) n k p1 (F 15)))) H := by exact hP
              exact ih_30 (cl + 1) l0 (nI cl) ((mWb (mG F (I 6) n k p1) bt) cl) (nI (cl + 1)) (by rw [mBest, if_neg c_3]) (by rw [mLeast, if_neg c_5]) rfl (by omega) (by exact hl0) (by omega) H locs hP9 hS ls (lv_sub hl [4, 5, 6, 7, 2, 1, 0] rfl)
    have hP9 : va_P D vwCl (wsM A cI cB I J (va_up F 15 (mLay F (I 6) n k p1 (F 15)))) H := by exact hP
    exact loop_30 ((10 - 0) + 1) 0 (268435456 : Int32) (-1 : Int32) (268435456 : Int32) (0 : Int32) rfl rfl rfl (by omega) (by rw [mL0, if_neg c_1]) (by omega) H locs hP9 hS ls (lv_sub hl [4, 5, 6, 3, 2, 1, 0] rfl)
  · refine lv_iconst (v := (0 : Int32)) hx hb dX4_lookNow_13 (by decide) ?_
    refine lv_goto (tgt := 19) hx hb dX4_lookNow_14 (by decide) ?_
    refine lv_istore (lv' := [(5, .int (0 : Int32)), (4, .int (-1 : Int32)), (3, .int bt), (0, .ref (A 0)), (1, .int (nI k)), (2, .int p1)]) hx hb dX4_lookNow_19 hl (by decide) rfl (fun ls hl => ?_)
    refine lv_aload_n hx hb dX4_lookNow_21 rfl (lv_at hl 3 rfl) ?_
    refine lv_iload_n hx hb dX4_lookNow_22 rfl (lv_at hl 4 rfl) ?_
    refine lv_iload_n hx hb dX4_lookNow_23 rfl (lv_at hl 5 rfl) ?_
    refine wcVv (As := [.int (nI k), .int p1]) (rest := []) hx hb hml hown hts hKK hP hD hS (c_X4_layComes l D cI cB cS hn h1 (k := k) (by omega) p1) (cwV2 2 hts kw_532 kw_6 kw_529 kw_530 kw_531 rfl rfl (by decide +kernel) ⟨Nat.le_of_ble_eq_true rfl, Nat.le_of_ble_eq_true rfl⟩) 0 rfl rfl rfl rfl hl.1 rfl (Nat.le_of_ble_eq_true rfl) ⟨Nat.zero_le _, Nat.zero_le _⟩ dX4_lookNow_24 (fun H locs hP hS => ?_)
    have hP : va_P D vwCl (wsM A cI cB I J (va_up F 15 (mLay F (I 6) n k p1 (F 15)))) H := hP
    have hD : va_D (FPw (wsM A cI cB I J F)) (wsM A cI cB I J (va_up F 15 (mLay F (I 6) n k p1 (F 15)))) := va_D_addr (ws := (wsM A cI cB I J F)) rfl hD
    refine lv_iconst (v := (0 : Int32)) hx hb dX4_lookNow_27 (by decide) ?_
    refine lv_istore (lv' := [(6, .int (0 : Int32)), (5, .int (0 : Int32)), (4, .int (-1 : Int32)), (3, .int bt), (0, .ref (A 0)), (1, .int (nI k)), (2, .int p1)]) hx hb dX4_lookNow_28 hl (by decide) rfl (fun ls hl => ?_)
    have loop_30 : ∀ (z : Nat) (cl : Nat) (l0 : Int32) (x4 : Int32) (x5 : Int32) (x6 : Int32), x4 = mBest (mWb (mG F (I 6) n k p1) bt) l0 cl → x5 = mLeast (mWb (mG F (I 6) n k p1) bt) l0 cl → x6 = nI cl → (cl ≤ 10) → (l0 = mL0 bt) → 10 - cl < z → ∀ (H : Heap) (locs : List Loc), va_P D vwCl (wsM A cI cB I J (va_up F 15 (mLay F (I 6) n k p1 (F 15)))) H → va_S (FPw (wsM A cI cB I J F)) s.heap H locs → ∀ (ls : Array Slot), lv_has ls 8 [(0, .ref (A 0)), (1, .int (nI k)), (2, .int p1), (3, .int bt), (4, .int x4), (5, .int x5), (6, .int x6)] → W p l e ({ frames := 6, cells := 0, slots := 0, locals := 142 } : Room) s m args below meth c H locs 0 0 (MQ below (QcW D (some (.int (mLookN F (I 6) n fd k p1))) (wsM A cI cB I J F) (wsM A cI cB I J (va_up F 15 (mLay F (I 6) n k p1 (F 15))))) args s 0 0 (FPw (wsM A cI cB I J F))) (F0 m 30 ls []) := by
      intro z
      induction z with
      | zero =>
        intro cl l0 x4 x5 x6 ex4 ex5 ex6 hc hl0 hz
        exact absurd hz (Nat.not_lt_zero _)
      | succ z ih_30 =>
        intro cl l0 x4 x5 x6 ex4 ex5 ex6 hc hl0 hz H locs hP hS ls hl
        subst ex4
        subst ex5
        subst ex6
        have hD := va_D_addr (ws := (wsM A cI cB I J (va_up F 15 (mLay F (I 6) n k p1 (F 15))))) (ws' := (wsM A cI cB I J (va_up F 15 (mLay F (I 6) n k p1 (F 15))))) rfl hD
        refine lv_iload hx hb dX4_lookNow_30 (lv_at hl 6 rfl) ?_
        refine lv_bipush (v := (10 : Int32)) hx hb dX4_lookNow_32 (by decide) ?_
        refine lv_icmp_ge (tgt := 84) hx hb dX4_lookNow_34 (by decide) (fun c_6 => ?_) (fun c_6 => ?_)
        · have nc_6 : 10 ≤ cl := (nI_leI (a := 10) (b := cl) (by omega) (by omega)).mp c_6
          refine lv_iload hx hb dX4_lookNow_84 (lv_at hl 4 rfl) ?_
          exact retWi hx hb hr hlk hP hS dX4_lookNow_86 (by have hcn : cl = 10 := (by omega); subst hcn; rw [hl0, ebt, mLookN]) rfl
        · have nc_6 : ¬ 10 ≤ cl := fun h => c_6 ((nI_leI (a := 10) (b := cl) (by omega) (by omega)).mpr h)
          refine lv_aload_n hx hb dX4_lookNow_37 rfl (lv_at hl 0 rfl) ?_
          refine lv_iload_n hx hb dX4_lookNow_38 rfl (lv_at hl 3 rfl) ?_
          refine lv_iload hx hb dX4_lookNow_39 (lv_at hl 6 rfl) ?_
          refine rcVi (As := [.int bt, .int (nI cl)]) (rest := []) hx hb hml hown hts hKK hP (c_X4_worstAt l D cI cB cS hn h1 (cl := cl) (by omega) bt) (cwV2 2 hts kw_536 kw_6 kw_533 kw_534 kw_535 rfl rfl (by decide +kernel) ⟨Nat.le_of_ble_eq_true rfl, Nat.le_of_ble_eq_true rfl⟩) 0 rfl rfl rfl rfl hl.1 rfl (Nat.le_of_ble_eq_true rfl) ⟨Nat.zero_le _, Nat.zero_le _⟩ dX4_lookNow_41 ?_
          refine topE (z := (mWorst (mLay F (I 6) n k p1 (F 15)) bt cl 9)) rfl ?_
          refine topE (z := ((mWb (mG F (I 6) n k p1) bt) cl)) (mWorst_congr (fun i hi => layF_in hi) (by omega) 9 (Nat.le_refl 9)) ?_
          refine lv_istore (lv' := [(7, .int ((mWb (mG F (I 6) n k p1) bt) cl)), (0, .ref (A 0)), (1, .int (nI k)), (2, .int p1), (3, .int bt), (4, .int (mBest (mWb (mG F (I 6) n k p1) bt) l0 cl)), (5, .int (mLeast (mWb (mG F (I 6) n k p1) bt) l0 cl)), (6, .int (nI cl))]) hx hb dX4_lookNow_44 hl (by decide) rfl (fun ls hl => ?_)
          refine lv_iload hx hb dX4_lookNow_46 (lv_at hl 0 rfl) ?_
          refine lv_iload hx hb dX4_lookNow_48 (lv_at hl 6 rfl) ?_
          refine lv_icmp_ge (tgt := 58) hx hb dX4_lookNow_50 (by decide) (fun c_7 => ?_) (fun c_7 => ?_)
          · refine lv_iload hx hb dX4_lookNow_58 (lv_at hl 5 rfl) ?_
            refine lv_istore (lv' := [(4, .int (mBest (mWb (mG F (I 6) n k p1) bt) l0 cl)), (7, .int ((mWb (mG F (I 6) n k p1) bt) cl)), (0, .ref (A 0)), (1, .int (nI k)), (2, .int p1), (3, .int bt), (5, .int (mLeast (mWb (mG F (I 6) n k p1) bt) l0 cl)), (6, .int (nI cl))]) hx hb dX4_lookNow_60 hl (by decide) rfl (fun ls hl => ?_)
            refine lv_iload hx hb dX4_lookNow_62 (lv_at hl 1 rfl) ?_
            refine lv_iload hx hb dX4_lookNow_64 (lv_at hl 6 rfl) ?_
            refine lv_icmp_ge (tgt := 74) hx hb dX4_lookNow_66 (by decide) (fun c_8 => ?_) (fun c_8 => ?_)
            · refine lv_iload hx hb dX4_lookNow_74 (lv_at hl 6 rfl) ?_
              refine lv_istore (lv' := [(5, .int (mLeast (mWb (mG F (I 6) n k p1) bt) l0 cl)), (4, .int (mBest (mWb (mG F (I 6) n k p1) bt) l0 cl)), (7, .int ((mWb (mG F (I 6) n k p1) bt) cl)), (0, .ref (A 0)), (1, .int (nI k)), (2, .int p1), (3, .int bt), (6, .int (nI cl))]) hx hb dX4_lookNow_76 hl (by decide) rfl (fun ls hl => ?_)
              refine lv_iinc (v := (nI (cl + 1))) (lv' := [(6, .int (nI (cl + 1))), (5, .int (mLeast (mWb (mG F (I 6) n k p1) bt) l0 cl)), (4, .int (mBest (mWb (mG F (I 6) n k p1) bt) l0 cl)), (7, .int ((mWb (mG F (I 6) n k p1) bt) cl)), (0, .ref (A 0)), (1, .int (nI k)), (2, .int p1), (3, .int bt)]) hx hb dX4_lookNow_78 hl (k := 7) rfl (nI_add cl 1) (by decide) rfl (fun ls hl => ?_)
              refine lv_goto (tgt := 30) hx hb dX4_lookNow_81 (by decide) ?_
              have hP9 : va_P D vwCl (wsM A cI cB I J (va_up F 15 (mLay F (I 6) n k p1 (F 15)))) H := by exact hP
              exact ih_30 (cl + 1) l0 (mBest (mWb (mG F (I 6) n k p1) bt) l0 cl) (mLeast (mWb (mG F (I 6) n k p1) bt) l0 cl) (nI (cl + 1)) (by rw [mBest, if_pos c_7]) (by rw [mLeast, if_pos c_8]) rfl (by omega) (by exact hl0) (by omega) H locs hP9 hS ls (lv_sub hl [4, 5, 6, 7, 2, 1, 0] rfl)
            · refine lv_iload hx hb dX4_lookNow_69 (lv_at hl 1 rfl) ?_
              refine lv_goto (tgt := 76) hx hb dX4_lookNow_71 (by decide) ?_
              refine lv_istore (lv' := [(5, .int ((mWb (mG F (I 6) n k p1) bt) cl)), (4, .int (mBest (mWb (mG F (I 6) n k p1) bt) l0 cl)), (7, .int ((mWb (mG F (I 6) n k p1) bt) cl)), (0, .ref (A 0)), (1, .int (nI k)), (2, .int p1), (3, .int bt), (6, .int (nI cl))]) hx hb dX4_lookNow_76 hl (by decide) rfl (fun ls hl => ?_)
              refine lv_iinc (v := (nI (cl + 1))) (lv' := [(6, .int (nI (cl + 1))), (5, .int ((mWb (mG F (I 6) n k p1) bt) cl)), (4, .int (mBest (mWb (mG F (I 6) n k p1) bt) l0 cl)), (7, .int ((mWb (mG F (I 6) n k p1) bt) cl)), (0, .ref (A 0)), (1, .int (nI k)), (2, .int p1), (3, .int bt)]) hx hb dX4_lookNow_78 hl (k := 7) rfl (nI_add cl 1) (by decide) rfl (fun ls hl => ?_)
              refine lv_goto (tgt := 30) hx hb dX4_lookNow_81 (by decide) ?_
              have hP9 : va_P D vwCl (wsM A cI cB I J (va_up F 15 (mLay F (I 6) n k p1 (F 15)))) H := by exact hP
              exact ih_30 (cl + 1) l0 (mBest (mWb (mG F (I 6) n k p1) bt) l0 cl) ((mWb (mG F (I 6) n k p1) bt) cl) (nI (cl + 1)) (by rw [mBest, if_pos c_7]) (by rw [mLeast, if_neg c_8]) rfl (by omega) (by exact hl0) (by omega) H locs hP9 hS ls (lv_sub hl [4, 5, 6, 7, 2, 1, 0] rfl)
          · refine lv_iload hx hb dX4_lookNow_53 (lv_at hl 7 rfl) ?_
            refine lv_goto (tgt := 60) hx hb dX4_lookNow_55 (by decide) ?_
            refine lv_istore (lv' := [(4, .int (nI cl)), (7, .int ((mWb (mG F (I 6) n k p1) bt) cl)), (0, .ref (A 0)), (1, .int (nI k)), (2, .int p1), (3, .int bt), (5, .int (mLeast (mWb (mG F (I 6) n k p1) bt) l0 cl)), (6, .int (nI cl))]) hx hb dX4_lookNow_60 hl (by decide) rfl (fun ls hl => ?_)
            refine lv_iload hx hb dX4_lookNow_62 (lv_at hl 1 rfl) ?_
            refine lv_iload hx hb dX4_lookNow_64 (lv_at hl 6 rfl) ?_
            refine lv_icmp_ge (tgt := 74) hx hb dX4_lookNow_66 (by decide) (fun c_9 => ?_) (fun c_9 => ?_)
            · refine lv_iload hx hb dX4_lookNow_74 (lv_at hl 6 rfl) ?_
              refine lv_istore (lv' := [(5, .int (mLeast (mWb (mG F (I 6) n k p1) bt) l0 cl)), (4, .int (nI cl)), (7, .int ((mWb (mG F (I 6) n k p1) bt) cl)), (0, .ref (A 0)), (1, .int (nI k)), (2, .int p1), (3, .int bt), (6, .int (nI cl))]) hx hb dX4_lookNow_76 hl (by decide) rfl (fun ls hl => ?_)
              refine lv_iinc (v := (nI (cl + 1))) (lv' := [(6, .int (nI (cl + 1))), (5, .int (mLeast (mWb (mG F (I 6) n k p1) bt) l0 cl)), (4, .int (nI cl)), (7, .int ((mWb (mG F (I 6) n k p1) bt) cl)), (0, .ref (A 0)), (1, .int (nI k)), (2, .int p1), (3, .int bt)]) hx hb dX4_lookNow_78 hl (k := 7) rfl (nI_add cl 1) (by decide) rfl (fun ls hl => ?_)
              refine lv_goto (tgt := 30) hx hb dX4_lookNow_81 (by decide) ?_
              have hP9 : va_P D vwCl (wsM A cI cB I J (va_up F 15 (mLay F (I 6) n k p1 (F 15)))) H := by exact hP
              exact ih_30 (cl + 1) l0 (nI cl) (mLeast (mWb (mG F (I 6) n k p1) bt) l0 cl) (nI (cl + 1)) (by rw [mBest, if_neg c_7]) (by rw [mLeast, if_pos c_9]) rfl (by omega) (by exact hl0) (by omega) H locs hP9 hS ls (lv_sub hl [4, 5, 6, 7, 2, 1, 0] rfl)
            · refine lv_iload hx hb dX4_lookNow_69 (lv_at hl 1 rfl) ?_
              refine lv_goto (tgt := 76) hx hb dX4_lookNow_71 (by decide) ?_
              refine lv_istore (lv' := [(5, .int ((mWb (mG F (I 6) n k p1) bt) cl)), (4, .int (nI cl)), (7, .int ((mWb (mG F (I 6) n k p1) bt) cl)), (0, .ref (A 0)), (1, .int (nI k)), (2, .int p1), (3, .int bt), (6, .int (nI cl))]) hx hb dX4_lookNow_76 hl (by decide) rfl (fun ls hl => ?_)
              refine lv_iinc (v := (nI (cl + 1))) (lv' := [(6, .int (nI (cl + 1))), (5, .int ((mWb (mG F (I 6) n k p1) bt) cl)), (4, .int (nI cl)), (7, .int ((mWb (mG F (I 6) n k p1) bt) cl)), (0, .ref (A 0)), (1, .int (nI k)), (2, .int p1), (3, .int bt)]) hx hb dX4_lookNow_78 hl (k := 7) rfl (nI_add cl 1) (by decide) rfl (fun ls hl => ?_)
              refine lv_goto (tgt := 30) hx hb dX4_lookNow_81 (by decide) ?_
              have hP9 : va_P D vwCl (wsM A cI cB I J (va_up F 15 (mLay F (I 6) n k p1 (F 15)))) H := by exact hP
              exact ih_30 (cl + 1) l0 (nI cl) ((mWb (mG F (I 6) n k p1) bt) cl) (nI (cl + 1)) (by rw [mBest, if_neg c_7]) (by rw [mLeast, if_neg c_9]) rfl (by omega) (by exact hl0) (by omega) H locs hP9 hS ls (lv_sub hl [4, 5, 6, 7, 2, 1, 0] rfl)
    have hP9 : va_P D vwCl (wsM A cI cB I J (va_up F 15 (mLay F (I 6) n k p1 (F 15)))) H := by exact hP
    exact loop_30 ((10 - 0) + 1) 0 (0 : Int32) (-1 : Int32) (0 : Int32) (0 : Int32) rfl rfl rfl (by omega) (by rw [mL0, if_pos c_1]) (by omega) H locs hP9 hS ls (lv_sub hl [4, 5, 6, 3, 2, 1, 0] rfl)
set_option maxHeartbeats 1000000 in
set_option maxRecDepth 100000 in
theorem c_X4_look (l : Launch) (D : va_G) (cI cB cS : ClassId) {A : Nat → Nat} {I : Nat → Int32} {J : Nat → Int64} {F : Nat → Nat → Int32} {n : Nat} (hn : n ≤ 6) (h1 : I 1 = nI n) {fd : Nat} (hfd : fd ≤ 6) (h9 : I 9 = nI fd) (p0 p1 : Int32) : Met l yX4_look (Wm yX4_look cX4_look 3 (some .int)) ({ frames := 7, cells := 0, slots := 0, locals := 169 }) (va_Pc [.ref (A 0), .int p0, .int p1] (PW D (TYS cI cB cS) (wsM A cI cB I J F))) (QcW D (some (.int (mLook F (I 6) n fd p0 p1))) (wsM A cI cB I J F) (if okS n p0 ∧ okMin p1 then wsM A cI cB I J (va_up F 15 (mLay F (I 6) n p0.toNatClampNeg p1 (F 15))) else wsM A cI cB I J F)) 0 0 (FPw (wsM A cI cB I J F)) := by
  refine metW (by decide) [.ref (A 0), .int p0, .int p1] (Nat.le_of_ble_eq_true rfl) ?_
  intro p e s m args below meth c hx hb hml hr hlk hown hts hKK hP hD hS ls hl
  obtain ⟨hK, hN⟩ := id hKK
  have hl : lv_has ls 3 [(0, .ref (A 0)), (1, .int p0), (2, .int p1)] := hl
  refine lv_aload_n hx hb dX4_look_0 rfl (lv_at hl 0 rfl) ?_
  refine lv_iload_n hx hb dX4_look_1 rfl (lv_at hl 1 rfl) ?_
  refine rcVi (As := [.int p0]) (rest := []) hx hb hml hown hts hKK hP (c_X4_isStroke l D cI cB cS hn h1 p0) (cwV2 1 hts kw_303 kw_6 kw_300 kw_301 kw_302 rfl rfl (by decide +kernel) ⟨Nat.le_of_ble_eq_true rfl, Nat.le_of_ble_eq_true rfl⟩) 0 rfl rfl rfl rfl hl.1 rfl (Nat.le_of_ble_eq_true rfl) ⟨Nat.zero_le _, Nat.zero_le _⟩ dX4_look_2 ?_
  refine lv_if_ne (tgt := 13) hx hb dX4_look_5 (by decide) (fun c_1 => ?_) (fun c_1 => ?_)
  · have c_1 := b2_nz c_1
    obtain ⟨k, hk, hp0⟩ := okS_nat hn c_1
    have hkc : p0.toNatClampNeg = k := by rw [hp0]; exact nI_clamp (by omega)
    refine lv_iload_n hx hb dX4_look_13 rfl (lv_at hl 2 rfl) ?_
    refine rcSi (As := [.int p1]) (rest := []) hx hb hml hown hts hKK hP (c_X4_isMinute l D cI cB cS p1) (cwS2 1 hts kw_383 kw_6 kw_381 kw_382 rfl rfl (by decide +kernel) ⟨Nat.le_of_ble_eq_true rfl, Nat.le_of_ble_eq_true rfl⟩) rfl hl.1 rfl (Nat.le_of_ble_eq_true rfl) ⟨Nat.zero_le _, Nat.zero_le _⟩ dX4_look_14 ?_
    refine lv_if_eq (tgt := 29) hx hb dX4_look_17 (by decide) (fun c_2 => ?_) (fun c_2 => ?_)
    · have c_2 := b2_z c_2
      refine lv_bipush (v := (-102 : Int32)) hx hb dX4_look_29 (by decide) ?_
      exact retWi hx hb hr hlk hP hS dX4_look_31 (by grind [mLook]) (by first | exact (if_pos (by grind)).symm | exact (if_neg (by grind)).symm)
    · have c_2 := b2_nz c_2
      refine lv_aload_n hx hb dX4_look_20 rfl (lv_at hl 0 rfl) ?_
      refine lv_iload_n hx hb dX4_look_21 rfl (lv_at hl 1 rfl) ?_
      refine topE (z := (nI k)) (by exact hp0) ?_
      refine lv_iload_n hx hb dX4_look_22 rfl (lv_at hl 2 rfl) ?_
      refine wcVi (As := [.int (nI k), .int p1]) (rest := []) hx hb hml hown hts hKK hP hD hS (c_X4_lookNow l D cI cB cS hn h1 hfd h9 (k := k) (by omega) p1) (cwV2 2 hts kw_527 kw_6 kw_524 kw_525 kw_526 rfl rfl (by decide +kernel) ⟨Nat.le_of_ble_eq_true rfl, Nat.le_of_ble_eq_true rfl⟩) 0 rfl rfl rfl rfl hl.1 rfl (Nat.le_of_ble_eq_true rfl) ⟨Nat.zero_le _, Nat.zero_le _⟩ dX4_look_23 (fun H locs hP hS => ?_)
      have hP : va_P D vwCl (wsM A cI cB I J (va_up F 15 (mLay F (I 6) n k p1 (F 15)))) H := hP
      have hD : va_D (FPw (wsM A cI cB I J F)) (wsM A cI cB I J (va_up F 15 (mLay F (I 6) n k p1 (F 15)))) := va_D_addr (ws := (wsM A cI cB I J F)) rfl hD
      refine topE (z := (mLookN F (I 6) n fd k p1)) rfl ?_
      refine lv_goto (tgt := 31) hx hb dX4_look_26 (by decide) ?_
      exact retWi hx hb hr hlk hP hS dX4_look_31 (by grind [mLook]) (by rw [if_pos (by grind), hkc])
  · have c_1 := b2_z c_1
    refine lv_bipush (v := (-101 : Int32)) hx hb dX4_look_8 (by decide) ?_
    refine lv_goto (tgt := 31) hx hb dX4_look_10 (by decide) ?_
    exact retWi hx hb hr hlk hP hS dX4_look_31 (by grind [mLook]) (by first | exact (if_pos (by grind)).symm | exact (if_neg (by grind)).symm)
